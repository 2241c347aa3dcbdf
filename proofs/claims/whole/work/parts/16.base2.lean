/-! contracts that leave some rows open; numbers that come from outside -/
theorem xN_eq {x : Int32} (h : 0 ≤ x.toInt) : x = nI x.toInt.toNat := by
  have h2 := Int32.toInt_lt x
  apply Int32.toInt_inj.mp
  rw [zI (by omega)]
  omega
def MX (S : Type) (l : Launch) (y : MethodName) (ws : List Cond) (rm : Room) (G : zG) (av : List Value) (w : va_W) (r : Int32) (w2 : S → va_W) (ok : S → Prop) : Prop :=
  ∀ sz : Nat, Met l y ws rm (va_Pc av (zPre G w sz)) (va_Qi (fun a (u : S) => a = r ∧ ok u) (fun u t => zPost G w (w2 u) sz t) (va_A w sz)) 0 0 (va_A w sz)
theorem MX.enter {S : Type} {l : Launch} {y : MethodName} {ws ws' : List Cond} {rm : Room} {G : zG} {av : List Value} {w : va_W} {w2 : S → va_W} {ok : S → Prop} {cc : ByteArray} {maxL : Nat} {r : Int32} (hy : plainName y.cls = true) (hw : ws = Cond.code y cc maxL (some .int) :: ws') (hlen : (lg_sl av).length ≤ maxL)
    (body : ∀ (p : Program) (e : Env) (s : State) (m : MethodId) (below : List Frame) (meth : Method) (c : Code) (Q : State → Prop) (A : Nat → Prop) (ls : Array Slot), zAt p l e rm G s m av c cc maxL ws y.cls w A ls →
      (∀ (H : Heap) (locs : List Loc) (pc : Nat) (ls2 : Array Slot) (x : Int32) (w3 : va_W) (u : S), x = r → ok u → w3 = w2 u → va_P G.1 vwCl w3 H → va_D A w3 → va_S A s.heap H locs → decode cc pc = .ok (.ireturn, 1) → W p l e rm s m av.toArray below meth c H locs 0 0 Q (F0 m pc ls2 [.int x])) →
      W p l e rm s m av.toArray below meth c s.heap [] 0 0 Q (F0 m 0 ls [])) : MX S l y ws rm G av w r w2 ok := by
  intro sz
  refine Met.ofW (cc := cc) (maxL := maxL) (ret := some .int) hy hw ?_
  intro p e s m args below meth c s₁ B hml hv
  obtain ⟨rfl, hsz, hP, hK, hD0, hE⟩ := hv
  subst hsz
  have hr := B.returns
  have hlocks := B.notSynchronized
  rw [lg_entry_eq]
  refine body p e s m below meth c _ (va_A w s.heap.size) _ ⟨⟨B.exec, B.bytes, hml, findClass_of_methodNamed B.named, atoms_spec (ws := ws) B.pre⟩, fun q h => Or.inr h, hK, hE, hP, hD0.self, va_S.rf, lv_entry av hlen⟩ ?_
  intro H locs pc ls2 x w3 u hxr hok hww hP2 hD2 hS2 hdg
  subst hxr; subst hww
  exact W.zret (ty := .int) B.exec B.bytes hr rfl (fun t ht hW => ⟨⟨x, u, rfl, ⟨rfl, hok⟩, by rw [ht]; exact hP2, va_K.moved hW.alike hK, hD2⟩, hS2.F ht⟩) hS2.2.2 hdg
/-- rows of edges that may stand anywhere -/
abbrev zQ4ok (u : zQ4) : Prop := (∀ i, u.1 i < 8) ∧ (∀ i, u.2.1 i < 8) ∧ (∀ i, u.2.2.1 i < 7) ∧ u.2.2.2 ≤ 16
theorem zTk_lt {s s2 : Nat → Nat} {n B : Nat} (h1 : ∀ i, s i < B) (h2 : ∀ i, s2 i < B) : ∀ i, zTk s s2 n i < B := by
  intro i; unfold zTk; split
  · exact h2 i
  · exact h1 i
theorem zDr_lt {s : Nat → Nat} {j n B : Nat} (h1 : ∀ i, s i < B) : ∀ i, zDr s j n i < B := by
  intro i; unfold zDr; split
  · exact h1 _
  · exact h1 i
theorem zU_lt {s : Nat → Nat} {j x B : Nat} (h1 : ∀ i, s i < B) (hx : x < B) : ∀ i, zU s j x i < B := by
  intro i; unfold zU; split
  · exact hx
  · exact h1 i
theorem zSel_lt {s s2 : Nat → Nat} {sub B : Nat} (h1 : ∀ i, s i < B) (h2 : ∀ i, s2 i < B) : ∀ n i, zSel sub s s2 n i < B := by
  intro n
  induction n with
  | zero => exact h1
  | succ n ih =>
    intro i
    simp only [zSel]
    split
    · exact ih i
    · exact zU_lt ih (h2 n) i
theorem zOB_lt {z : Nat} (h : z < 7) : zOB z < 7 := by unfold zOB; split <;> (try split) <;> omega
theorem zBw_lt {s s2 t2 : Nat → Nat} {n m B : Nat} (h1 : ∀ i, s i < B) (h2 : ∀ i, s2 i < B) (h3 : ∀ i, t2 i < B) : ∀ i, zBw s s2 t2 n m i < B := by
  intro i; unfold zBw; split
  · exact h2 _
  · split
    · exact h3 _
    · exact h1 _
theorem zCh_ok {s t lb : Nat → Nat} {k V d : Nat} (h : zQ4ok (s, t, lb, k)) (hV : V ≤ 8) (hV1 : 1 ≤ V) : zQ4ok (zCh s t lb k V d) := by
  obtain ⟨h1, h2, h3, h4⟩ := h
  have m1 := Nat.mod_lt d (show 0 < V by omega)
  have m2 := Nat.mod_lt (d / 8) (show 0 < V by omega)
  unfold zCh
  split
  · exact ⟨zDr_lt h1, zDr_lt h2, zDr_lt h3, by dsimp only at h4 ⊢; omega⟩
  · split
    · exact ⟨zU_lt h1 (by omega), zU_lt h2 (by omega), zU_lt h3 (by omega), by dsimp only at h4 ⊢; omega⟩
    · exact ⟨h1, h2, h3, h4⟩
theorem zSuE_ok {s t lb : Nat → Nat} {k V gp : Nat} (h : zQ4ok (s, t, lb, k)) (hV : V ≤ 8) : zQ4ok (zSuE s t lb k V gp) := by
  obtain ⟨h1, h2, h3, h4⟩ := h
  unfold zSuE
  split
  · unfold zAdE
    split
    · rename_i h5
      obtain ⟨g1, g2, g3, g4⟩ := h5
      exact ⟨zU_lt h1 (by omega), zU_lt h2 (by omega), zU_lt h3 (by omega), by dsimp only at h4 ⊢; omega⟩
    · exact ⟨h1, h2, h3, h4⟩
  · split
    · split
      · unfold zRmE
        split
        · exact ⟨zDr_lt h1, zDr_lt h2, zDr_lt h3, by dsimp only at h4 ⊢; omega⟩
        · exact ⟨h1, h2, h3, h4⟩
      · exact ⟨h1, h2, h3, h4⟩
    · exact ⟨h1, h2, h3, h4⟩
theorem zSuF_9 {f s t lb : Nat → Nat} {k V gp : Nat} (h : zT9 f) : zT9 (zSuF f s t lb k V gp) := by
  unfold zSuF
  split
  · split
    · exact zMs_9 h
    · exact h
  · exact h
/-! what only the first rows decide -/
theorem zIt_cong {α : Type} {f g : Nat → α → α} : ∀ n, (∀ i a, i < n → f i a = g i a) → ∀ a, zIt f n a = zIt g n a
  | 0, _, _ => rfl
  | n + 1, h, a => by
    show f n (zIt f n a) = g n (zIt g n a)
    rw [zIt_cong n (fun i b hi => h i b (by omega)) a, h n _ (by omega)]
def zSame (k : Nat) (s t lb s' t' lb' : Nat → Nat) : Prop := ∀ i, i < k → s i = s' i ∧ t i = t' i ∧ lb i = lb' i
theorem zCl_cong {k : Nat} {s t lb s' t' lb' : Nat → Nat} (h : zSame k s t lb s' t' lb') {j c : Nat} (hj : j < k) (hc : c < k) (r : Nat) : zCl s t lb j c r = zCl s' t' lb' j c r := by
  unfold zCl
  rw [(h j hj).1, (h j hj).2.1, (h j hj).2.2, (h c hc).1, (h c hc).2.1, (h c hc).2.2]
theorem zPb_cong {k : Nat} {s t lb s' t' lb' : Nat → Nat} (h : zSame k s t lb s' t' lb') {j : Nat} (hj : j < k) (r : Nat) : zPb s t lb k j r = zPb s' t' lb' k j r := by
  unfold zPb
  rw [(h j hj).1, (h j hj).2.1, (h j hj).2.2, zIt_cong k (fun c a hc => zCl_cong h hj hc a) r]
theorem zBp_cong {k : Nat} {s t lb s' t' lb' : Nat → Nat} (h : zSame k s t lb s' t' lb') (V : Nat) : zBp s t lb k V = zBp s' t' lb' k V := by
  unfold zBp
  exact zIt_cong 65 (fun i r _ => by unfold zRd; exact zIt_cong k (fun j a hj => zPb_cong h hj a) r) _
theorem zSel_cong {sub : Nat} {s s' s2 : Nat → Nat} : ∀ n i, i < zCt sub n → zSel sub s s2 n i = zSel sub s' s2 n i
  | 0, _, h => absurd h (Nat.not_lt_zero _)
  | n + 1, i, h => by
    by_cases hb : sub / 2 ^ n % 2 = 0
    · rw [zCt_n hb] at h
      rw [zSel_n hb, zSel_n hb]; exact zSel_cong n i h
    · rw [zCt_y hb] at h
      rw [zSel_y hb, zSel_y hb]
      by_cases hi : i = zCt sub n
      · subst hi; rw [zU_same, zU_same]
      · rw [zU_ne hi, zU_ne hi]; exact zSel_cong n i (by omega)
/-- pairs of a graph; of some of its edges; without one; with another label -/
def zPr (s t lb : Nat → Nat) (k V : Nat) : Nat := zPop (zBp s t lb k V)
def z0 : Nat → Nat := fun _ => 0
def zWoR (s t lb : Nat → Nat) (k V sub : Nat) : Nat := zBp (zSel sub z0 s k) (zSel sub z0 t k) (zSel sub z0 lb k) (zCt sub k) V
def zWo (s t lb : Nat → Nat) (k V sub : Nat) : Nat := zPop (zWoR s t lb k V sub)
theorem zWo_eq (s t lb sc tc lc : Nat → Nat) (k V sub : Nat) : zBp (zSel sub sc s k) (zSel sub tc t k) (zSel sub lc lb k) (zCt sub k) V = zWoR s t lb k V sub :=
  zBp_cong (fun i hi => ⟨zSel_cong k i hi, zSel_cong k i hi, zSel_cong k i hi⟩) V
def zCpw (s t lb : Nat → Nat) (k V j : Nat) : Nat := zPr (zDr s j k) (zDr t j k) (zDr lb j k) (k - 1) V
theorem zCpw_eq (s t lb sc tc lc : Nat → Nat) {k j : Nat} (V : Nat) (hj : j < k) : zBp (zDr (zTk sc s k) j k) (zDr (zTk tc t k) j k) (zDr (zTk lc lb k) j k) (k - 1) V = zBp (zDr s j k) (zDr t j k) (zDr lb j k) (k - 1) V := by
  have key : ∀ (a b : Nat → Nat) (i : Nat), i < k - 1 → zDr (zTk a b k) j k i = zDr b j k i := by
    intro a b i hi
    unfold zDr zTk
    split
    · rw [if_pos (by omega)]
    · rw [if_pos (by omega)]
  exact zBp_cong (fun i hi => ⟨key _ _ i hi, key _ _ i hi, key _ _ i hi⟩) V
def zLbR (s t lb : Nat → Nat) (k V j x : Nat) : Nat := zBp s t (zU lb j x) k V
theorem zLbR_eq (s t lb sc tc lc : Nat → Nat) {k j : Nat} (V x : Nat) (hs : ∀ i, i < k → sc i = s i) (ht : ∀ i, i < k → tc i = t i) (hl : ∀ i, i < k → i ≠ j → lc i = lb i) : zBp sc tc (zU lc j x) k V = zLbR s t lb k V j x := by
  refine zBp_cong (fun i hi => ⟨hs i hi, ht i hi, ?_⟩) V
  unfold zU
  split
  · rfl
  · rename_i h; exact hl i hi h
