/-! worlds in any order; what a contract doesn't name stays as it is -/
theorem Met.to {l : Launch} {y : MethodName} {ws : List Cond} {rm rm' : Room} {Pc Pc' : Array Value → State → Prop} {Qc Qc' : Array Value → State → Outcome → State → Prop} {mc ms : Nat} {free free' : Addr → Prop} (hM : Met l y ws rm Pc Qc mc ms free) (hr : rm.frames ≤ rm'.frames ∧ rm.cells ≤ rm'.cells ∧ rm.slots ≤ rm'.slots ∧ rm.locals ≤ rm'.locals) (hP : ∀ a s, Pc' a s → Pc a s) (hQ : ∀ a s o t, Pc' a s → Qc a s o t → Qc' a s o t) (hf : ∀ q, free q → free' q) : Met l y ws rm' Pc' Qc' mc ms free' := by
  intro p e ha hc hk s m args below hfr happ hp hK
  obtain ⟨r1, r2, r3, r4⟩ := hr
  have happ2 : (headSpec ws rm).appliesLoose y e.platform s = true := by
    obtain ⟨a1, a2, a3, a4, a5, a6, a7, a8⟩ := (Spec.appliesLoose_iff hfr).mp happ
    refine (Spec.appliesLoose_iff hfr).mpr ⟨a1, a2, a3, a4, a5, a6, ?_, a8⟩
    have a7 : s.hasRoom e.platform rm' = true := a7
    show s.hasRoom e.platform rm = true
    unfold State.hasRoom at a7 ⊢
    simp only [Bool.and_eq_true, decide_eq_true_eq] at a7 ⊢
    obtain ⟨⟨⟨⟨b1, b2, b3, b4, b5, b6⟩, b7⟩, b8⟩, b9⟩ := a7
    exact ⟨⟨⟨⟨by omega, by omega, by omega, by omega, by omega, b6⟩, by omega⟩, by omega⟩, b9⟩
  obtain ⟨n, o, h1, h2, h3, h4, L, h5, h6⟩ := hM p e ha hc hk s m args below hfr happ2 (hP args s hp) hK
  exact ⟨n, o, h1, h2, h3, hQ args s o _ hp h4, L, h5, fun q hq => hf _ (h6 q hq)⟩
theorem va_P_iff {D : va_G} {cl : List vw_C} {ws : va_W} {H : Heap} : va_P D cl ws H ↔ ∀ q ∈ ws, va_at D cl q H := by
  constructor
  · intro h q hq
    obtain ⟨k, hk⟩ := List.mem_iff_getElem?.mp hq
    exact h k q hk
  · intro h k q hk
    exact h q (List.mem_of_getElem? hk)
theorem va_D_iff {A : Nat → Prop} {ws : va_W} : va_D A ws ↔ ws.Pairwise (fun p q => p.1 ≠ q.1) ∧ ∀ q ∈ ws, A q.1 := by
  constructor
  · rintro ⟨h1, h2⟩
    refine ⟨List.pairwise_iff_getElem.mpr (fun i j hi hj hij he => ?_), fun q hq => ?_⟩
    · have := h1 i j _ _ (List.getElem?_eq_getElem hi) (List.getElem?_eq_getElem hj) he
      omega
    · obtain ⟨k, hk⟩ := List.mem_iff_getElem?.mp hq
      exact h2 k q hk
  · rintro ⟨h1, h2⟩
    refine ⟨fun i j p q hp hq he => ?_, fun k q hk => h2 q (List.mem_of_getElem? hk)⟩
    have h1 := List.pairwise_iff_getElem.mp h1
    obtain ⟨hi, ei⟩ := List.getElem?_eq_some_iff.mp hp
    obtain ⟨hj, ej⟩ := List.getElem?_eq_some_iff.mp hq
    rcases Nat.lt_trichotomy i j with h | h | h
    · exact absurd (by rw [ei, ej]; exact he) (h1 i j hi hj h)
    · exact h
    · exact absurd (by rw [ei, ej]; exact he.symm) (h1 j i hj hi h)
theorem va_A_iff {ws : va_W} {sz q : Nat} : va_A ws sz q ↔ (∃ x ∈ ws, x.1 = q) ∨ sz ≤ q := by
  constructor
  · rintro (⟨k, e, h⟩ | h)
    · exact Or.inl ⟨(q, e), List.mem_of_getElem? h, rfl⟩
    · exact Or.inr h
  · rintro (⟨x, hx, h⟩ | h)
    · obtain ⟨k, hk⟩ := List.mem_iff_getElem?.mp hx
      subst h
      exact Or.inl ⟨k, x.2, hk⟩
    · exact Or.inr h
theorem va_P.perm {D : va_G} {cl : List vw_C} {ws ws' : va_W} {H : Heap} (h : va_P D cl ws H) (hp : ws.Perm ws') : va_P D cl ws' H := va_P_iff.mpr (fun q hq => va_P_iff.mp h q (hp.mem_iff.mpr hq))
theorem va_D.perm {A : Nat → Prop} {ws ws' : va_W} (h : va_D A ws) (hp : ws.Perm ws') : va_D A ws' := by
  obtain ⟨h1, h2⟩ := va_D_iff.mp h
  exact va_D_iff.mpr ⟨(hp.pairwise_iff (fun h => Ne.symm h)).mp h1, fun q hq => h2 q (hp.mem_iff.mpr hq)⟩
theorem va_A_perm {ws ws' : va_W} {sz q : Nat} (hp : ws.Perm ws') (h : va_A ws sz q) : va_A ws' sz q := by
  rw [va_A_iff] at h ⊢
  rcases h with ⟨x, hx, h⟩ | h
  · exact Or.inl ⟨x, hp.mem_iff.mp hx, h⟩
  · exact Or.inr h
theorem va_A_app {wc wr : va_W} {sz q : Nat} (h : va_A wc sz q) : va_A (wc ++ wr) sz q := by
  rw [va_A_iff] at h ⊢
  rcases h with ⟨x, hx, h⟩ | h
  · exact Or.inl ⟨x, List.mem_append_left _ hx, h⟩
  · exact Or.inr h
theorem va_P_l {D : va_G} {cl : List vw_C} {wc wr : va_W} {H : Heap} (h : va_P D cl (wc ++ wr) H) : va_P D cl wc H := va_P_iff.mpr (fun q hq => va_P_iff.mp h q (List.mem_append_left _ hq))
theorem va_P_r {D : va_G} {cl : List vw_C} {wc wr : va_W} {H : Heap} (h : va_P D cl (wc ++ wr) H) : va_P D cl wr H := va_P_iff.mpr (fun q hq => va_P_iff.mp h q (List.mem_append_right _ hq))
theorem va_D_l {A : Nat → Prop} {wc wr : va_W} (h : va_D A (wc ++ wr)) : va_D A wc := by
  obtain ⟨h1, h2⟩ := va_D_iff.mp h
  exact va_D_iff.mpr ⟨(List.pairwise_append.mp h1).1, fun q hq => h2 q (List.mem_append_left _ hq)⟩
/-- behind a call: the rest, and the callee's world -/
theorem zfj {D : va_G} {cl : List vw_C} {wc wr w2 : va_W} {A A' : Nat → Prop} {H H1 : Heap} {sz : Nat} (hP : va_P D cl (wc ++ wr) H) (hD : va_D A (wc ++ wr)) (hz : H.size = sz) (hk : ∀ q : Nat, q < H.size → ¬ va_A wc sz q → H1[q]? = H[q]?) (hP1 : va_P D cl w2 H1) (hD1 : va_D (va_A wc sz) w2) (hA : ∀ q, va_A wc sz q → A' q) (hA2 : ∀ q ∈ wr, A' q.1) : va_P D cl (w2 ++ wr) H1 ∧ va_D A' (w2 ++ wr) := by
  subst hz
  obtain ⟨d1, d2⟩ := va_D_iff.mp hD
  obtain ⟨e1, e2, e3⟩ := List.pairwise_append.mp d1
  have apart : ∀ q ∈ wr, q.1 < H.size ∧ ¬ va_A wc H.size q.1 := by
    intro q hq
    have hl := (va_P_iff.mp hP q (List.mem_append_right _ hq)).lt
    refine ⟨hl, fun h => ?_⟩
    rcases va_A_iff.mp h with ⟨x, hx, h⟩ | h
    · exact e3 x hx q hq h
    · omega
  refine ⟨va_P.app hP1 ((va_P_r hP).kept (fun k q hq => ?_)), va_D_iff.mpr ⟨List.pairwise_append.mpr ⟨(va_D_iff.mp hD1).1, e2, fun x hx q hq h => ?_⟩, fun q hq => ?_⟩⟩
  · have := apart q (List.mem_of_getElem? hq)
    exact hk q.1 this.1 this.2
  · have hx2 := (va_D_iff.mp hD1).2 x hx
    exact (apart q hq).2 (by rw [← h]; exact hx2)
  · rcases List.mem_append.mp hq with h | h
    · exact hA _ ((va_D_iff.mp hD1).2 q h)
    · exact hA2 q h
/-- the room that every public method gets -/
abbrev RU : Room := { frames := 8, cells := 0, slots := 0, locals := 300 }
abbrev zRm (rm : Room) : Prop := rm.frames ≤ RU.frames ∧ rm.cells ≤ RU.cells ∧ rm.slots ≤ RU.slots ∧ rm.locals ≤ RU.locals
theorem zPre_sub {G : zG} {W wc wr : va_W} {sz : Nat} {U : State} (hp : W.Perm (wc ++ wr)) (h : zPre G W sz U) : zPre G wc sz U := by
  obtain ⟨h1, h2, h3, h4, h5⟩ := h
  exact ⟨h1, va_P_l (h2.perm hp), h3, va_D_l (h4.perm hp), h5.1.narrow (fun q hq => va_A_perm hp.symm (va_A_app hq)), h5.2⟩
theorem zPost_up {G : zG} {W W2 wc wr w2 : va_W} {sz : Nat} {st t : State} (hp : W.Perm (wc ++ wr)) (hp2 : W2.Perm (w2 ++ wr)) (h : zPre G W sz st) (hB : zPost G wc w2 sz t) (hF : va_F (va_A wc sz) st t) : zPost G W W2 sz t ∧ va_F (va_A W sz) st t := by
  obtain ⟨h1, h2, h3, h4, h5⟩ := h
  obtain ⟨b1, b2, b3⟩ := hB
  obtain ⟨g1, g2⟩ := zfj (A' := va_A W sz) (h2.perm hp) (h4.perm hp) h1 hF.2 b1 b3 (fun q hq => va_A_perm hp.symm (va_A_app hq)) (fun q hq => va_A_perm hp.symm (va_A_iff.mpr (Or.inl ⟨q, List.mem_append_right _ hq, rfl⟩)))
  exact ⟨⟨g1.perm hp2.symm, b2, g2.perm hp2.symm⟩, hF.1, fun q h1 h2 => hF.2 q h1 (fun h3 => h2 (va_A_perm hp.symm (va_A_app h3)))⟩
def MLX (S : Type) (l : Launch) (y : MethodName) (ws : List Cond) (rm : Room) (G : zG) (av : List Value) (w : va_W) (r : Int64) (w2 : S → va_W) (ok : S → Prop) : Prop :=
  ∀ sz : Nat, Met l y ws rm (va_Pc av (zPre G w sz)) (va_Ql (fun a (u : S) => a = r ∧ ok u) (fun u t => zPost G w (w2 u) sz t) (va_A w sz)) 0 0 (va_A w sz)
section FR
variable {l : Launch} {y : MethodName} {ws : List Cond} {rm : Room} {G : zG} {av : List Value} {wc wr W wc2 : va_W} {r : Int32} {S S' : Type} {W2 : S' → va_W}
theorem MX.fr {w2 : S → va_W} {ok : S → Prop} {ok' : S' → Prop} (hM : MX S l y ws rm G av wc r w2 ok) (hr : zRm rm) (hp : W.Perm (wc ++ wr)) (f : S → S') (hf : ∀ u, ok u → ok' (f u) ∧ (W2 (f u)).Perm (w2 u ++ wr)) : MX S' l y ws RU G av W r W2 ok' := by
  intro sz
  refine (hM sz).to hr (fun a s h => ⟨h.1, zPre_sub hp h.2⟩) (fun a s o t h hq => ?_) (fun q hq => va_A_perm hp.symm (va_A_app hq))
  obtain ⟨⟨x, u, e1, ⟨e2, e3⟩, hB⟩, hF⟩ := hq
  obtain ⟨f1, f2⟩ := hf u e3
  obtain ⟨g1, g2⟩ := zPost_up hp f2 h.2 hB hF
  exact ⟨⟨x, f u, e1, ⟨e2, f1⟩, g1⟩, g2⟩
theorem MI.fr (hM : MI l y ws rm G av wc r wc2) (hr : zRm rm) (hp : W.Perm (wc ++ wr)) (c' : S') (hf : (W2 c').Perm (wc2 ++ wr)) : MX S' l y ws RU G av W r W2 (fun q => q = c') := by
  intro sz
  refine (hM sz).to hr (fun a s h => ⟨h.1, zPre_sub hp h.2⟩) (fun a s o t h hq => ?_) (fun q hq => va_A_perm hp.symm (va_A_app hq))
  obtain ⟨⟨x, u, e1, e2, hB⟩, hF⟩ := hq
  obtain ⟨g1, g2⟩ := zPost_up hp hf h.2 hB hF
  exact ⟨⟨x, c', e1, ⟨e2, rfl⟩, g1⟩, g2⟩
theorem ML.fr {rl : Int64} (hM : ML l y ws rm G av wc rl wc2) (hr : zRm rm) (hp : W.Perm (wc ++ wr)) (c' : S') (hf : (W2 c').Perm (wc2 ++ wr)) : MLX S' l y ws RU G av W rl W2 (fun q => q = c') := by
  intro sz
  refine (hM sz).to hr (fun a s h => ⟨h.1, zPre_sub hp h.2⟩) (fun a s o t h hq => ?_) (fun q hq => va_A_perm hp.symm (va_A_app hq))
  obtain ⟨⟨x, u, e1, e2, hB⟩, hF⟩ := hq
  obtain ⟨g1, g2⟩ := zPost_up hp hf h.2 hB hF
  exact ⟨⟨x, c', e1, ⟨e2, rfl⟩, g1⟩, g2⟩
end FR
/-! a world's cells by their places -/
theorem zX_range : ∀ (X : va_W), (List.range X.length).filterMap (fun i => X[i]?) = X
  | [] => rfl
  | x :: X => by
    rw [List.length_cons, List.range_succ_eq_map, List.filterMap_cons]
    show x :: ((List.range X.length).map Nat.succ).filterMap (fun i => (x :: X)[i]?) = x :: X
    rw [List.filterMap_map]
    have e : ((fun i => (x :: X)[i]?) ∘ Nat.succ) = fun i => X[i]? := by funext i; exact List.getElem?_cons_succ
    rw [e, zX_range X]
theorem zmapsome {X wc : va_W} {isC : List Nat} (hC : isC.map (fun i => X[i]?) = wc.map some) : isC.filterMap (fun i => X[i]?) = wc := by
  have e : isC.filterMap (fun i => X[i]?) = (isC.map (fun i => X[i]?)).filterMap id := by rw [List.filterMap_map]; rfl
  rw [e, hC, List.filterMap_map]
  have e2 : (id ∘ some : Nat × va_E → Option (Nat × va_E)) = some := rfl
  rw [e2, List.filterMap_some]
theorem zpm {X wc wr : va_W} {n : Nat} (isC isR : List Nat) (hC : isC.map (fun i => X[i]?) = wc.map some) (hR : isR.map (fun i => X[i]?) = wr.map some) (hn : X.length = n) (hp : (List.range n).isPerm (isC ++ isR) = true) : X.Perm (wc ++ wr) := by
  subst hn
  have h1 := (List.isPerm_iff.mp hp).filterMap (fun i => X[i]?)
  rw [zX_range, List.filterMap_append, zmapsome hC, zmapsome hR] at h1
  exact h1
theorem zpm2 {W X pl wc wr : va_W} {n : Nat} (hw : W.Perm (X ++ pl)) (isC isR : List Nat) (hC : isC.map (fun i => X[i]?) = wc.map some) (hR : isR.map (fun i => X[i]?) = wr.map some) (hn : X.length = n) (hp : (List.range n).isPerm (isC ++ isR) = true) : W.Perm (wc ++ (wr ++ pl)) := by
  rw [← List.append_assoc]
  exact hw.trans ((zpm isC isR hC hR hn hp).append_right pl)
section PK
variable {l : Launch} {y : MethodName} {ws : List Cond} {rm : Room} {G : zG} {av : List Value} {wc wc2 W X X2 pl wr : va_W} {r : Int32} {S S' : Type} {W2 : S' → va_W}
theorem MI.pk (hM : MI l y ws rm G av wc r wc2) (hr : zRm rm) (c' : S') (hw : W.Perm (X ++ pl)) (hw2 : (W2 c').Perm (X2 ++ pl)) (n : Nat) (isC isR : List Nat) (hC : isC.map (fun i => X[i]?) = wc.map some) (hC2 : isC.map (fun i => X2[i]?) = wc2.map some) (hR : isR.map (fun i => X[i]?) = wr.map some) (hR2 : isR.map (fun i => X2[i]?) = wr.map some) (hn : X.length = n) (hn2 : X2.length = n) (hp : (List.range n).isPerm (isC ++ isR) = true) : MX S' l y ws RU G av W r W2 (fun q => q = c') :=
  hM.fr hr (zpm2 hw isC isR hC hR hn hp) c' (zpm2 hw2 isC isR hC2 hR2 hn2 hp)
theorem ML.pk {rl : Int64} (hM : ML l y ws rm G av wc rl wc2) (hr : zRm rm) (c' : S') (hw : W.Perm (X ++ pl)) (hw2 : (W2 c').Perm (X2 ++ pl)) (n : Nat) (isC isR : List Nat) (hC : isC.map (fun i => X[i]?) = wc.map some) (hC2 : isC.map (fun i => X2[i]?) = wc2.map some) (hR : isR.map (fun i => X[i]?) = wr.map some) (hR2 : isR.map (fun i => X2[i]?) = wr.map some) (hn : X.length = n) (hn2 : X2.length = n) (hp : (List.range n).isPerm (isC ++ isR) = true) : MLX S' l y ws RU G av W rl W2 (fun q => q = c') :=
  hM.fr hr (zpm2 hw isC isR hC hR hn hp) c' (zpm2 hw2 isC isR hC2 hR2 hn2 hp)
theorem MX.pk {w2 X2u : S → va_W} {ok : S → Prop} (hM : MX S l y ws rm G av wc r w2 ok) (hr : zRm rm) (f : S → S') (hw : W.Perm (X ++ pl)) (hw2 : ∀ u, (W2 (f u)).Perm (X2u u ++ pl)) (n : Nat) (isC isR : List Nat) (hC : isC.map (fun i => X[i]?) = wc.map some) (hC2 : ∀ u, isC.map (fun i => (X2u u)[i]?) = (w2 u).map some) (hR : isR.map (fun i => X[i]?) = wr.map some) (hR2 : ∀ u, isR.map (fun i => (X2u u)[i]?) = wr.map some) (hn : X.length = n) (hn2 : ∀ u, (X2u u).length = n) (hp : (List.range n).isPerm (isC ++ isR) = true) : MX S' l y ws RU G av W r W2 (fun q => ∃ u, ok u ∧ q = f u) :=
  hM.fr hr (zpm2 hw isC isR hC hR hn hp) f (fun u hu => ⟨⟨u, hu, rfl⟩, zpm2 (hw2 u) isC isR (hC2 u) (hR2 u) (hn2 u) hp⟩)
end PK
/-! blocks by number -/
def fl (F : Nat → va_W) : Nat → va_W
  | 0 => []
  | n + 1 => F n ++ fl F n
theorem fl_cong {F F' : Nat → va_W} : ∀ n, (∀ i, i < n → F i = F' i) → fl F n = fl F' n
  | 0, _ => rfl
  | n + 1, h => by
    show F n ++ fl F n = F' n ++ fl F' n
    rw [h n (by omega), fl_cong n (fun i hi => h i (by omega))]
def flx (F : Nat → va_W) (i : Nat) : Nat → va_W := fun j => if j = i then [] else F j
theorem fl_pick {F : Nat → va_W} {i : Nat} : ∀ n, i < n → (fl F n).Perm (F i ++ fl (flx F i) n)
  | 0, h => absurd h (Nat.not_lt_zero _)
  | n + 1, h => by
    show (F n ++ fl F n).Perm (F i ++ (flx F i n ++ fl (flx F i) n))
    by_cases hi : i = n
    · subst hi
      have e1 : flx F i i = [] := by unfold flx; rw [if_pos rfl]
      have e2 : fl (flx F i) i = fl F i := fl_cong i (fun j hj => by unfold flx; rw [if_neg (by omega)])
      rw [e1, e2, List.nil_append]
    · have e1 : flx F i n = F n := by unfold flx; rw [if_neg (fun q => hi q.symm)]
      rw [e1]
      exact ((fl_pick n (by omega)).append_left (F n)).trans (List.perm_append_comm_assoc _ _ _)
theorem flx_up {F F' : Nat → va_W} {i : Nat} (h : ∀ j, j ≠ i → F' j = F j) : flx F' i = flx F i := by
  funext j
  unfold flx
  by_cases hj : j = i
  · rw [if_pos hj, if_pos hj]
  · rw [if_neg hj, if_neg hj, h j hj]
