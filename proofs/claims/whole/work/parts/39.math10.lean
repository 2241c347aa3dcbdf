/-! simulate: both answer the same -/
theorem zCh_E {s t lb : Nat → Nat} {k V d : Nat} (hE : ∀ i, i < k → s i < V ∧ t i < V) (hV : 1 ≤ V) : ∀ i, i < (zCh s t lb k V d).2.2.2 → (zCh s t lb k V d).1 i < V ∧ (zCh s t lb k V d).2.1 i < V := by
  unfold zCh
  by_cases h1 : zFst (zHit s t lb (d % V) (d / 8 % V) (d / 64 % 7)) k < k
  · rw [if_pos h1]; exact zDr_E hE
  · rw [if_neg h1]
    by_cases h2 : k < 16
    · rw [if_pos h2]
      intro i hi
      have hi : i < k + 1 := hi
      show zU s k (d % V) i < V ∧ zU t k (d / 8 % V) i < V
      simp only [zU]
      by_cases hik : i = k
      · rw [if_pos hik, if_pos hik]; exact ⟨Nat.mod_lt _ (by omega), Nat.mod_lt _ (by omega)⟩
      · rw [if_neg hik, if_neg hik]; exact hE i (by omega)
    · rw [if_neg h2]; exact hE
theorem sim_rel {g s t lb : Nat → Nat} {k V : Nat} {sd : Int64} (hB : Blk g s t lb k) (hok : mOk g) (hE : ∀ i, i < k → s i < V ∧ t i < V) (hV : V ≤ 8) (hV1 : 1 ≤ V) : ∀ n, Blk (zIt (mSmF V) n (g, sd, 0)).1 (zIt (zSmF V) n ((s, t, lb, k), sd, 0)).1.1 (zIt (zSmF V) n ((s, t, lb, k), sd, 0)).1.2.1 (zIt (zSmF V) n ((s, t, lb, k), sd, 0)).1.2.2.1 (zIt (zSmF V) n ((s, t, lb, k), sd, 0)).1.2.2.2 ∧ mOk (zIt (mSmF V) n (g, sd, 0)).1 ∧ (∀ i, i < (zIt (zSmF V) n ((s, t, lb, k), sd, 0)).1.2.2.2 → (zIt (zSmF V) n ((s, t, lb, k), sd, 0)).1.1 i < V ∧ (zIt (zSmF V) n ((s, t, lb, k), sd, 0)).1.2.1 i < V) ∧ (zIt (zSmF V) n ((s, t, lb, k), sd, 0)).2 = (zIt (mSmF V) n (g, sd, 0)).2 := by
  intro n
  induction n with
  | zero => exact ⟨hB, hok, hE, rfl⟩
  | succ n ih =>
    rw [zIt_s, zIt_s]
    generalize zIt (zSmF V) n ((s, t, lb, k), sd, 0) = q at ih
    generalize zIt (mSmF V) n (g, sd, 0) = p at ih
    obtain ⟨⟨s1, t1, l1, k1⟩, sd1, a1⟩ := q
    obtain ⟨g1, sd2, a2⟩ := p
    obtain ⟨h1, h2, h3, h4⟩ := ih
    have h1 : Blk g1 s1 t1 l1 k1 := h1
    have h2 : mOk g1 := h2
    have h3 : ∀ i, i < k1 → s1 i < V ∧ t1 i < V := h3
    have h4 : (sd1, a1) = (sd2, a2) := h4
    have e1 : sd1 = sd2 := congrArg Prod.fst h4
    have e2 : a1 = a2 := congrArg Prod.snd h4
    subst e1
    subst e2
    have hk1 : k1 ≤ 16 := by have := h2.1; rw [h1.1] at this; exact this
    have hm1 : zDw (zNs sd1) % V < V := Nat.mod_lt _ (by omega)
    have hm2 : zDw (zNs sd1) / 8 % V < V := Nat.mod_lt _ (by omega)
    have hm3 : zDw (zNs sd1) / 64 % 7 < 7 := Nat.mod_lt _ (by decide)
    have hb := Blk_tg (V := V) (d := zDw (zNs sd1)) h1 hk1
    have ho : mOk (mTg g1 (zDw (zNs sd1) % V) (zDw (zNs sd1) / 8 % V) (zDw (zNs sd1) / 64 % 7)) := mTg_ok h2 (Nat.lt_of_lt_of_le hm1 hV) (Nat.lt_of_lt_of_le hm2 hV) (Nat.lt_of_lt_of_le hm3 (by decide))
    have he := zCh_E (lb := l1) (d := zDw (zNs sd1)) h3 hV1
    refine ⟨hb, ho, he, ?_⟩
    have hk2 : (zCh s1 t1 l1 k1 V (zDw (zNs sd1))).2.2.2 ≤ 16 := by have := ho.1; rw [hb.1] at this; exact this
    show (zNs sd1, a1 + zPr _ _ _ _ V) = (zNs sd1, a1 + mPr V _ 65535)
    rw [eq_pairs hb hk2 ho.2 he hV]
