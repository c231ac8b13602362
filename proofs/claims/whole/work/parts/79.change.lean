/-! land: the change of the sounds, and the end of the tape -/
theorem d_chg {m0 : Rec} {a : Nat} : ∀ (e v f' : Nat) (M : Rec), v ≤ 6 → 5 ≤ v + e → e < f' → DM m0 M a → ∃ M', X9_readChange_L2 f' (nI v) M = some M' ∧ DM m0 M' a := by
  intro e
  induction e with
  | zero =>
    intro v f' M h6 h1 h2 hD
    obtain ⟨f', rfl⟩ : ∃ z, f' = z + 1 := ⟨f' - 1, by omega⟩
    have y : nI 5 ≤ nI v := nI_le (by omega) (by omega)
    exact ⟨M, by rw [X9_readChange_L2, if_pos (show (5 : Int32) ≤ nI v from y)], hD⟩
  | succ e ih =>
    intro v f' M h6 h1 h2 hD
    obtain ⟨f', rfl⟩ : ∃ z, f' = z + 1 := ⟨f' - 1, by omega⟩
    by_cases q : 5 ≤ v
    · have y : nI 5 ≤ nI v := nI_le (by omega) (by omega)
      exact ⟨M, by rw [X9_readChange_L2, if_pos (show (5 : Int32) ≤ nI v from y)], hD⟩
    · have y : ¬ nI 5 ≤ nI v := nI_ge (by omega) (by omega)
      obtain ⟨M', i1, i2⟩ := ih (v + 1) f' (X9_wrong M) (by omega) (by omega) (by omega) (d_wrong hD).1
      refine ⟨M', ?_, i2⟩
      rw [← i1, X9_readChange_L2, if_neg (show ¬ (5 : Int32) ≤ nI v from y), d_now hD, ob]
      simp only [aLet, nI_1]
      rw [if_pos (show X9_vowelBy (-nI 4) = (-4 : Int32) by decide)]
theorem l_chg {T : Nat} {b : Nat → Nat} {m0 : Rec} : ∀ (e v a f f' : Nat) (Z D M : Rec) (G : Nat → Nat), v + e = 5 → e < f → e < f' → TP T b Z a → RM T b m0 M a → (∀ i, i < v → D.2.1 7 i = nI (G i) ∧ M.2.1 1 (11 + i) = nI (G i) ∧ G i < 5) →
    (∃ (a' : Nat) (Z' D' M' : Rec) (G' : Nat → Nat), X7_readChange_L2 f (nI v) Z D = some (.inr (Z', D')) ∧ X9_readChange_L2 f' (nI v) M = some M' ∧ TP T b Z' a' ∧ RM T b m0 M' a' ∧ (∀ i, i < 5 → D'.2.1 7 i = nI (G' i) ∧ M'.2.1 1 (11 + i) = nI (G' i) ∧ G' i < 5) ∧ D'.1 = D.1 ∧ (∀ j, j ≠ 7 → D'.2.1 j = D.2.1 j) ∧ D'.2.2 = D.2.2 ∧ ∀ j, (j < 11 ∨ 16 ≤ j) → M'.2.1 1 j = M.2.1 1 j) ∨
    (∃ (a' : Nat) (Z' D' M' : Rec), X7_readChange_L2 f (nI v) Z D = some (.inl (nI 0, Z', D')) ∧ X9_readChange_L2 f' (nI v) M = some M' ∧ TP T b Z' a' ∧ DM m0 M' a') := by
  intro e
  induction e with
  | zero =>
    intro v a f f' Z D M G h1 h2 h3 hT hM hG
    obtain ⟨f, rfl⟩ : ∃ z, f = z + 1 := ⟨f - 1, by omega⟩
    obtain ⟨f', rfl⟩ : ∃ z, f' = z + 1 := ⟨f' - 1, by omega⟩
    obtain rfl : v = 5 := h1
    refine Or.inl ⟨a, Z, D, M, G, ?_, ?_, hT, hM, hG, rfl, fun j _ => rfl, rfl, fun j _ => rfl⟩
    · rw [X7_readChange_L2, if_pos (show (5 : Int32) ≤ nI 5 by decide)]
    · rw [X9_readChange_L2, if_pos (show (5 : Int32) ≤ nI 5 by decide)]
  | succ e ih =>
    intro v a f f' Z D M G h1 h2 h3 hT hM hG
    obtain ⟨f, rfl⟩ : ∃ z, f = z + 1 := ⟨f - 1, by omega⟩
    obtain ⟨f', rfl⟩ : ∃ z, f' = z + 1 := ⟨f' - 1, by omega⟩
    have y : ¬ nI 5 ≤ nI v := nI_ge (by omega) (by omega)
    have nw := r_now hM
    have ca := c_soundAtP hT
    have cr := cA_r hT.2.1 a
    have sa := r_soundAtP cr
    by_cases q : sd (cA T b a) < 5
    · have aT := at_lt (show sd (cA T b a) ≠ 9 by omega)
      have h5 := hT.2.2.2.2.1
      have h7 := hM.2.2.2.2.2.1
      have z7 : ∀ g, (sA M 1 g).1 7 = nI a := fun g => h7
      unfold en9 at ca
      rw [if_neg (show ¬ sd (cA T b a) = 9 by omega)] at ca
      have sv := sa.2.1
      rw [if_pos q] at sv
      have cE : X7_readChange_L2 (f + 1) (nI v) Z D = X7_readChange_L2 f (nI (v + 1)) (sI Z 2 (nI (a + 1))) (sA D 7 (upd (D.2.1 7) v (nI (sd (cA T b a))))) := by
        have s5 : nI (sd (cA T b a)) < nI 5 := nI_lt q (by omega)
        rw [X7_readChange_L2, if_neg (show ¬ (5 : Int32) ≤ nI v from y), ca, ob, if_neg (show ¬ nI (sd (cA T b a)) < 0 from nI_pos (by omega)), if_pos (show nI (sd (cA T b a)) < (5 : Int32) from s5), wI (by omega) (by decide), ob, aLet, nI_1, h5, nI_1]
      have rE : X9_readChange_L2 (f' + 1) (nI v) M = X9_readChange_L2 f' (nI (v + 1)) (sI (sA M 1 (upd (M.2.1 1) (11 + v) (nI (sd (cA T b a))))) 7 (nI (a + 1))) := by
        rw [X9_readChange_L2, if_neg (show ¬ (5 : Int32) ≤ nI v from y), nw, ob]
        simp only [aLet, nI_1]
        rw [sv, if_neg (n4l (by omega)), show (11 : Int32) = nI 11 from rfl, nI_add, wI (by omega) (by decide), ob, z7, nI_1]
      rw [cE, rE]
      rcases ih (v + 1) (a + 1) f f' (sI Z 2 (nI (a + 1))) (sA D 7 (upd (D.2.1 7) v (nI (sd (cA T b a))))) (sI (sA M 1 (upd (M.2.1 1) (11 + v) (nI (sd (cA T b a))))) 7 (nI (a + 1))) (fun i => if i = v then sd (cA T b a) else G i) (by omega) (by omega) (by omega) (TP_up hT aT) (RM_up (RM_A hM _) aT) (fun i hi => by
          show upd (D.2.1 7) v (nI (sd (cA T b a))) i = nI (if i = v then _ else _) ∧ upd (M.2.1 1) (11 + v) (nI (sd (cA T b a))) (11 + i) = nI (if i = v then _ else _) ∧ (if i = v then _ else _) < 5
          by_cases z : i = v
          · rw [if_pos z, z, pk_us, pk_us]
            exact ⟨rfl, rfl, q⟩
          · rw [if_neg z, pk_un z, pk_un (by omega)]
            exact hG i (by omega)) with ⟨a', Z', D', M', G', i1, i2, i3, i4, i5, i6, i7, i8, i9⟩ | x
      · refine Or.inl ⟨a', Z', D', M', G', i1, i2, i3, i4, i5, i6, fun j hj => ?_, i8, fun j hj => ?_⟩
        · rw [i7 j hj]
          exact if_neg hj
        · rw [i9 j hj]
          show upd (M.2.1 1) (11 + v) _ j = _
          rw [pk_un (by omega)]
      · exact Or.inr x
    · have sv := sa.2.1
      rw [if_neg q] at sv
      obtain ⟨M', i1, i2⟩ := d_chg (a := a) e (v + 1) f' (X9_wrong M) (by omega) (by omega) (by omega) (r_wrong hM).1
      refine Or.inr ⟨a, Z, D, M', ?_, ?_, hT, i2⟩
      · rw [X7_readChange_L2, if_neg (show ¬ (5 : Int32) ≤ nI v from y), ca, ob]
        unfold en9
        by_cases z : sd (cA T b a) = 9
        · rw [if_pos z, if_pos (show -nI 1 < 0 by decide)]
          rfl
        · have s5 : ¬ nI (sd (cA T b a)) < nI 5 := nI_nlt (by omega) (by omega)
          rw [if_neg z, if_neg (show ¬ nI (sd (cA T b a)) < 0 from nI_pos (by omega)), if_neg (show ¬ nI (sd (cA T b a)) < (5 : Int32) from s5)]
          rfl
      · rw [← i1, X9_readChange_L2, if_neg (show ¬ (5 : Int32) ≤ nI v from y), nw, ob]
        simp only [aLet, nI_1]
        rw [sv, if_pos (show -nI 4 = (-4 : Int32) from rfl)]
