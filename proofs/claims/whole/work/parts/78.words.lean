/-! land: the words, one after another -/
theorem w148 {Z : Rec} {w : Nat → Int32} {g : Nat} : X9_readWords_J147 Z w (X9_readWords_L2 (g + 1)) = some (sI (sA Z 1 w) 7 ((sA Z 1 w).1 7 + 0)) := by
  rw [X9_readWords_J147, X9_readWords_J148, if_pos (rfl : (0 : Int32) = 0), X9_readWords_L2, if_pos (rfl : (0 : Int32) = 0)]
theorem w114_d {m0 M : Rec} {a g : Nat} (h : DM m0 M a) : ∃ M', X9_readWords_J114 (X9_readWords_L2 (g + 1)) M = some M' ∧ DM m0 M' a := by
  have nw := d_now (DM_A h (upd (M.2.1 1) 4 (M.2.1 1 4 + 1)))
  refine ⟨sI (sA M 1 (upd (M.2.1 1) 4 (M.2.1 1 4 + 1))) 7 ((sA M 1 (upd (M.2.1 1) 4 (M.2.1 1 4 + 1))).1 7 + 0), ?_, DM_7 (DM_A h (upd (M.2.1 1) 4 (M.2.1 1 4 + 1))) ((sA M 1 (upd (M.2.1 1) 4 (M.2.1 1 4 + 1))).1 7 + 0)⟩
  rw [X9_readWords_J114, show (4 : Int32) = nI 4 from rfl, rI (by decide) (by decide), ob, wI (by decide) (by decide), ob, nw, ob, if_neg (show ¬ -nI 4 = (44 : Int32) from fun z => n4ne (show 44 < 2 ^ 31 by decide) z.symm), w148]
theorem w114_l {T : Nat} {b : Nat → Nat} {m0 M : Rec} {a g w : Nat} (h : RM T b m0 M a) (hw : w < 4) (h4 : M.2.1 1 4 = nI w) :
    ∃ M', RM T b m0 M' a ∧ M'.2.1 1 = upd (M.2.1 1) 4 (nI (w + 1)) ∧ X9_readWords_J114 (X9_readWords_L2 (g + 1)) M = (if cA T b a = 44 ∧ w + 1 < 4 then X9_readWords_L2 (g + 1) (nI 1) (sI M' 7 (nI (a + 1))) else some M') := by
  have h7 := h.2.2.2.2.2.1
  have hA := RM_A h (upd (M.2.1 1) 4 (nI (w + 1)))
  have nw := r_now hA
  have cr := cA_r (fun j hj => (h.2.2.2.2.1 j hj).1) a
  have z7 : (sA M 1 (upd (M.2.1 1) 4 (nI (w + 1)))).1 7 = nI a := h7
  have rd : rdI ((sA M 1 (upd (M.2.1 1) 4 (nI (w + 1)))).2.1 1) 96 (4 : Int32) = some (nI (w + 1)) := by
    rw [show (4 : Int32) = nI 4 from rfl, rI (by decide) (by decide)]
    have u : upd (M.2.1 1) 4 (nI (w + 1)) 4 = nI (w + 1) := pk_us
    exact congrArg some u
  have top : X9_readWords_J114 (X9_readWords_L2 (g + 1)) M = if eR (cA T b a) = (44 : Int32) then (if (4 : Int32) ≤ nI (w + 1) then X9_readWords_J147 M (upd (M.2.1 1) 4 (nI (w + 1))) (X9_readWords_L2 (g + 1)) else X9_readWords_J148 M (upd (M.2.1 1) 4 (nI (w + 1))) (X9_readWords_L2 (g + 1)) (1 : Int32)) else X9_readWords_J147 M (upd (M.2.1 1) 4 (nI (w + 1))) (X9_readWords_L2 (g + 1)) := by
    rw [X9_readWords_J114, show rdI (M.2.1 1) 96 (4 : Int32) = some (nI w) from (rI (j := 4) (by decide) (by decide)).trans (congrArg some h4), ob, nI_1, show wrI (M.2.1 1) 96 (4 : Int32) (nI (w + 1)) = some (upd (M.2.1 1) 4 (nI (w + 1))) from wI (j := 4) (by decide) (by decide), ob, nw, ob, rd, ob]
  refine ⟨sI (sA M 1 (upd (M.2.1 1) 4 (nI (w + 1)))) 7 (nI a), RM_7 hA, rfl, ?_⟩
  have e147 : X9_readWords_J147 M (upd (M.2.1 1) 4 (nI (w + 1))) (X9_readWords_L2 (g + 1)) = some (sI (sA M 1 (upd (M.2.1 1) 4 (nI (w + 1)))) 7 (nI a)) := by
    rw [w148, z7, show (0 : Int32) = nI 0 from rfl, nI_add, Nat.add_zero a]
  rw [top]
  by_cases q : cA T b a = 44
  · have q' : eR (cA T b a) = (44 : Int32) := by rw [q]; rfl
    rw [if_pos q']
    by_cases y : w + 1 < 4
    · have n4 : ¬ nI 4 ≤ nI (w + 1) := nI_ge (by omega) (by omega)
      rw [if_pos (show cA T b a = 44 ∧ w + 1 < 4 from ⟨q, y⟩), if_neg (show ¬ (4 : Int32) ≤ nI (w + 1) from n4), X9_readWords_J148, if_neg (show ¬ (1 : Int32) = 0 by decide), z7, nI_1, sI_sI]
      rfl
    · have n4 : nI 4 ≤ nI (w + 1) := nI_le (by omega) (by omega)
      rw [if_neg (show ¬ (cA T b a = 44 ∧ w + 1 < 4) from fun z => y z.2), if_pos (show (4 : Int32) ≤ nI (w + 1) from n4), e147]
  · have q' : ¬ eR (cA T b a) = (44 : Int32) := by
      rcases cr with w | w
      · rw [eR_b w]
        exact fun z => q ((nI_eq (by omega) (by decide)).mp z)
      · rw [w, eR_e]
        exact fun z => n4ne (show 44 < 2 ^ 31 by decide) z.symm
    rw [if_neg q', if_neg (show ¬ (cA T b a = 44 ∧ w + 1 < 4) from fun z => q z.1), e147]
theorem l_words {T : Nat} {b : Nat → Nat} {m0 : Rec} : ∀ (e w a f f' : Nat) (Z D M : Rec) (L E : Nat → Nat), w + e = 4 → w < 4 → e < f → e + 1 < f' → TP T b Z a → RM T b m0 M a → M.2.1 1 4 = nI w → (∀ j, 88 + 2 * w ≤ j → j < 96 → M.2.1 1 j = nI 0) → (∀ i, i < w → D.2.1 5 i = nI (L i) ∧ D.2.1 6 i = nI (E i) ∧ M.2.1 1 (88 + 2 * i) = nI (L i) ∧ M.2.1 1 (88 + 2 * i + 1) = nI (E i) ∧ E i < 32 ∧ L i ≤ 6) →
    (∃ (W a' : Nat) (Z' D' M' : Rec) (L' E' : Nat → Nat), 1 ≤ W ∧ W ≤ 4 ∧ X7_readWords_L2 f (nI w) Z D = some (.inr (nI W, Z', D')) ∧ X9_readWords_L2 f' (nI 1) M = some M' ∧ TP T b Z' a' ∧ RM T b m0 M' a' ∧ M'.2.1 1 4 = nI W ∧ (∀ i, i < W → D'.2.1 5 i = nI (L' i) ∧ D'.2.1 6 i = nI (E' i) ∧ M'.2.1 1 (88 + 2 * i) = nI (L' i) ∧ M'.2.1 1 (88 + 2 * i + 1) = nI (E' i) ∧ E' i < 32 ∧ L' i ≤ 6) ∧ D'.1 = D.1 ∧ (∀ j, j ≠ 5 → j ≠ 6 → D'.2.1 j = D.2.1 j) ∧ D'.2.2 = D.2.2 ∧ ∀ j, j ≠ 4 → j < 88 → M'.2.1 1 j = M.2.1 1 j) ∨
    (∃ (a' : Nat) (Z' D' M' : Rec), X7_readWords_L2 f (nI w) Z D = some (.inl (nI 0, Z', D')) ∧ X9_readWords_L2 f' (nI 1) M = some M' ∧ TP T b Z' a' ∧ DM m0 M' a') := by
  intro e
  induction e with
  | zero => intro w a f f' Z D M L E h1 h1'; omega
  | succ e ih =>
    intro w a f f' Z D M L E h1 hw hf hf' hT hM h4 h0 hL
    obtain ⟨f, rfl⟩ : ∃ z, f = z + 1 := ⟨f - 1, by omega⟩
    obtain ⟨g, rfl⟩ : ∃ z, f' = z + 1 + 1 := ⟨f' - 2, by omega⟩
    obtain ⟨n, a', Z1, M1, V, i1, i2, i3, i4, i5, i6, i7, i8, i9⟩ := l_word hw 6 0 a aFu aFu Z M 0 (by decide) (by decide) (by decide) hT hM (h0 _ (by omega) (by omega)) (h0 _ (by omega) (by omega)) (by decide)
    have h4' : M1.2.1 1 4 = nI w := (i9 4 (by omega) (by omega)).trans h4
    have cr : X7_readWord Z D (nI w) = some (if n = 0 then nI 0 else nI 1, Z1, sA (sA D 5 (upd (D.2.1 5) w (nI n))) 6 (upd (D.2.1 6) w (nI V))) := by
      have i2' : X7_readWord_L16 aFu (0 : Int32) (0 : Int32) Z = some (nI n, nI V, Z1) := i2
      have w4 : nI w < nI 4 := nI_lt (by omega) (by omega)
      have u6 : (sA D 5 (upd (D.2.1 5) w (nI n))).2.1 6 = D.2.1 6 := rfl
      rw [X7_readWord, if_neg (show ¬ nI w < 0 from nI_pos (by omega)), if_pos (show nI w < (4 : Int32) from w4), i2', ob, wI (by omega) (by decide), ob, u6, wI (by omega) (by decide), ob]
      by_cases y : n = 0
      · rw [if_pos (show nI n ≤ 0 from nI_le (show n ≤ 0 by omega) (by decide)), if_pos y]
        rfl
      · rw [if_neg (show ¬ nI n ≤ 0 from nI_ge (show 0 < n by omega) (by omega)), if_neg y]
        rfl
    have rt : X9_readWords_L2 (g + 1 + 1) (nI 1) M = if n = 0 then X9_readWords_J114 (X9_readWords_L2 (g + 1)) (X9_wrong M1) else X9_readWords_J114 (X9_readWords_L2 (g + 1)) M1 := by
      rw [X9_readWords_L2, if_neg (show ¬ nI 1 = 0 by decide), show rdI (M.2.1 1) 96 (4 : Int32) = some (nI w) from (rI (j := 4) (by decide) (by decide)).trans (congrArg some h4), ob]
      simp only [aLet]
      rw [show (88 : Int32) = nI 88 from rfl, show (2 : Int32) = nI 2 from rfl, pk_mul, nI_add, i3, ob, rI (by omega) (by decide), ob, i6]
      by_cases y : n = 0
      · rw [if_pos (show nI n = 0 by rw [y]; rfl), if_pos y]
      · rw [if_neg (show ¬ nI n = 0 from fun z => y ((nI_eq (by omega) (by decide)).mp z)), if_neg y]
    by_cases ok : n = 0
    · rw [if_pos ok] at cr rt
      obtain ⟨M', u1, u2⟩ := w114_d (g := g) (r_wrong i5).1
      refine Or.inr ⟨a', Z1, sA (sA D 5 (upd (D.2.1 5) w (nI n))) 6 (upd (D.2.1 6) w (nI V)), M', ?_, rt.trans u1, i4, u2⟩
      rw [X7_readWords_L2, cr, ob, if_pos (show nI 0 = 0 from rfl)]
      rfl
    · rw [if_neg ok] at cr rt
      obtain ⟨M2, j1, j2, j3⟩ := w114_l (g := g) i5 hw h4'
      rw [j3] at rt
      have cc : X7_readWords_L2 (f + 1) (nI w) Z D = if 4 ≤ w + 1 then some (.inr (nI (w + 1), Z1, sA (sA D 5 (upd (D.2.1 5) w (nI n))) 6 (upd (D.2.1 6) w (nI V)))) else if cA T b a' = 44 then X7_readWords_L2 f (nI (w + 1)) (sI Z1 2 (nI (a' + 1))) (sA (sA D 5 (upd (D.2.1 5) w (nI n))) 6 (upd (D.2.1 6) w (nI V))) else some (.inr (nI (w + 1), Z1, sA (sA D 5 (upd (D.2.1 5) w (nI n))) 6 (upd (D.2.1 6) w (nI V)))) := by
        have ps := c_passes i4 (show 44 < 256 by decide)
        rw [X7_readWords_L2, cr, ob, if_neg (show ¬ nI 1 = 0 by decide), aLet, nI_1]
        by_cases y : 4 ≤ w + 1
        · have y' : nI 4 ≤ nI (w + 1) := nI_le y (by omega)
          rw [if_pos (show (4 : Int32) ≤ nI (w + 1) from y'), if_pos y]
        · have y' : ¬ nI 4 ≤ nI (w + 1) := nI_ge (by omega) (by omega)
          rw [if_neg (show ¬ (4 : Int32) ≤ nI (w + 1) from y'), if_neg y, show (44 : Int32) = nI 44 from rfl, ps]
          by_cases x : cA T b a' = 44
          · rw [if_pos x, if_pos x, ob, if_neg (show ¬ nI 1 = 0 by decide)]
          · rw [if_neg x, if_neg x, ob, if_pos (show nI 0 = 0 from rfl)]
      have f3 : ∀ j, j ≠ 4 → M2.2.1 1 j = M1.2.1 1 j := fun j g1 => by rw [j2, pk_un g1]
      have f4 : M2.2.1 1 4 = nI (w + 1) := by rw [j2, pk_us]
      have hL' : ∀ i, i < w + 1 → upd (D.2.1 5) w (nI n) i = nI ((if i = w then n else L i)) ∧ upd (D.2.1 6) w (nI V) i = nI (if i = w then V else E i) ∧ M2.2.1 1 (88 + 2 * i) = nI (if i = w then n else L i) ∧ M2.2.1 1 (88 + 2 * i + 1) = nI (if i = w then V else E i) ∧ (if i = w then V else E i) < 32 ∧ (if i = w then n else L i) ≤ 6 := fun i hi => by
        rw [f3 _ (by omega), f3 _ (by omega)]
        by_cases y : i = w
        · rw [if_pos y, if_pos y, y, pk_us, pk_us]
          exact ⟨rfl, rfl, i6, i7, i8, i1⟩
        · rw [if_neg y, if_neg y, pk_un y, pk_un y, i9 _ (by omega) (by omega), i9 _ (by omega) (by omega)]
          exact hL i (by omega)
      by_cases q : cA T b a' = 44 ∧ w + 1 < 4
      · have aT := cA_lt q.1 (show 44 < 256 by decide)
        rw [if_pos q] at rt
        rw [if_neg (show ¬ 4 ≤ w + 1 by omega), if_pos q.1] at cc
        rw [cc, rt]
        rcases ih (w + 1) (a' + 1) f (g + 1) (sI Z1 2 (nI (a' + 1))) (sA (sA D 5 (upd (D.2.1 5) w (nI n))) 6 (upd (D.2.1 6) w (nI V))) (sI M2 7 (nI (a' + 1))) (fun i => if i = w then n else L i) (fun i => if i = w then V else E i) (by omega) q.2 (by omega) (by omega) (TP_up i4 aT) (RM_up j1 aT) f4 (fun j g1 g2 => by
          show M2.2.1 1 j = nI 0
          rw [f3 j (by omega), i9 j (by omega) (by omega)]
          exact h0 j (by omega) g2) hL' with ⟨W, a'', Z', D', M', L', E', x1, x2, x3, x4, x5, x6, x7, x8, x9, x10, x11, x12⟩ | x
        · refine Or.inl ⟨W, a'', Z', D', M', L', E', x1, x2, x3, x4, x5, x6, x7, x8, x9, fun j g1 g2 => ?_, x11, fun j g1 g2 => ?_⟩
          · rw [x10 j g1 g2]
            show (if j = 6 then _ else if j = 5 then _ else _) = _
            rw [if_neg g2, if_neg g1]
          · rw [x12 j g1 g2]
            exact (f3 j g1).trans (i9 j (by omega) (by omega))
        · exact Or.inr x
      · rw [if_neg q] at rt
        have cc' : X7_readWords_L2 (f + 1) (nI w) Z D = some (.inr (nI (w + 1), Z1, sA (sA D 5 (upd (D.2.1 5) w (nI n))) 6 (upd (D.2.1 6) w (nI V)))) := by
          rw [cc]
          by_cases y : 4 ≤ w + 1
          · rw [if_pos y]
          · rw [if_neg y, if_neg (fun z => q ⟨z, by omega⟩)]
        refine Or.inl ⟨w + 1, a', Z1, sA (sA D 5 (upd (D.2.1 5) w (nI n))) 6 (upd (D.2.1 6) w (nI V)), M2, (fun i => if i = w then n else L i), (fun i => if i = w then V else E i), by omega, by omega, cc', rt, i4, j1, f4, hL', rfl, fun j g1 g2 => ?_, rfl, fun j g1 g2 => ?_⟩
        · show (if j = 6 then _ else if j = 5 then _ else _) = _
          rw [if_neg g2, if_neg g1]
        · exact (f3 j g1).trans (i9 j (by omega) (by omega))
