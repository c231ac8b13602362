/-! land: the rows of cells, one after another -/
theorem sI_sI (S : Rec) (j : Nat) (x y : Int32) : sI (sI S j x) j y = sI S j y := by
  unfold sI
  refine Prod.ext (funext fun i => ?_) rfl
  show upd (upd S.1 j x) j y i = upd S.1 j y i
  by_cases h : i = j
  · rw [h, pk_us, pk_us]
  · rw [pk_un h, pk_un h, pk_un h]
theorem rg_next {r n w c : Nat} (h : n = w ∨ r = 0) : rg r n w c = rg (r + 1) 0 n c := by
  unfold rg
  rw [decide_eq_decide]
  omega
theorem rg_nil {w v c : Nat} : rg 0 0 w c = rg 0 0 v c := by
  unfold rg
  rw [decide_eq_decide]
  omega
theorem bits_rg {N : Nat} {f : Nat → Int64} {r r' : Nat → Bool} {V e : Nat → Nat} (h : BitsOf N f r V e) (hr : ∀ c, r c = r' c) : BitsOf N f r' V e := fun s hs c hc => by
  rw [← hr c]
  exact h s hs c hc
theorem RM_7 {T : Nat} {b : Nat → Nat} {m0 M : Rec} {a : Nat} (h : RM T b m0 M a) : RM T b m0 (sI M 7 (nI a)) a := by
  obtain ⟨h1, h2, h3, h4, h5, h6, h7⟩ := h
  exact ⟨Fr_I h1 (by omega), h2, h3, h4, h5, rfl, h7⟩
theorem s134_d {m0 M : Rec} {a g : Nat} (h : DM m0 M a) (v : Int32) : ∃ M', X9_readSounds_J134 M (X9_readSounds_L2 (g + 1)) v = some M' ∧ DM m0 M' a := by
  have h8 := h.2.2
  have ha := h.2.1
  have g8 : ∀ w, (sA M 1 w).1 8 = nI a := fun w => h8
  have nw := d_now (DM_A (DM_A h (upd (M.2.1 1) 1 v)) (upd (upd (M.2.1 1) 1 v) 2 ((upd (M.2.1 1) 1 v) 2 + nI 0)))
  refine ⟨sI (sA (sA M 1 (upd (M.2.1 1) 1 v)) 1 (upd (upd (M.2.1 1) 1 v) 2 ((upd (M.2.1 1) 1 v) 2 + nI 0))) 7 ((sA (sA M 1 (upd (M.2.1 1) 1 v)) 1 (upd (upd (M.2.1 1) 1 v) 2 ((upd (M.2.1 1) 1 v) 2 + nI 0))).1 7 + 0), ?_, DM_7 (DM_A (DM_A h (upd (M.2.1 1) 1 v)) (upd (upd (M.2.1 1) 1 v) 2 ((upd (M.2.1 1) 1 v) 2 + nI 0))) ((sA (sA M 1 (upd (M.2.1 1) 1 v)) 1 (upd (upd (M.2.1 1) 1 v) 2 ((upd (M.2.1 1) 1 v) 2 + nI 0))).1 7 + 0)⟩
  rw [X9_readSounds_J134, show (1 : Int32) = nI 1 from rfl, wI (by decide) (by decide), ob, show (2 : Int32) = nI 2 from rfl, rI (by decide) (by decide), ob, g8, if_neg (n4l (by omega)), X9_readSounds_J156, show (2 : Int32) = nI 2 from rfl, wI (by decide) (by decide), ob]
  show (X9_now (sA (sA M 1 (upd (M.2.1 1) 1 v)) 1 (upd (upd (M.2.1 1) 1 v) 2 ((upd (M.2.1 1) 1 v) 2 + nI 0)))).bind _ = _
  rw [nw, ob, if_neg (show ¬ -nI 4 = (47 : Int32) from fun z => n4ne (show 47 < 2 ^ 31 by decide) z.symm), X9_readSounds_J182, X9_readSounds_J183, if_pos (rfl : (0 : Int32) = 0)]
  rw [X9_readSounds_L2, if_pos (rfl : (0 : Int32) = 0)]
  rfl
theorem s110_d {m0 M : Rec} {a g r : Nat} (h : DM m0 M a) (hr : r < 6) (h2 : M.2.1 1 2 = nI r) (e : Int32 × Rec) : ∃ M', X9_readSounds_J110 e (X9_readSounds_L2 (g + 1)) M = some M' ∧ DM m0 M' a := by
  rw [X9_readSounds_J110, show (2 : Int32) = nI 2 from rfl, rI (by decide) (by decide), ob, h2]
  by_cases q : nI r = 0
  · rw [if_pos q]
    exact s134_d h _
  · rw [if_neg q, show (1 : Int32) = nI 1 from rfl, rI (by decide) (by decide), ob]
    exact s134_d h _
theorem s110_l {T : Nat} {b : Nat → Nat} {m0 M : Rec} {a g r n : Nat} {X : Rec} (h : RM T b m0 M a) (hr : r < 6) (h2 : M.2.1 1 2 = nI r) (h1 : r ≠ 0 → M.2.1 1 1 = nI n) :
    ∃ M', RM T b m0 M' a ∧ M'.2.1 1 = upd (upd (M.2.1 1) 1 (nI n)) 2 (nI (r + 1)) ∧ X9_readSounds_J110 (nI n, X) (X9_readSounds_L2 (g + 1)) M = (if cA T b a = 47 ∧ r + 1 < 6 then X9_readSounds_L2 (g + 1) (nI 1) (sI M' 7 (nI (a + 1))) else some M') := by
  have h8 := h.2.2.2.2.2.2
  have h7 := h.2.2.2.2.2.1
  have g8 : ∀ w, (sA M 1 w).1 8 = -nI 4 := fun w => h8
  have e110 : X9_readSounds_J110 (nI n, X) (X9_readSounds_L2 (g + 1)) M = X9_readSounds_J134 M (X9_readSounds_L2 (g + 1)) (nI n) := by
    rw [X9_readSounds_J110, show (2 : Int32) = nI 2 from rfl, rI (by decide) (by decide), ob, h2]
    by_cases q : r = 0
    · rw [if_pos (show nI r = 0 by rw [q]; rfl)]
    · rw [if_neg (show ¬ nI r = 0 from fun z => q ((nI_eq (by omega) (by decide)).mp z)), show (1 : Int32) = nI 1 from rfl, rI (by decide) (by decide), ob, h1 q]
  have hA := RM_A (RM_A h (upd (M.2.1 1) 1 (nI n))) (upd (upd (M.2.1 1) 1 (nI n)) 2 (nI (r + 1)))
  have nw := r_now hA
  have cr := cA_r (fun j hj => (h.2.2.2.2.1 j hj).1) a
  have w2 : ∀ w : Nat → Int32, upd w 2 (nI (r + 1)) 2 = nI (r + 1) := fun w => pk_us
  have u2 : ∀ w : Int32, upd (M.2.1 1) 1 w 2 = nI r := fun w => by rw [pk_un (by decide)]; exact h2
  have z7 : (sA (sA M 1 (upd (M.2.1 1) 1 (nI n))) 1 (upd (upd (M.2.1 1) 1 (nI n)) 2 (nI (r + 1)))).1 7 = nI a := h7
  have e134 : X9_readSounds_J134 M (X9_readSounds_L2 (g + 1)) (nI n) = (X9_now (sA (sA M 1 (upd (M.2.1 1) 1 (nI n))) 1 (upd (upd (M.2.1 1) 1 (nI n)) 2 (nI (r + 1))))).bind fun v31 =>
      if v31 = (47 : Int32) then
        (rdI ((sA (sA M 1 (upd (M.2.1 1) 1 (nI n))) 1 (upd (upd (M.2.1 1) 1 (nI n)) 2 (nI (r + 1)))).2.1 1) 96 (2 : Int32)).bind fun v37 =>
        if (6 : Int32) ≤ v37 then
          X9_readSounds_J182 M (upd (M.2.1 1) 1 (nI n)) (upd (upd (M.2.1 1) 1 (nI n)) 2 (nI (r + 1))) (X9_readSounds_L2 (g + 1))
        else
          X9_readSounds_J183 M (upd (M.2.1 1) 1 (nI n)) (upd (upd (M.2.1 1) 1 (nI n)) 2 (nI (r + 1))) (X9_readSounds_L2 (g + 1)) (1 : Int32)
      else
        X9_readSounds_J182 M (upd (M.2.1 1) 1 (nI n)) (upd (upd (M.2.1 1) 1 (nI n)) 2 (nI (r + 1))) (X9_readSounds_L2 (g + 1)) := by
    have q2 : (sA M 1 (upd (M.2.1 1) 1 (nI n))).2.1 1 2 = nI r := u2 (nI n)
    rw [X9_readSounds_J134, show (1 : Int32) = nI 1 from rfl, wI (by decide) (by decide), ob, show (2 : Int32) = nI 2 from rfl, rI (by decide) (by decide), ob, g8, if_pos (show -nI 4 = (-4 : Int32) from rfl), X9_readSounds_J156, show (2 : Int32) = nI 2 from rfl, wI (by decide) (by decide), ob, q2, show (1 : Int32) = nI 1 from rfl, nI_add]
    rfl
  rw [e110, e134, nw, ob]
  refine ⟨sI (sA (sA M 1 (upd (M.2.1 1) 1 (nI n))) 1 (upd (upd (M.2.1 1) 1 (nI n)) 2 (nI (r + 1)))) 7 (nI a), RM_7 hA, rfl, ?_⟩
  have e182 : X9_readSounds_J182 M (upd (M.2.1 1) 1 (nI n)) (upd (upd (M.2.1 1) 1 (nI n)) 2 (nI (r + 1))) (X9_readSounds_L2 (g + 1)) = some (sI (sA (sA M 1 (upd (M.2.1 1) 1 (nI n))) 1 (upd (upd (M.2.1 1) 1 (nI n)) 2 (nI (r + 1)))) 7 (nI a)) := by
    rw [X9_readSounds_J182, X9_readSounds_J183, if_pos (rfl : (0 : Int32) = 0), X9_readSounds_L2, if_pos (rfl : (0 : Int32) = 0), z7, show (0 : Int32) = nI 0 from rfl, nI_add, Nat.add_zero a]
  by_cases q : cA T b a = 47
  · have q' : eR (cA T b a) = (47 : Int32) := by rw [q]; rfl
    have rd : rdI ((sA (sA M 1 (upd (M.2.1 1) 1 (nI n))) 1 (upd (upd (M.2.1 1) 1 (nI n)) 2 (nI (r + 1)))).2.1 1) 96 (2 : Int32) = some (nI (r + 1)) := by
      rw [show (2 : Int32) = nI 2 from rfl, rI (by decide) (by decide)]
      exact congrArg some (w2 (upd (M.2.1 1) 1 (nI n)))
    rw [if_pos q', rd, ob]
    by_cases y : r + 1 < 6
    · have n6 : ¬ nI 6 ≤ nI (r + 1) := nI_ge (by omega) (by omega)
      rw [if_pos (show cA T b a = 47 ∧ r + 1 < 6 from ⟨q, y⟩), if_neg (show ¬ (6 : Int32) ≤ nI (r + 1) from n6), X9_readSounds_J183, if_neg (show ¬ (1 : Int32) = 0 by decide), z7, show (1 : Int32) = nI 1 from rfl, nI_add, sI_sI]
    · have n6 : nI 6 ≤ nI (r + 1) := nI_le (by omega) (by omega)
      rw [if_neg (show ¬ (cA T b a = 47 ∧ r + 1 < 6) from fun z => y z.2), if_pos (show (6 : Int32) ≤ nI (r + 1) from n6), e182]
  · have q' : ¬ eR (cA T b a) = (47 : Int32) := by
      rcases cr with w | w
      · rw [eR_b w]
        exact fun z => q ((nI_eq (by omega) (by decide)).mp z)
      · rw [w, eR_e]
        exact fun z => n4ne (show 47 < 2 ^ 31 by decide) z.symm
    rw [if_neg q', if_neg (show ¬ (cA T b a = 47 ∧ r + 1 < 6) from fun z => q z.1), e182]
