/-! land: the words -/
theorem let_f : ∀ x, x < 256 → ((nI x < (97 : Int32)) = (x < 97)) ∧ (((122 : Int32) < nI x) = (122 < x)) ∧ ((X9_in ((nI x).toInt64) (97 : Int64) (122 : Int64)) = if x < 97 ∨ 122 < x then 0 else 1) ∧ (97 ≤ x → x ≤ 122 → sd x < 5 ∨ sd x = 9) := by
  have h : ∀ x, x < 256 → ((nI x < (97 : Int32)) ↔ (x < 97)) ∧ (((122 : Int32) < nI x) ↔ (122 < x)) ∧ ((X9_in ((nI x).toInt64) (97 : Int64) (122 : Int64)) = if x < 97 ∨ 122 < x then 0 else 1) ∧ (97 ≤ x → x ≤ 122 → sd x < 5 ∨ sd x = 9) := by decide +kernel
  exact fun x hx => ⟨propext (h x hx).1, propext (h x hx).2.1, (h x hx).2.2⟩
theorem or_f : ∀ V, V < 32 → (nI V ||| (0 : Int32)) = nI V ∧ ∀ s, s < 5 → (nI V ||| ((1 : Int32) <<< (nI s &&& 31))) = nI (V ||| 2 ^ s) ∧ V ||| 2 ^ s < 32 := by decide +kernel
theorem l_word {T : Nat} {b : Nat → Nat} {m0 : Rec} {w : Nat} (hw : w < 4) : ∀ (e n a f f' : Nat) (Z M : Rec) (V : Nat), n + e = 6 → e < f → e < f' → TP T b Z a → RM T b m0 M a → M.2.1 1 (88 + 2 * w) = nI n → M.2.1 1 (88 + 2 * w + 1) = nI V → V < 32 →
    ∃ (n' a' : Nat) (Z' M' : Rec) (V' : Nat), n' ≤ 6 ∧ X7_readWord_L16 f (nI n) (nI V) Z = some (nI n', nI V', Z') ∧ X9_readWords_L18 (nI (88 + 2 * w)) f' M = some M' ∧ TP T b Z' a' ∧ RM T b m0 M' a' ∧ M'.2.1 1 (88 + 2 * w) = nI n' ∧ M'.2.1 1 (88 + 2 * w + 1) = nI V' ∧ V' < 32 ∧ ∀ j, j ≠ 88 + 2 * w → j ≠ 88 + 2 * w + 1 → M'.2.1 1 j = M.2.1 1 j := by
  intro e
  induction e with
  | zero =>
    intro n a f f' Z M V h1 h2 h3 hT hM g0 g1 hV
    obtain ⟨f, rfl⟩ : ∃ z, f = z + 1 := ⟨f - 1, by omega⟩
    obtain ⟨f', rfl⟩ : ∃ z, f' = z + 1 := ⟨f' - 1, by omega⟩
    obtain rfl : n = 6 := h1
    refine ⟨6, a, Z, M, V, by omega, ?_, ?_, hT, hM, g0, g1, hV, fun j _ _ => rfl⟩
    · rw [X7_readWord_L16, if_pos (show (6 : Int32) ≤ nI 6 by decide)]
    · rw [X9_readWords_L18, r_now hM, ob, rI (by omega) (by decide), ob, g0, if_pos (show (6 : Int32) ≤ nI 6 by decide)]
      split <;> rfl
  | succ e ih =>
    intro n a f f' Z M V h1 h2 h3 hT hM g0 g1 hV
    obtain ⟨f, rfl⟩ : ∃ z, f = z + 1 := ⟨f - 1, by omega⟩
    obtain ⟨f', rfl⟩ : ∃ z, f' = z + 1 := ⟨f' - 1, by omega⟩
    have n6 : ¬ nI 6 ≤ nI n := nI_ge (by omega) (by omega)
    have sg := c_sign hT
    have nw := r_now hM
    have ca := c_soundAtP hT
    have cr := cA_r hT.2.1 a
    have sa := r_soundAtP cr
    by_cases q : 97 ≤ cA T b a ∧ cA T b a ≤ 122
    · have x6 : cA T b a < 256 := by omega
      have aT := cA_lt (x := cA T b a) rfl x6
      obtain ⟨l1, l2, l3, l4⟩ := let_f _ x6
      have s5 := l4 q.1 q.2
      have p1 : ¬ nI (cA T b a) < (97 : Int32) := by rw [l1]; omega
      have p2 : ¬ (122 : Int32) < nI (cA T b a) := by rw [l2]; omega
      rw [eC_b x6] at sg
      rw [eR_b x6] at nw
      rw [eR_b x6] at sa
      rw [if_neg (show ¬ (cA T b a < 97 ∨ 122 < cA T b a) by omega)] at l3
      have h5 := hT.2.2.2.2.1
      have h7 := hM.2.2.2.2.2.1
      -- the vowels that come out
      obtain ⟨V', o1, o2, o3⟩ : ∃ V', V' < 32 ∧ X7_readWord_L16 (f + 1) (nI n) (nI V) Z = X7_readWord_L16 f (nI (n + 1)) (nI V') (sI Z 2 (nI (a + 1))) ∧ X9_readWords_L18 (nI (88 + 2 * w)) (f' + 1) M = X9_readWords_L18 (nI (88 + 2 * w)) f' (sI (sA (sA M 1 (upd (M.2.1 1) (88 + 2 * w + 1) (nI V'))) 1 (upd (upd (M.2.1 1) (88 + 2 * w + 1) (nI V')) (88 + 2 * w) (nI (n + 1)))) 7 (nI (a + 1))) := by
        have top : X9_readWords_L18 (nI (88 + 2 * w)) (f' + 1) M = if X9_vowelBy (nI (cA T b a)) = (-4 : Int32) then X9_readWords_J76 M (nI (88 + 2 * w)) (nI V) (X9_readWords_L18 (nI (88 + 2 * w)) f') (0 : Int32) else X9_readWords_J76 M (nI (88 + 2 * w)) (nI V) (X9_readWords_L18 (nI (88 + 2 * w)) f') ((1 : Int32) <<< ((X9_vowelBy (nI (cA T b a))) &&& 31)) := by
          rw [X9_readWords_L18, nw, ob, l3, if_neg (show ¬ (1 : Int32) = 0 by decide), rI (by omega) (by decide), ob, g0, if_neg (show ¬ (6 : Int32) ≤ nI n from n6)]
          simp only [aLet, ob, nI_1]
          rw [rI (by omega) (by decide), ob, g1]
        have j76 : ∀ (x : Int32) (V' : Nat), nI V ||| x = nI V' → X9_readWords_J76 M (nI (88 + 2 * w)) (nI V) (X9_readWords_L18 (nI (88 + 2 * w)) f') x = X9_readWords_L18 (nI (88 + 2 * w)) f' (sI (sA (sA M 1 (upd (M.2.1 1) (88 + 2 * w + 1) (nI V'))) 1 (upd (upd (M.2.1 1) (88 + 2 * w + 1) (nI V')) (88 + 2 * w) (nI (n + 1)))) 7 (nI (a + 1))) := fun x V' hx => by
          have u0 : (sA M 1 (upd (M.2.1 1) (88 + 2 * w + 1) (nI V'))).2.1 1 (88 + 2 * w) = nI n := by
            show upd (M.2.1 1) (88 + 2 * w + 1) (nI V') (88 + 2 * w) = nI n
            rw [pk_un (by omega)]
            exact g0
          have z7 : ∀ g h, (sA (sA M 1 g) 1 h).1 7 = nI a := fun g h => h7
          rw [X9_readWords_J76, nI_1, wI (by omega) (by decide), ob, hx, rI (by omega) (by decide), ob, wI (by omega) (by decide), ob, u0, nI_1, z7, nI_1]
          rfl
        rw [top]
        by_cases y : sd (cA T b a) = 9
        · refine ⟨V, hV, ?_, ?_⟩
          · rw [X7_readWord_L16, if_neg (show ¬ (6 : Int32) ≤ nI n from n6), sg, ob, if_neg p1, ob, if_neg p2, ca, ob]
            unfold en9
            rw [if_pos y, if_pos (show -nI 1 < 0 by decide), aLet, nI_1, h5, nI_1]
          · rw [sa.2.1, if_neg (show ¬ sd (cA T b a) < 5 by omega), if_pos (show -nI 4 = (-4 : Int32) from rfl)]
            exact j76 _ V (or_f V hV).1
        · have y5 : sd (cA T b a) < 5 := by omega
          obtain ⟨r1, r2⟩ := (or_f V hV).2 _ y5
          refine ⟨V ||| 2 ^ sd (cA T b a), r2, ?_, ?_⟩
          · rw [X7_readWord_L16, if_neg (show ¬ (6 : Int32) ≤ nI n from n6), sg, ob, if_neg p1, ob, if_neg p2, ca, ob]
            unfold en9
            rw [if_neg y, if_neg (show ¬ nI (sd (cA T b a)) < 0 from nI_pos (by omega)), aLet, aLet, r1, nI_1, h5, nI_1]
          · rw [sa.2.1, if_pos y5, if_neg (n4l (by omega))]
            exact j76 _ _ r1
      obtain ⟨n', a', Z', M', V'', i1, i2, i3, i4, i5, i6, i7, i8, i9⟩ := ih (n + 1) (a + 1) f f' (sI Z 2 (nI (a + 1))) (sI (sA (sA M 1 (upd (M.2.1 1) (88 + 2 * w + 1) (nI V'))) 1 (upd (upd (M.2.1 1) (88 + 2 * w + 1) (nI V')) (88 + 2 * w) (nI (n + 1)))) 7 (nI (a + 1))) V' (by omega) (by omega) (by omega) (TP_up hT aT) (RM_up (RM_A (RM_A hM _) _) aT) (by
        show upd (upd (M.2.1 1) (88 + 2 * w + 1) (nI V')) (88 + 2 * w) (nI (n + 1)) (88 + 2 * w) = nI (n + 1)
        exact pk_us) (by
        show upd (upd (M.2.1 1) (88 + 2 * w + 1) (nI V')) (88 + 2 * w) (nI (n + 1)) (88 + 2 * w + 1) = nI V'
        rw [pk_un (by omega), pk_us]) o1
      refine ⟨n', a', Z', M', V'', i1, o2.trans i2, o3.trans i3, i4, i5, i6, i7, i8, fun j j1 j2 => ?_⟩
      rw [i9 j j1 j2]
      show upd (upd (M.2.1 1) (88 + 2 * w + 1) (nI V')) (88 + 2 * w) (nI (n + 1)) j = _
      rw [pk_un j1, pk_un j2]
    · refine ⟨n, a, Z, M, V, by omega, ?_, ?_, hT, hM, g0, g1, hV, fun j _ _ => rfl⟩
      · rw [X7_readWord_L16, if_neg (show ¬ (6 : Int32) ≤ nI n from n6), sg, ob]
        rcases cr with x6 | x9
        · obtain ⟨l1, l2, l3, l4⟩ := let_f _ x6
          rw [eC_b x6]
          by_cases y : cA T b a < 97
          · rw [if_pos (show nI (cA T b a) < (97 : Int32) by rw [l1]; exact y)]
          · rw [if_neg (show ¬ nI (cA T b a) < (97 : Int32) by rw [l1]; exact y), ob, if_pos (show (122 : Int32) < nI (cA T b a) by rw [l2]; omega)]
        · rw [x9, eC_e, if_pos (show -nI 1 < (97 : Int32) by decide)]
      · rw [X9_readWords_L18, nw, ob]
        rcases cr with x6 | x9
        · obtain ⟨l1, l2, l3, l4⟩ := let_f _ x6
          rw [eR_b x6, l3, if_pos (show cA T b a < 97 ∨ 122 < cA T b a by omega), if_pos (rfl : (0 : Int32) = 0)]
        · rw [x9, eR_e, if_pos (show (X9_in ((-nI 4).toInt64) (97 : Int64) (122 : Int64)) = 0 by decide +kernel)]
