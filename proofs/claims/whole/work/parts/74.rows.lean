/-! land: rows read one after another, in lockstep -/
theorem r_J13 {r w n : Nat} {Z D Z1 D1 : Rec} (h : X7_readRow_L17 (nI w) (nI r) aFu (nI 0) Z D = some (nI n, Z1, D1)) (hr : r < 6) (hn : n ≤ 6) (hw : w ≤ 6) (hD : r ≠ 0 → D1.1 3 = nI w) : ∃ D2 : Rec, D2.2 = D1.2 ∧ (∀ j, j ≠ 3 → D2.1 j = D1.1 j) ∧ ((0 < n ∧ (r = 0 ∨ n = w)) → D2.1 3 = nI n) ∧ X7_readRow_J13 (nI r) Z D (nI w) = some (if 0 < n ∧ (r = 0 ∨ n = w) then nI 1 else nI 0, Z1, D2) := by
  have e : X7_readRow_J13 (nI r) Z D (nI w) = if nI r = 0 then X7_readRow_J91 (nI n, Z1, D1) (sI D1 3 (nI n)) else X7_readRow_J91 (nI n, Z1, D1) D1 := by
    rw [X7_readRow_J13]
    show (X7_readRow_L17 (nI w) (nI r) aFu (nI 0) Z D).bind _ = _
    rw [h, ob]
  rw [e]
  by_cases q : r = 0
  · refine ⟨sI D1 3 (nI n), rfl, fun j hj => pk_un hj, fun _ => rfl, ?_⟩
    rw [if_pos (show nI r = 0 by rw [q]; rfl), X7_readRow_J91]
    by_cases y : n = 0
    · rw [if_pos (show nI n ≤ 0 from nI_le (show n ≤ 0 by omega) (by decide)), if_neg (show ¬ (0 < n ∧ (r = 0 ∨ n = w)) by omega)]
      rfl
    · rw [if_neg (show ¬ nI n ≤ 0 from nI_ge (show 0 < n by omega) (by omega)), if_pos (show nI n = (sI D1 3 (nI n)).1 3 from rfl), if_pos (show 0 < n ∧ (r = 0 ∨ n = w) from ⟨by omega, Or.inl q⟩)]
      rfl
  · have hD' := hD q
    refine ⟨D1, rfl, fun j hj => rfl, fun z => ?_, ?_⟩
    · rw [hD', show w = n by omega]
    rw [if_neg (show ¬ nI r = 0 from fun z => q ((nI_eq (by omega) (by decide)).mp z)), X7_readRow_J91]
    by_cases y : n = 0
    · rw [if_pos (show nI n ≤ 0 from nI_le (show n ≤ 0 by omega) (by decide)), if_neg (show ¬ (0 < n ∧ (r = 0 ∨ n = w)) by omega)]
      rfl
    · rw [if_neg (show ¬ nI n ≤ 0 from nI_ge (show 0 < n by omega) (by omega))]
      by_cases x : n = w
      · rw [if_pos (show nI n = D1.1 3 by rw [hD', x]), if_pos (show 0 < n ∧ (r = 0 ∨ n = w) from ⟨by omega, Or.inr x⟩)]
        rfl
      · rw [if_neg (show ¬ nI n = D1.1 3 from fun z => x ((nI_eq (by omega) (by omega)).mp (z.trans hD'))), if_neg (show ¬ (0 < n ∧ (r = 0 ∨ n = w)) by omega)]
        rfl
theorem r_J26 {r w n : Nat} {M M1 : Rec} {k : Int32 → Rec → Option Rec} (h : X9_readSounds_L29 (nI w) aFu (nI 0) M = some (nI n, M1)) (hr : r < 6) (hw : w ≤ 6) (hn : n ≤ w) (h2 : M1.2.1 1 2 = nI r) : X9_readSounds_J26 M k (nI w) = if 0 < n ∧ (r = 0 ∨ n = w) then X9_readSounds_J110 (nI n, M1) k M1 else X9_readSounds_J110 (nI n, M1) k (X9_wrong M1) := by
  rw [X9_readSounds_J26]
  show (X9_readSounds_L29 (nI w) aFu (nI 0) M).bind _ = _
  rw [h, ob]
  by_cases y : n = 0
  · rw [if_pos (show nI n = 0 by rw [y]; rfl), if_neg (show ¬ (0 < n ∧ (r = 0 ∨ n = w)) by omega), X9_readSounds_J106]
  · rw [if_neg (show ¬ nI n = 0 from fun z => y ((nI_eq (by omega) (by decide)).mp z)), show (2 : Int32) = nI 2 from rfl, rI (by decide) (by decide), ob, h2]
    by_cases q : r = 0
    · rw [if_pos (show nI r ≤ 0 from nI_le (show r ≤ 0 by omega) (by decide)), if_pos (show 0 < n ∧ (r = 0 ∨ n = w) from ⟨by omega, Or.inl q⟩)]
    · rw [if_neg (show ¬ nI r ≤ 0 from nI_ge (show 0 < r by omega) (by omega))]
      by_cases x : n = w
      · rw [if_pos (show nI w ≤ nI n from nI_le (by omega) (by omega)), if_pos (show 0 < n ∧ (r = 0 ∨ n = w) from ⟨by omega, Or.inr x⟩)]
      · rw [if_neg (show ¬ nI w ≤ nI n from nI_ge (by omega) (by omega)), if_neg (show ¬ (0 < n ∧ (r = 0 ∨ n = w)) by omega), X9_readSounds_J106]
theorem l_cells {T : Nat} {b : Nat → Nat} {m0 : Rec} : ∀ (e r a f f' : Nat) (Z D M : Rec) (C : Nat) (S : Nat → Nat), r + e = 6 → r < 6 → e < f → e + 1 < f' → TP T b Z a → RM T b m0 M a → M.2.1 1 2 = nI r → (r ≠ 0 → 1 ≤ C ∧ C ≤ 6 ∧ D.1 3 = nI C ∧ M.2.1 1 1 = nI C) → BitsOf 6 (D.2.2 9) (rg r 0 C) S (fun s => s) → (∀ p, p < 36 → M.2.1 1 (16 + p) = nI (S p) ∧ S p < 6) →
    (∃ (R' C' a' : Nat) (Z' D' M' : Rec) (S' : Nat → Nat), 1 ≤ R' ∧ R' ≤ 6 ∧ 1 ≤ C' ∧ C' ≤ 6 ∧ X7_readCells_L2 f (nI r) Z D = some (.inr (nI R', Z', D')) ∧ X9_readSounds_L2 f' (nI 1) M = some M' ∧ TP T b Z' a' ∧ RM T b m0 M' a' ∧ D'.1 3 = nI C' ∧ M'.2.1 1 1 = nI C' ∧ M'.2.1 1 2 = nI R' ∧ BitsOf 6 (D'.2.2 9) (rg R' 0 C') S' (fun s => s) ∧ (∀ p, p < 36 → M'.2.1 1 (16 + p) = nI (S' p) ∧ S' p < 6) ∧ (∀ j, j ≠ 3 → D'.1 j = D.1 j) ∧ D'.2.1 = D.2.1 ∧ (∀ s, s ≠ 9 → D'.2.2 s = D.2.2 s) ∧ ∀ j, j ≠ 1 → j ≠ 2 → (j < 16 ∨ 52 ≤ j) → M'.2.1 1 j = M.2.1 1 j) ∨
    (∃ (a' : Nat) (Z' D' M' : Rec), X7_readCells_L2 f (nI r) Z D = some (.inl (nI 0, Z', D')) ∧ X9_readSounds_L2 f' (nI 1) M = some M' ∧ TP T b Z' a' ∧ DM m0 M' a') := by
  intro e
  induction e with
  | zero => intro r a f f' Z D M C S h1 h1'; omega
  | succ e ih =>
    intro r a f f' Z D M C S h1 hr hf hf' hT hM h2 hC hB hS
    obtain ⟨f, rfl⟩ : ∃ z, f = z + 1 := ⟨f - 1, by omega⟩
    obtain ⟨g, rfl⟩ : ∃ z, f' = z + 1 + 1 := ⟨f' - 2, by omega⟩
    have key : ∃ w, 1 ≤ w ∧ w ≤ 6 ∧ X7_readRow Z D (nI r) = X7_readRow_J13 (nI r) Z D (nI w) ∧ X9_readSounds_L2 (g + 1 + 1) (nI 1) M = X9_readSounds_J26 M (X9_readSounds_L2 (g + 1)) (nI w) ∧ BitsOf 6 (D.2.2 9) (rg r 0 w) S (fun s => s) ∧ (r ≠ 0 → D.1 3 = nI w ∧ M.2.1 1 1 = nI w) := by
      by_cases q : r = 0
      · refine ⟨6, by decide, by decide, ?_, ?_, bits_rg hB (fun c => by rw [q]; exact rg_nil), fun z => (z q).elim⟩
        · rw [X7_readRow, if_pos (show nI r = 0 by rw [q]; rfl)]
          rfl
        · rw [X9_readSounds_L2, if_neg (show ¬ nI 1 = 0 by decide), show (2 : Int32) = nI 2 from rfl, rI (by decide) (by decide), ob, h2, if_pos (show nI r = 0 by rw [q]; rfl)]
          rfl
      · obtain ⟨c1, c2, c3, c4⟩ := hC q
        have q' : ¬ nI r = 0 := fun z => q ((nI_eq (by omega) (by decide)).mp z)
        refine ⟨C, c1, c2, ?_, ?_, hB, fun _ => ⟨c3, c4⟩⟩
        · rw [X7_readRow, if_neg q', c3]
        · rw [X9_readSounds_L2, if_neg (show ¬ nI 1 = 0 by decide), show (2 : Int32) = nI 2 from rfl, rI (by decide) (by decide), ob, h2, if_neg q', show (1 : Int32) = nI 1 from rfl, rI (by decide) (by decide), ob, c4]
    obtain ⟨w, w1, w6, k1, k2, k3, k4⟩ := key
    obtain ⟨n, a', Z1, D1, M1, S1, i1, i2, i3, i4, i5, i6, i7, i8, i9, i10, i11⟩ := l_row hr w6 w 0 a aFu aFu Z D M S (by omega) (show w < 100000 by omega) (show w < 100000 by omega) hT hM h2 k3 hS
    have h2' : M1.2.1 1 2 = nI r := (i11 2 (by omega)).trans h2
    obtain ⟨D2, d1, d2, d3, d4⟩ := r_J13 i2 hr (by omega) w6 (fun z => by rw [i8]; exact (k4 z).1)
    have d5 : X9_readSounds_L2 (g + 1 + 1) (nI 1) M = _ := k2.trans (r_J26 (k := X9_readSounds_L2 (g + 1)) i3 hr w6 i1 h2')
    by_cases ok : 0 < n ∧ (r = 0 ∨ n = w)
    · rw [if_pos ok] at d4 d5
      have d3' := d3 ok
      obtain ⟨M2, j1, j2, j3⟩ := s110_l (g := g) (n := n) (X := M1) i5 hr h2' (fun z => by
        rw [i11 1 (by omega), (k4 z).2, show w = n by omega])
      rw [j3] at d5
      have B2 : BitsOf 6 (D2.2.2 9) (rg (r + 1) 0 n) S1 (fun s => s) := by
        rw [d1]
        exact bits_rg i6 (fun c => rg_next (by omega))
      have f1 : M2.2.1 1 1 = nI n := by rw [j2, pk_un (by decide), pk_us]
      have f2 : M2.2.1 1 2 = nI (r + 1) := by rw [j2, pk_us]
      have f3 : ∀ j, j ≠ 1 → j ≠ 2 → M2.2.1 1 j = M1.2.1 1 j := fun j g1 g2 => by rw [j2, pk_un g2, pk_un g1]
      have f4 : ∀ p, p < 36 → M2.2.1 1 (16 + p) = nI (S1 p) ∧ S1 p < 6 := fun p hp => by
        rw [f3 _ (by omega) (by omega)]
        exact i7 p hp
      have cc : X7_readCells_L2 (f + 1) (nI r) Z D = if 6 ≤ r + 1 then some (.inr (nI (r + 1), Z1, D2)) else if cA T b a' = 47 then X7_readCells_L2 f (nI (r + 1)) (sI Z1 2 (nI (a' + 1))) D2 else some (.inr (nI (r + 1), Z1, D2)) := by
        have ps := c_passes i4 (show 47 < 256 by decide)
        rw [X7_readCells_L2, k1, d4, ob, if_neg (show ¬ nI 1 = 0 by decide), aLet, nI_1]
        by_cases y : 6 ≤ r + 1
        · have y' : nI 6 ≤ nI (r + 1) := nI_le y (by omega)
          rw [if_pos (show (6 : Int32) ≤ nI (r + 1) from y'), if_pos y]
        · have y' : ¬ nI 6 ≤ nI (r + 1) := nI_ge (by omega) (by omega)
          rw [if_neg (show ¬ (6 : Int32) ≤ nI (r + 1) from y'), if_neg y, show (47 : Int32) = nI 47 from rfl, ps]
          by_cases x : cA T b a' = 47
          · rw [if_pos x, if_pos x, ob, if_neg (show ¬ nI 1 = 0 by decide)]
          · rw [if_neg x, if_neg x, ob, if_pos (show nI 0 = 0 from rfl)]
      by_cases q : cA T b a' = 47 ∧ r + 1 < 6
      · have aT := cA_lt q.1 (show 47 < 256 by decide)
        rw [if_pos q] at d5
        rw [if_neg (show ¬ 6 ≤ r + 1 by omega), if_pos q.1] at cc
        rw [cc, d5]
        rcases ih (r + 1) (a' + 1) f (g + 1) (sI Z1 2 (nI (a' + 1))) D2 (sI M2 7 (nI (a' + 1))) n S1 (by omega) q.2 (by omega) (by omega) (TP_up i4 aT) (RM_up j1 aT) f2 (fun _ => ⟨ok.1, by omega, d3', f1⟩) B2 f4 with ⟨R', C', a'', Z', D', M', S', x1, x2, x3, x4, x5, x6, x7, x8, x9, x10, x11, x12, x13, x14, x15, x16, x17⟩ | x
        · refine Or.inl ⟨R', C', a'', Z', D', M', S', x1, x2, x3, x4, x5, x6, x7, x8, x9, x10, x11, x12, x13, fun j hj => ?_, ?_, fun s hs => ?_, fun j g1 g2 g3 => ?_⟩
          · rw [x14 j hj, d2 j hj, i8]
          · rw [x15, d1, i9]
          · rw [x16 s hs, d1, i10 s hs]
          · rw [x17 j g1 g2 g3]
            exact (f3 j g1 g2).trans (i11 j g3)
        · exact Or.inr x
      · rw [if_neg q] at d5
        have cc' : X7_readCells_L2 (f + 1) (nI r) Z D = some (.inr (nI (r + 1), Z1, D2)) := by
          rw [cc]
          by_cases y : 6 ≤ r + 1
          · rw [if_pos y]
          · rw [if_neg y, if_neg (fun z => q ⟨z, by omega⟩)]
        refine Or.inl ⟨r + 1, n, a', Z1, D2, M2, S1, by omega, by omega, by omega, by omega, cc', d5, i4, j1, d3', f1, f2, B2, f4, fun j hj => ?_, ?_, fun s hs => ?_, fun j g1 g2 g3 => ?_⟩
        · rw [d2 j hj, i8]
        · rw [d1, i9]
        · rw [d1, i10 s hs]
        · exact (f3 j g1 g2).trans (i11 j g3)
    · rw [if_neg ok] at d4 d5
      obtain ⟨v1, v2, v3⟩ := r_wrong i5
      obtain ⟨M', u1, u2⟩ := s110_d (g := g) v1 hr (by rw [v2]; exact h2') (nI n, M1)
      refine Or.inr ⟨a', Z1, D2, M', ?_, d5.trans u1, i4, u2⟩
      rw [X7_readCells_L2, k1, d4, ob, if_pos (show nI 0 = 0 from rfl)]
      rfl
