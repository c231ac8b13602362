/-! land: whose the cells are -/
def fgC (H x : Nat) : Int32 := if fg H x = 9 then -nI 1 else if fg H x = 0 then nI 6 else nI (fg H x - 1)
def fgR (H x : Nat) : Int32 := if fg H x = 9 then -nI 4 else nI (fg H x)
theorem fig_f : ∀ H, H < 7 → ∀ x, x < 256 → (if nI x = (46 : Int32) then some (6 : Int32) else if nI x < (48 : Int32) then some (-1 : Int32) else if ((48 : Int32) + nI H) ≤ nI x then some (-1 : Int32) else some (nI x - (48 : Int32))) = some (fgC H x) ∧ (if nI x = (46 : Int32) then some (0 : Int32) else if (X9_in ((nI x).toInt64) (48 : Int64) ((((48 : Int32) + nI H) - (1 : Int32)).toInt64)) = 0 then some (-4 : Int32) else some ((nI x - (48 : Int32)) + (1 : Int32))) = some (fgR H x) ∧ (fg H x ≤ H ∨ fg H x = 9) := by decide +kernel
theorem fig_e : ∀ H, H < 7 → (if -nI 1 = (46 : Int32) then some (6 : Int32) else if -nI 1 < (48 : Int32) then some (-1 : Int32) else if ((48 : Int32) + nI H) ≤ -nI 1 then some (-1 : Int32) else some (-nI 1 - (48 : Int32))) = some (fgC H 999) ∧ (if -nI 4 = (46 : Int32) then some (0 : Int32) else if (X9_in ((-nI 4).toInt64) (48 : Int64) ((((48 : Int32) + nI H) - (1 : Int32)).toInt64)) = 0 then some (-4 : Int32) else some ((-nI 4 - (48 : Int32)) + (1 : Int32))) = some (fgR H 999) ∧ fg H 999 = 9 := by decide +kernel
theorem fg_le {H x : Nat} (hH : H < 7) (hx : x < 256 ∨ x = 999) : fg H x ≤ H ∨ fg H x = 9 := by
  rcases hx with q | q
  · exact (fig_f H hH x q).2.2
  · rw [q]
    exact Or.inr (fig_e H hH).2.2
theorem c_fig {T : Nat} {b : Nat → Nat} {Z : Rec} {a H : Nat} (h : TP T b Z a) (hH : H < 7) : X7_figure Z (nI H) = some (fgC H (cA T b a)) := by
  unfold X7_figure
  rw [c_sign h, ob]
  rcases cA_r h.2.1 a with q | q
  · rw [eC_b q]
    exact (fig_f H hH _ q).1
  · rw [q, eC_e]
    exact (fig_e H hH).1
theorem r_own {M : Rec} {x H : Nat} (hx : x < 256 ∨ x = 999) (hH : H < 7) (h0 : M.2.1 1 0 = nI H) : X9_ownerBy M (eR x) = some (fgR H x) := by
  unfold X9_ownerBy
  rw [show rdI (M.2.1 1) 96 (0 : Int32) = some (nI H) from (rI (j := 0) (by decide) (by decide)).trans (congrArg some h0), ob]
  rcases hx with q | q
  · rw [eR_b q]
    exact (fig_f H hH _ q).2.1
  · rw [q, eR_e]
    exact (fig_e H hH).2.1
theorem d_own {M : Rec} {H : Nat} (hH : H < 7) (h0 : M.2.1 1 0 = nI H) : X9_ownerBy M (-nI 4) = some (-nI 4) := by
  have := r_own (x := 999) (Or.inr rfl) hH h0
  rw [eR_e] at this
  rw [this]
  unfold fgR
  rw [if_pos (fig_e H hH).2.2]
theorem d_who {m0 : Rec} {a H C r : Nat} (hH : H < 7) (hC : C ≤ 6) : ∀ (e n f' : Nat) (M : Rec), n ≤ 6 → C ≤ n + e → e < f' → DM m0 M a → M.2.1 1 0 = nI H → M.2.1 1 1 = nI C → ∃ M', X9_readWhose_L14 (nI r) f' (nI n) M = some M' ∧ DM m0 M' a ∧ M'.2.1 1 = M.2.1 1 := by
  intro e
  induction e with
  | zero =>
    intro n f' M h6 h1 h2 hD h0 hc
    obtain ⟨f', rfl⟩ : ∃ z, f' = z + 1 := ⟨f' - 1, by omega⟩
    refine ⟨M, ?_, hD, rfl⟩
    rw [X9_readWhose_L14, show (1 : Int32) = nI 1 from rfl, rI (by decide) (by decide), ob, hc, if_pos (nI_le (show C ≤ n by omega) (by omega))]
  | succ e ih =>
    intro n f' M h6 h1 h2 hD h0 hc
    obtain ⟨f', rfl⟩ : ∃ z, f' = z + 1 := ⟨f' - 1, by omega⟩
    by_cases q : C ≤ n
    · refine ⟨M, ?_, hD, rfl⟩
      rw [X9_readWhose_L14, show (1 : Int32) = nI 1 from rfl, rI (by decide) (by decide), ob, hc, if_pos (nI_le q (by omega))]
    · obtain ⟨w1, w2⟩ := d_wrong hD
      obtain ⟨M', i1, i2, i3⟩ := ih (n + 1) f' (X9_wrong M) (by omega) (by omega) (by omega) w1 (by rw [w2]; exact h0) (by rw [w2]; exact hc)
      refine ⟨M', ?_, i2, i3.trans w2⟩
      rw [← i1, X9_readWhose_L14, show (1 : Int32) = nI 1 from rfl, rI (by decide) (by decide), ob, hc, if_neg (nI_ge (show n < C by omega) (by omega)), d_now hD, ob, d_own hH h0, ob, if_pos (show -nI 4 = (-4 : Int32) from rfl), aLet, nI_add]
theorem d_whose {m0 : Rec} {a H C R : Nat} (hH : H < 7) (hC : C ≤ 6) (hR : R ≤ 6) : ∀ (e r f' : Nat) (M : Rec), r ≤ 6 → R ≤ r + e → e < f' → DM m0 M a → M.2.1 1 0 = nI H → M.2.1 1 1 = nI C → M.2.1 1 2 = nI R → ∃ M', X9_readWhose_L2 f' (nI r) M = some M' ∧ DM m0 M' a := by
  intro e
  induction e with
  | zero =>
    intro r f' M h6 h1 h2 hD h0 hc hr
    obtain ⟨f', rfl⟩ : ∃ z, f' = z + 1 := ⟨f' - 1, by omega⟩
    refine ⟨M, ?_, hD⟩
    rw [X9_readWhose_L2, show (2 : Int32) = nI 2 from rfl, rI (by decide) (by decide), ob, hr, if_pos (nI_le (show R ≤ r by omega) (by omega))]
  | succ e ih =>
    intro r f' M h6 h1 h2 hD h0 hc hr
    obtain ⟨f', rfl⟩ : ∃ z, f' = z + 1 := ⟨f' - 1, by omega⟩
    by_cases q : R ≤ r
    · refine ⟨M, ?_, hD⟩
      rw [X9_readWhose_L2, show (2 : Int32) = nI 2 from rfl, rI (by decide) (by decide), ob, hr, if_pos (nI_le q (by omega))]
    · obtain ⟨M1, i1, i2, i3⟩ := d_who (r := r) hH hC 6 0 aFu M (by omega) (by omega) (by decide) hD h0 hc
      have fin : ∀ x, x < 256 → ∃ M', X9_readWhose_J97 M1 (nI r) (X9_readWhose_L2 f') (nI x) = some M' ∧ DM m0 M' a := fun x hx => by
        obtain ⟨M2, j1, j2, j3⟩ := d_must i2 hx
        obtain ⟨M', k1, k2⟩ := ih (r + 1) f' M2 (by omega) (by omega) (by omega) j2 (by rw [j3, i3]; exact h0) (by rw [j3, i3]; exact hc) (by rw [j3, i3]; exact hr)
        refine ⟨M', ?_, k2⟩
        rw [← k1, X9_readWhose_J97, j1, ob, aLet, nI_1]
      have top : X9_readWhose_L2 (f' + 1) (nI r) M = if nI R - nI 1 ≤ nI r then X9_readWhose_J97 M1 (nI r) (X9_readWhose_L2 f') (nI 59) else X9_readWhose_J97 M1 (nI r) (X9_readWhose_L2 f') (nI 47) := by
        have i1' : X9_readWhose_L14 (nI r) aFu (0 : Int32) M = some M1 := i1
        have h2 : M1.2.1 1 2 = nI R := by rw [i3]; exact hr
        rw [X9_readWhose_L2, show (2 : Int32) = nI 2 from rfl, rI (by decide) (by decide), ob, hr, if_neg (nI_ge (show r < R by omega) (by omega)), i1', ob, rI (by decide) (by decide), ob, h2]
        rfl
      rw [top]
      split
      · exact fin 59 (by decide)
      · exact fin 47 (by decide)
