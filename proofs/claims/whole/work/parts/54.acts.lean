/-! sell, plough, year, undo, image, restore -/
theorem eq_sell {c : CSt} {m : Rec} (hI : Inv c m) (x1 : Int32) (x2 : Int32) : ∃ (r : Int32) (c1 : CSt) (m1 : Rec), stC_sell c x1 x2 = some (r, c1) ∧ stM_sell m x1 x2 = some (r, m1) ∧ Inv c1 m1 := by
  obtain ⟨d, ok, hy, hS, hf⟩ := hI.1
  have h6 := ok.1
  have refuse : ∀ v, X8_sell (c_D c) (c_now c) (c_past c) x1 x2 = some (v, c_now c, c_past c, c_D c) → X9_sell m x1 x2 = some (v, m) → ∃ (r : Int32) (c1 : CSt) (m1 : Rec), stC_sell c x1 x2 = some (r, c1) ∧ stM_sell m x1 x2 = some (r, m1) ∧ Inv c1 m1 := fun v h1 h2 => ⟨v, c, m, by unfold stC_sell; rw [h1]; rfl, by unfold stM_sell; rw [h2]; rfl, hI⟩
  rcases ccase ok hS hf x1 with ⟨a, b⟩ | ⟨cc, hc, hi, rfl, a, b⟩
  · refine refuse (-nI 1) ?_ ?_
    · simp (disch := omega) only [X8_sell, a, li0, li1, li2, li3, li4, li5, li6, li7, li8, li11, li12, li16, li24, li25, li26, li31, li32, li36, li40, li48, li52, li58, li59, li60, li63, li64, li88, li96, li130, li192, li255, li2208, li2304, li9999, li9, li13, li14, li30, li35, li44, li45, li46, li47, li97, li98, li100, li101, li104, li105, li108, li110, li111, li112, li114, li117, li122, li999999, li1000000, li2147483647, cmp0, cmpl, cmpg, cmple, cmpge, nI_leI, nI_ltI, nI_eq, rL, rI, wL, wI, ob, aLet, nI_add, pk_mul, ↓reduceIte, if_true, if_false, eq_self, Nat.reduceEqDiff, Nat.reduceLeDiff, Nat.reduceLT, Nat.one_ne_zero, Nat.zero_ne_one, Nat.add_zero, Bool.false_eq_true, nI_neq]
    · simp (disch := omega) only [X9_sell, b, li0, li1, li2, li3, li4, li5, li6, li7, li8, li11, li12, li16, li24, li25, li26, li31, li32, li36, li40, li48, li52, li58, li59, li60, li63, li64, li88, li96, li130, li192, li255, li2208, li2304, li9999, li9, li13, li14, li30, li35, li44, li45, li46, li47, li97, li98, li100, li101, li104, li105, li108, li110, li111, li112, li114, li117, li122, li999999, li1000000, li2147483647, cmp0, cmpl, cmpg, cmple, cmpge, nI_leI, nI_ltI, nI_eq, rL, rI, wL, wI, ob, aLet, nI_add, pk_mul, ↓reduceIte, if_true, if_false, eq_self, Nat.reduceEqDiff, Nat.reduceLeDiff, Nat.reduceLT, Nat.one_ne_zero, Nat.zero_ne_one, Nat.add_zero, Bool.false_eq_true, nI_neq]
  have hb := inC_b ok hi
  have pp := r_place hc
  have o1 := c_holderAt ok hS hc hi
  have o2 := hf.2.2.2.2.2.2.2.2.1 (pl cc) hb.2.2.1
  have ho := ok.2.2.2.2.2.2.2.2.1 (pl cc) hb.2.2.1
  have hn := r_named (o := lO d (pl cc)) (by omega)
  have n4 : ∀ k, k < 2 ^ 31 → ¬ -nI 4 = nI k := fun k hk z => by
    have := nI_neq (a := k) (b := 4) (by decide) (by decide) hk
    rw [← this]
    exact z.symm
  obtain ⟨P', D', m', k1, l1, hP, hImg, hSh, j6, jA, jL⟩ := q_keep hI ok hy hS hf
  have fin : ∀ (w t : Nat), w < 7 → hw w = t → t ≤ lH d → lO d (pl cc) ≠ t → (∀ S', X2_hand (c_now c) ((1 : Int64) <<< ((nI cc).toInt64 &&& 63)) (nI w) = some S' → X8_sell (c_D c) (c_now c) (c_past c) (nI cc) x2 = some ((if lO d (pl cc) = 0 then -nI 4 else nI (lO d (pl cc) - 1)), S', P', D')) → X9_sell m (nI cc) x2 = X9_sell_J37 m (nI cc) (nI t) → ∃ (r : Int32) (c1 : CSt) (m1 : Rec), stC_sell c (nI cc) x2 = some (r, c1) ∧ stM_sell m (nI cc) x2 = some (r, m1) ∧ Inv c1 m1 := by
    intro w t h1 h2 h3 h4 h5 h7
    obtain ⟨S', s1, s2⟩ := c_hand ok hS hc hi h1
    rw [h2] at s2
    have r2 : X9_sell m (nI cc) x2 = some ((if lO d (pl cc) = 0 then -nI 4 else nI (lO d (pl cc) - 1)), sA m' 0 (upd (m'.2.1 0) (52 + pl cc) (nI t))) := by
      rw [h7]
      unfold X9_sell_J37
      simp (disch := omega) only [pp, li0, li1, li2, li3, li4, li5, li6, li7, li8, li11, li12, li16, li24, li25, li26, li31, li32, li36, li40, li48, li52, li58, li59, li60, li63, li64, li88, li96, li130, li192, li255, li2208, li2304, li9999, li9, li13, li14, li30, li35, li44, li45, li46, li47, li97, li98, li100, li101, li104, li105, li108, li110, li111, li112, li114, li117, li122, li999999, li1000000, li2147483647, cmp0, cmpl, cmpg, cmple, cmpge, nI_leI, nI_ltI, nI_eq, rL, rI, wL, wI, ob, aLet, nI_add, pk_mul, ↓reduceIte, if_true, if_false, eq_self, Nat.reduceEqDiff, Nat.reduceLeDiff, Nat.reduceLT, Nat.one_ne_zero, Nat.zero_ne_one, Nat.add_zero, Bool.false_eq_true, nI_neq, o2, h4, l1, hn]
    refine ⟨_, (c_tape c, S', P', D', c_trial c, c_earlier c, c_sets c, c_survey c, c_marriages c, c_finder c), sA m' 0 (upd (m'.2.1 0) (52 + pl cc) (nI t)), by unfold stC_sell; rw [h5 S' s1]; rfl, by unfold stM_sell; rw [r2]; rfl, ⟨soldD d (pl cc) t, ok_sold ok h3, hy, s2, ?_⟩, ?_, hP, ?_, ?_⟩
    · show RowOf (soldD d (pl cc) t) (upd (m'.2.1 0) (52 + pl cc) (nI t))
      rw [jA 0 (by decide)]
      exact row_sold ok hf hb.2.2.1
    · show TapeOf (c_tape c) (m'.1 6) (m'.2.1 5)
      rw [j6, jA 5 (by decide)]
      exact hI.2.1
    · show ImgOf D'.2.1 D'.2.2.2.2.1 (m'.2.1 9) (m'.2.1 10)
      rw [jA 9 (by decide), jA 10 (by decide)]
      exact hImg
    · show SheetOf D'.2.2.1 D'.2.2.2.1 D'.2.2.2.2.1 (m'.2.1 26) (m'.2.1 27) (m'.2.2 28)
      rw [jA 26 (by decide), jA 27 (by decide), jL]
      exact hSh
  have li4' : (-4 : Int32) = -nI 4 := rfl
  rw [li4'] at o1
  by_cases z4 : x2 = -nI 4
  · have rh : X9_isHolder m (-nI 4) = some (nI 0) := rH0 ok hf (Or.inl (by decide))
    by_cases z0 : lO d (pl cc) = 0
    · refine refuse (-nI 2) ?_ ?_
      · rw [if_pos z0] at o1
        simp (disch := omega) only [X8_sell, a, li0, li1, li2, li3, li4, li5, li6, li7, li8, li11, li12, li16, li24, li25, li26, li31, li32, li36, li40, li48, li52, li58, li59, li60, li63, li64, li88, li96, li130, li192, li255, li2208, li2304, li9999, li9, li13, li14, li30, li35, li44, li45, li46, li47, li97, li98, li100, li101, li104, li105, li108, li110, li111, li112, li114, li117, li122, li999999, li1000000, li2147483647, cmp0, cmpl, cmpg, cmple, cmpge, nI_leI, nI_ltI, nI_eq, rL, rI, wL, wI, ob, aLet, nI_add, pk_mul, ↓reduceIte, if_true, if_false, eq_self, Nat.reduceEqDiff, Nat.reduceLeDiff, Nat.reduceLT, Nat.one_ne_zero, Nat.zero_ne_one, Nat.add_zero, Bool.false_eq_true, nI_neq, z4, o1]
      · simp (disch := omega) only [X9_sell, X9_sell_J24, X9_sell_J37, b, li0, li1, li2, li3, li4, li5, li6, li7, li8, li11, li12, li16, li24, li25, li26, li31, li32, li36, li40, li48, li52, li58, li59, li60, li63, li64, li88, li96, li130, li192, li255, li2208, li2304, li9999, li9, li13, li14, li30, li35, li44, li45, li46, li47, li97, li98, li100, li101, li104, li105, li108, li110, li111, li112, li114, li117, li122, li999999, li1000000, li2147483647, cmp0, cmpl, cmpg, cmple, cmpge, nI_leI, nI_ltI, nI_eq, rL, rI, wL, wI, ob, aLet, nI_add, pk_mul, ↓reduceIte, if_true, if_false, eq_self, Nat.reduceEqDiff, Nat.reduceLeDiff, Nat.reduceLT, Nat.one_ne_zero, Nat.zero_ne_one, Nat.add_zero, Bool.false_eq_true, nI_neq, z4, rh, pp, o2, z0]
    · rw [if_neg z0] at o1 hn
      have zn := n4 (lO d (pl cc) - 1) (by omega)
      have zn' : ¬ nI (lO d (pl cc) - 1) = -nI 4 := fun q => zn q.symm
      refine fin 6 0 (by decide) rfl (by omega) z0 (fun S' s1 => ?_) ?_
      · simp (disch := omega) only [X8_sell, a, li0, li1, li2, li3, li4, li5, li6, li7, li8, li11, li12, li16, li24, li25, li26, li31, li32, li36, li40, li48, li52, li58, li59, li60, li63, li64, li88, li96, li130, li192, li255, li2208, li2304, li9999, li9, li13, li14, li30, li35, li44, li45, li46, li47, li97, li98, li100, li101, li104, li105, li108, li110, li111, li112, li114, li117, li122, li999999, li1000000, li2147483647, cmp0, cmpl, cmpg, cmple, cmpge, nI_leI, nI_ltI, nI_eq, rL, rI, wL, wI, ob, aLet, nI_add, pk_mul, ↓reduceIte, if_true, if_false, eq_self, Nat.reduceEqDiff, Nat.reduceLeDiff, Nat.reduceLT, Nat.one_ne_zero, Nat.zero_ne_one, Nat.add_zero, Bool.false_eq_true, nI_neq, z4, o1, zn', k1, s1, z0]
      · simp (disch := omega) only [X9_sell, X9_sell_J24, b, li0, li1, li2, li3, li4, li5, li6, li7, li8, li11, li12, li16, li24, li25, li26, li31, li32, li36, li40, li48, li52, li58, li59, li60, li63, li64, li88, li96, li130, li192, li255, li2208, li2304, li9999, li9, li13, li14, li30, li35, li44, li45, li46, li47, li97, li98, li100, li101, li104, li105, li108, li110, li111, li112, li114, li117, li122, li999999, li1000000, li2147483647, cmp0, cmpl, cmpg, cmple, cmpge, nI_leI, nI_ltI, nI_eq, rL, rI, wL, wI, ob, aLet, nI_add, pk_mul, ↓reduceIte, if_true, if_false, eq_self, Nat.reduceEqDiff, Nat.reduceLeDiff, Nat.reduceLT, Nat.one_ne_zero, Nat.zero_ne_one, Nat.add_zero, Bool.false_eq_true, nI_neq, z4, rh]
  · rcases hcase ok hS hf x2 with ⟨e, f⟩ | ⟨i, hi2, rfl, e, f⟩
    · refine refuse (-nI 1) ?_ ?_
      · simp (disch := omega) only [X8_sell, a, li0, li1, li2, li3, li4, li5, li6, li7, li8, li11, li12, li16, li24, li25, li26, li31, li32, li36, li40, li48, li52, li58, li59, li60, li63, li64, li88, li96, li130, li192, li255, li2208, li2304, li9999, li9, li13, li14, li30, li35, li44, li45, li46, li47, li97, li98, li100, li101, li104, li105, li108, li110, li111, li112, li114, li117, li122, li999999, li1000000, li2147483647, cmp0, cmpl, cmpg, cmple, cmpge, nI_leI, nI_ltI, nI_eq, rL, rI, wL, wI, ob, aLet, nI_add, pk_mul, ↓reduceIte, if_true, if_false, eq_self, Nat.reduceEqDiff, Nat.reduceLeDiff, Nat.reduceLT, Nat.one_ne_zero, Nat.zero_ne_one, Nat.add_zero, Bool.false_eq_true, nI_neq, z4, e]
      · simp (disch := omega) only [X9_sell, b, li0, li1, li2, li3, li4, li5, li6, li7, li8, li11, li12, li16, li24, li25, li26, li31, li32, li36, li40, li48, li52, li58, li59, li60, li63, li64, li88, li96, li130, li192, li255, li2208, li2304, li9999, li9, li13, li14, li30, li35, li44, li45, li46, li47, li97, li98, li100, li101, li104, li105, li108, li110, li111, li112, li114, li117, li122, li999999, li1000000, li2147483647, cmp0, cmpl, cmpg, cmple, cmpge, nI_leI, nI_ltI, nI_eq, rL, rI, wL, wI, ob, aLet, nI_add, pk_mul, ↓reduceIte, if_true, if_false, eq_self, Nat.reduceEqDiff, Nat.reduceLeDiff, Nat.reduceLT, Nat.one_ne_zero, Nat.zero_ne_one, Nat.add_zero, Bool.false_eq_true, nI_neq, z4, f]
    · by_cases zo : lO d (pl cc) = i + 1
      · refine refuse (-nI 2) ?_ ?_
        · rw [zo, if_neg (by omega), Nat.add_sub_cancel] at o1
          simp (disch := omega) only [X8_sell, a, li0, li1, li2, li3, li4, li5, li6, li7, li8, li11, li12, li16, li24, li25, li26, li31, li32, li36, li40, li48, li52, li58, li59, li60, li63, li64, li88, li96, li130, li192, li255, li2208, li2304, li9999, li9, li13, li14, li30, li35, li44, li45, li46, li47, li97, li98, li100, li101, li104, li105, li108, li110, li111, li112, li114, li117, li122, li999999, li1000000, li2147483647, cmp0, cmpl, cmpg, cmple, cmpge, nI_leI, nI_ltI, nI_eq, rL, rI, wL, wI, ob, aLet, nI_add, pk_mul, ↓reduceIte, if_true, if_false, eq_self, Nat.reduceEqDiff, Nat.reduceLeDiff, Nat.reduceLT, Nat.one_ne_zero, Nat.zero_ne_one, Nat.add_zero, Bool.false_eq_true, nI_neq, e, o1]
        · simp (disch := omega) only [X9_sell, X9_sell_J24, X9_sell_J37, b, li0, li1, li2, li3, li4, li5, li6, li7, li8, li11, li12, li16, li24, li25, li26, li31, li32, li36, li40, li48, li52, li58, li59, li60, li63, li64, li88, li96, li130, li192, li255, li2208, li2304, li9999, li9, li13, li14, li30, li35, li44, li45, li46, li47, li97, li98, li100, li101, li104, li105, li108, li110, li111, li112, li114, li117, li122, li999999, li1000000, li2147483647, cmp0, cmpl, cmpg, cmple, cmpge, nI_leI, nI_ltI, nI_eq, rL, rI, wL, wI, ob, aLet, nI_add, pk_mul, ↓reduceIte, if_true, if_false, eq_self, Nat.reduceEqDiff, Nat.reduceLeDiff, Nat.reduceLT, Nat.one_ne_zero, Nat.zero_ne_one, Nat.add_zero, Bool.false_eq_true, nI_neq, f, pp, o2, zo]
      · refine fin i (i + 1) (by omega) (hw_i (by omega)) (by omega) zo (fun S' s1 => ?_) ?_
        · by_cases z0 : lO d (pl cc) = 0
          · rw [if_pos z0] at o1
            simp (disch := omega) only [X8_sell, a, li0, li1, li2, li3, li4, li5, li6, li7, li8, li11, li12, li16, li24, li25, li26, li31, li32, li36, li40, li48, li52, li58, li59, li60, li63, li64, li88, li96, li130, li192, li255, li2208, li2304, li9999, li9, li13, li14, li30, li35, li44, li45, li46, li47, li97, li98, li100, li101, li104, li105, li108, li110, li111, li112, li114, li117, li122, li999999, li1000000, li2147483647, cmp0, cmpl, cmpg, cmple, cmpge, nI_leI, nI_ltI, nI_eq, rL, rI, wL, wI, ob, aLet, nI_add, pk_mul, ↓reduceIte, if_true, if_false, eq_self, Nat.reduceEqDiff, Nat.reduceLeDiff, Nat.reduceLT, Nat.one_ne_zero, Nat.zero_ne_one, Nat.add_zero, Bool.false_eq_true, nI_neq, e, o1, n4 i (by omega), k1, s1, z0]
          · have zi : ¬ lO d (pl cc) - 1 = i := by omega
            rw [if_neg z0] at o1
            simp (disch := omega) only [X8_sell, a, li0, li1, li2, li3, li4, li5, li6, li7, li8, li11, li12, li16, li24, li25, li26, li31, li32, li36, li40, li48, li52, li58, li59, li60, li63, li64, li88, li96, li130, li192, li255, li2208, li2304, li9999, li9, li13, li14, li30, li35, li44, li45, li46, li47, li97, li98, li100, li101, li104, li105, li108, li110, li111, li112, li114, li117, li122, li999999, li1000000, li2147483647, cmp0, cmpl, cmpg, cmple, cmpge, nI_leI, nI_ltI, nI_eq, rL, rI, wL, wI, ob, aLet, nI_add, pk_mul, ↓reduceIte, if_true, if_false, eq_self, Nat.reduceEqDiff, Nat.reduceLeDiff, Nat.reduceLT, Nat.one_ne_zero, Nat.zero_ne_one, Nat.add_zero, Bool.false_eq_true, nI_neq, e, o1, zi, k1, s1, z0]
        · simp (disch := omega) only [X9_sell, X9_sell_J24, b, li0, li1, li2, li3, li4, li5, li6, li7, li8, li11, li12, li16, li24, li25, li26, li31, li32, li36, li40, li48, li52, li58, li59, li60, li63, li64, li88, li96, li130, li192, li255, li2208, li2304, li9999, li9, li13, li14, li30, li35, li44, li45, li46, li47, li97, li98, li100, li101, li104, li105, li108, li110, li111, li112, li114, li117, li122, li999999, li1000000, li2147483647, cmp0, cmpl, cmpg, cmple, cmpge, nI_leI, nI_ltI, nI_eq, rL, rI, wL, wI, ob, aLet, nI_add, pk_mul, ↓reduceIte, if_true, if_false, eq_self, Nat.reduceEqDiff, Nat.reduceLeDiff, Nat.reduceLT, Nat.one_ne_zero, Nat.zero_ne_one, Nat.add_zero, Bool.false_eq_true, nI_neq, f]
theorem eq_plough {c : CSt} {m : Rec} (hI : Inv c m) (x1 : Int32) (x2 : Int32) : ∃ (r : Int32) (c1 : CSt) (m1 : Rec), stC_plough c x1 x2 = some (r, c1) ∧ stM_plough m x1 x2 = some (r, m1) ∧ Inv c1 m1 := by
  obtain ⟨d, ok, hy, hS, hf⟩ := hI.1
  have h6 := ok.1
  have refuse : ∀ v, X8_plough (c_D c) (c_now c) (c_past c) x1 x2 = some (v, c_now c, c_past c, c_D c) → X9_plough m x1 x2 = some (v, m) → ∃ (r : Int32) (c1 : CSt) (m1 : Rec), stC_plough c x1 x2 = some (r, c1) ∧ stM_plough m x1 x2 = some (r, m1) ∧ Inv c1 m1 := fun v h1 h2 => ⟨v, c, m, by unfold stC_plough; rw [h1]; rfl, by unfold stM_plough; rw [h2]; rfl, hI⟩
  rcases ccase ok hS hf x1 with ⟨a, b⟩ | ⟨cc, hc, hi, rfl, a, b⟩
  · refine refuse (-nI 1) ?_ ?_
    · simp (disch := omega) only [X8_plough, a, li0, li1, li2, li3, li4, li5, li6, li7, li8, li11, li12, li16, li24, li25, li26, li31, li32, li36, li40, li48, li52, li58, li59, li60, li63, li64, li88, li96, li130, li192, li255, li2208, li2304, li9999, li9, li13, li14, li30, li35, li44, li45, li46, li47, li97, li98, li100, li101, li104, li105, li108, li110, li111, li112, li114, li117, li122, li999999, li1000000, li2147483647, cmp0, cmpl, cmpg, cmple, cmpge, nI_leI, nI_ltI, nI_eq, rL, rI, wL, wI, ob, aLet, nI_add, pk_mul, ↓reduceIte, if_true, if_false, eq_self, Nat.reduceEqDiff, Nat.reduceLeDiff, Nat.reduceLT, Nat.one_ne_zero, Nat.zero_ne_one, Nat.add_zero, Bool.false_eq_true, nI_neq]
    · simp (disch := omega) only [X9_plough, b, li0, li1, li2, li3, li4, li5, li6, li7, li8, li11, li12, li16, li24, li25, li26, li31, li32, li36, li40, li48, li52, li58, li59, li60, li63, li64, li88, li96, li130, li192, li255, li2208, li2304, li9999, li9, li13, li14, li30, li35, li44, li45, li46, li47, li97, li98, li100, li101, li104, li105, li108, li110, li111, li112, li114, li117, li122, li999999, li1000000, li2147483647, cmp0, cmpl, cmpg, cmple, cmpge, nI_leI, nI_ltI, nI_eq, rL, rI, wL, wI, ob, aLet, nI_add, pk_mul, ↓reduceIte, if_true, if_false, eq_self, Nat.reduceEqDiff, Nat.reduceLeDiff, Nat.reduceLT, Nat.one_ne_zero, Nat.zero_ne_one, Nat.add_zero, Bool.false_eq_true, nI_neq]
  have hb := inC_b ok hi
  have pp := r_place hc
  have s1 := c_soundAt ok hS hc hi
  have s2 := hf.2.2.2.2.2.2.2.1 (pl cc) hb.2.2.1
  have hs := ok.2.2.2.2.2.2.2.1 (pl cc) hb.2.2.1
  rcases rg_0_5 x2 with ⟨e, f, -⟩ | ⟨w, -, hw, rfl, e, f⟩
  · refine refuse (-nI 1) ?_ ?_
    · simp (disch := omega) only [X8_plough, a, e, li0, li1, li2, li3, li4, li5, li6, li7, li8, li11, li12, li16, li24, li25, li26, li31, li32, li36, li40, li48, li52, li58, li59, li60, li63, li64, li88, li96, li130, li192, li255, li2208, li2304, li9999, li9, li13, li14, li30, li35, li44, li45, li46, li47, li97, li98, li100, li101, li104, li105, li108, li110, li111, li112, li114, li117, li122, li999999, li1000000, li2147483647, cmp0, cmpl, cmpg, cmple, cmpge, nI_leI, nI_ltI, nI_eq, rL, rI, wL, wI, ob, aLet, nI_add, pk_mul, ↓reduceIte, if_true, if_false, eq_self, Nat.reduceEqDiff, Nat.reduceLeDiff, Nat.reduceLT, Nat.one_ne_zero, Nat.zero_ne_one, Nat.add_zero, Bool.false_eq_true, nI_neq]
    · simp (disch := omega) only [X9_plough, b, f, li0, li1, li2, li3, li4, li5, li6, li7, li8, li11, li12, li16, li24, li25, li26, li31, li32, li36, li40, li48, li52, li58, li59, li60, li63, li64, li88, li96, li130, li192, li255, li2208, li2304, li9999, li9, li13, li14, li30, li35, li44, li45, li46, li47, li97, li98, li100, li101, li104, li105, li108, li110, li111, li112, li114, li117, li122, li999999, li1000000, li2147483647, cmp0, cmpl, cmpg, cmple, cmpge, nI_leI, nI_ltI, nI_eq, rL, rI, wL, wI, ob, aLet, nI_add, pk_mul, ↓reduceIte, if_true, if_false, eq_self, Nat.reduceEqDiff, Nat.reduceLeDiff, Nat.reduceLT, Nat.one_ne_zero, Nat.zero_ne_one, Nat.add_zero, Bool.false_eq_true, nI_neq]
  by_cases z : lS d (pl cc) = w
  · refine refuse (-nI 2) ?_ ?_
    · simp (disch := omega) only [X8_plough, a, e, s1, z, li0, li1, li2, li3, li4, li5, li6, li7, li8, li11, li12, li16, li24, li25, li26, li31, li32, li36, li40, li48, li52, li58, li59, li60, li63, li64, li88, li96, li130, li192, li255, li2208, li2304, li9999, li9, li13, li14, li30, li35, li44, li45, li46, li47, li97, li98, li100, li101, li104, li105, li108, li110, li111, li112, li114, li117, li122, li999999, li1000000, li2147483647, cmp0, cmpl, cmpg, cmple, cmpge, nI_leI, nI_ltI, nI_eq, rL, rI, wL, wI, ob, aLet, nI_add, pk_mul, ↓reduceIte, if_true, if_false, eq_self, Nat.reduceEqDiff, Nat.reduceLeDiff, Nat.reduceLT, Nat.one_ne_zero, Nat.zero_ne_one, Nat.add_zero, Bool.false_eq_true, nI_neq]
    · simp (disch := omega) only [X9_plough, b, f, pp, s2, z, li0, li1, li2, li3, li4, li5, li6, li7, li8, li11, li12, li16, li24, li25, li26, li31, li32, li36, li40, li48, li52, li58, li59, li60, li63, li64, li88, li96, li130, li192, li255, li2208, li2304, li9999, li9, li13, li14, li30, li35, li44, li45, li46, li47, li97, li98, li100, li101, li104, li105, li108, li110, li111, li112, li114, li117, li122, li999999, li1000000, li2147483647, cmp0, cmpl, cmpg, cmple, cmpge, nI_leI, nI_ltI, nI_eq, rL, rI, wL, wI, ob, aLet, nI_add, pk_mul, ↓reduceIte, if_true, if_false, eq_self, Nat.reduceEqDiff, Nat.reduceLeDiff, Nat.reduceLT, Nat.one_ne_zero, Nat.zero_ne_one, Nat.add_zero, Bool.false_eq_true, nI_neq]
  obtain ⟨P', D', m', k1, l1, hP, hImg, hSh, j6, jA, jL⟩ := q_keep hI ok hy hS hf
  obtain ⟨S', t1, t2⟩ := c_tune ok hS hc hi (w := w) (by omega)
  have e1 : X8_plough (c_D c) (c_now c) (c_past c) (nI cc) (nI w) = some (nI (lS d (pl cc)), S', P', D') := by
    simp (disch := omega) only [X8_plough, a, e, s1, z, k1, t1, li0, li1, li2, li3, li4, li5, li6, li7, li8, li11, li12, li16, li24, li25, li26, li31, li32, li36, li40, li48, li52, li58, li59, li60, li63, li64, li88, li96, li130, li192, li255, li2208, li2304, li9999, li9, li13, li14, li30, li35, li44, li45, li46, li47, li97, li98, li100, li101, li104, li105, li108, li110, li111, li112, li114, li117, li122, li999999, li1000000, li2147483647, cmp0, cmpl, cmpg, cmple, cmpge, nI_leI, nI_ltI, nI_eq, rL, rI, wL, wI, ob, aLet, nI_add, pk_mul, ↓reduceIte, if_true, if_false, eq_self, Nat.reduceEqDiff, Nat.reduceLeDiff, Nat.reduceLT, Nat.one_ne_zero, Nat.zero_ne_one, Nat.add_zero, Bool.false_eq_true, nI_neq]
  have e2 : X9_plough m (nI cc) (nI w) = some (nI (lS d (pl cc)), sA m' 0 (upd (m'.2.1 0) (16 + pl cc) (nI w))) := by
    simp (disch := omega) only [X9_plough, b, f, pp, s2, z, l1, li0, li1, li2, li3, li4, li5, li6, li7, li8, li11, li12, li16, li24, li25, li26, li31, li32, li36, li40, li48, li52, li58, li59, li60, li63, li64, li88, li96, li130, li192, li255, li2208, li2304, li9999, li9, li13, li14, li30, li35, li44, li45, li46, li47, li97, li98, li100, li101, li104, li105, li108, li110, li111, li112, li114, li117, li122, li999999, li1000000, li2147483647, cmp0, cmpl, cmpg, cmple, cmpge, nI_leI, nI_ltI, nI_eq, rL, rI, wL, wI, ob, aLet, nI_add, pk_mul, ↓reduceIte, if_true, if_false, eq_self, Nat.reduceEqDiff, Nat.reduceLeDiff, Nat.reduceLT, Nat.one_ne_zero, Nat.zero_ne_one, Nat.add_zero, Bool.false_eq_true, nI_neq]
  refine ⟨_, (c_tape c, S', P', D', c_trial c, c_earlier c, c_sets c, c_survey c, c_marriages c, c_finder c), sA m' 0 (upd (m'.2.1 0) (16 + pl cc) (nI w)), by unfold stC_plough; rw [e1]; rfl, by unfold stM_plough; rw [e2]; rfl, ⟨tunedD d (pl cc) w, ok_tuned ok (by omega), hy, t2, ?_⟩, ?_, hP, ?_, ?_⟩
  · show RowOf (tunedD d (pl cc) w) (upd (m'.2.1 0) (16 + pl cc) (nI w))
    rw [jA 0 (by decide)]
    exact row_tuned ok hf hb.2.2.1
  · show TapeOf (c_tape c) (m'.1 6) (m'.2.1 5)
    rw [j6, jA 5 (by decide)]
    exact hI.2.1
  · show ImgOf D'.2.1 D'.2.2.2.2.1 (m'.2.1 9) (m'.2.1 10)
    rw [jA 9 (by decide), jA 10 (by decide)]
    exact hImg
  · show SheetOf D'.2.2.1 D'.2.2.2.1 D'.2.2.2.2.1 (m'.2.1 26) (m'.2.1 27) (m'.2.2 28)
    rw [jA 26 (by decide), jA 27 (by decide), jL]
    exact hSh
theorem eq_year {c : CSt} {m : Rec} (hI : Inv c m) : ∃ (r : Int32) (c1 : CSt) (m1 : Rec), stC_year c = some (r, c1) ∧ stM_year m = some (r, m1) ∧ Inv c1 m1 := by
  obtain ⟨d, ok, hy, hS, hf⟩ := hI.1
  have h6 := ok.1
  have refuse : ∀ v, X8_year (c_D c) (c_now c) (c_past c) = some (v, c_now c, c_past c, c_D c) → X9_year m = some (v, m) → ∃ (r : Int32) (c1 : CSt) (m1 : Rec), stC_year c = some (r, c1) ∧ stM_year m = some (r, m1) ∧ Inv c1 m1 := fun v h1 h2 => ⟨v, c, m, by unfold stC_year; rw [h1]; rfl, by unfold stM_year; rw [h2]; rfl, hI⟩
  have st := c_stands ok hS
  have th := r_there ok hf
  by_cases h0 : lH d = 0
  · rw [if_pos h0] at st th
    refine refuse (-nI 2) ?_ ?_
    · simp (disch := omega) only [X8_year, st, li0, li1, li2, li3, li4, li5, li6, li7, li8, li11, li12, li16, li24, li25, li26, li31, li32, li36, li40, li48, li52, li58, li59, li60, li63, li64, li88, li96, li130, li192, li255, li2208, li2304, li9999, li9, li13, li14, li30, li35, li44, li45, li46, li47, li97, li98, li100, li101, li104, li105, li108, li110, li111, li112, li114, li117, li122, li999999, li1000000, li2147483647, cmp0, cmpl, cmpg, cmple, cmpge, nI_leI, nI_ltI, nI_eq, rL, rI, wL, wI, ob, aLet, nI_add, pk_mul, ↓reduceIte, if_true, if_false, eq_self, Nat.reduceEqDiff, Nat.reduceLeDiff, Nat.reduceLT, Nat.one_ne_zero, Nat.zero_ne_one, Nat.add_zero, Bool.false_eq_true, nI_neq]
    · simp (disch := omega) only [X9_year, th, li0, li1, li2, li3, li4, li5, li6, li7, li8, li11, li12, li16, li24, li25, li26, li31, li32, li36, li40, li48, li52, li58, li59, li60, li63, li64, li88, li96, li130, li192, li255, li2208, li2304, li9999, li9, li13, li14, li30, li35, li44, li45, li46, li47, li97, li98, li100, li101, li104, li105, li108, li110, li111, li112, li114, li117, li122, li999999, li1000000, li2147483647, cmp0, cmpl, cmpg, cmple, cmpge, nI_leI, nI_ltI, nI_eq, rL, rI, wL, wI, ob, aLet, nI_add, pk_mul, ↓reduceIte, if_true, if_false, eq_self, Nat.reduceEqDiff, Nat.reduceLeDiff, Nat.reduceLT, Nat.one_ne_zero, Nat.zero_ne_one, Nat.add_zero, Bool.false_eq_true, nI_neq]
  rw [if_neg h0] at st th
  by_cases h9 : lY d = 9999
  · refine refuse (-nI 3) ?_ ?_
    · simp (disch := omega) only [X8_year, st, hS.2.2.2.1, h9, li0, li1, li2, li3, li4, li5, li6, li7, li8, li11, li12, li16, li24, li25, li26, li31, li32, li36, li40, li48, li52, li58, li59, li60, li63, li64, li88, li96, li130, li192, li255, li2208, li2304, li9999, li9, li13, li14, li30, li35, li44, li45, li46, li47, li97, li98, li100, li101, li104, li105, li108, li110, li111, li112, li114, li117, li122, li999999, li1000000, li2147483647, cmp0, cmpl, cmpg, cmple, cmpge, nI_leI, nI_ltI, nI_eq, rL, rI, wL, wI, ob, aLet, nI_add, pk_mul, ↓reduceIte, if_true, if_false, eq_self, Nat.reduceEqDiff, Nat.reduceLeDiff, Nat.reduceLT, Nat.one_ne_zero, Nat.zero_ne_one, Nat.add_zero, Bool.false_eq_true, nI_neq]
    · simp (disch := omega) only [X9_year, th, hf.2.2.2.1, h9, li0, li1, li2, li3, li4, li5, li6, li7, li8, li11, li12, li16, li24, li25, li26, li31, li32, li36, li40, li48, li52, li58, li59, li60, li63, li64, li88, li96, li130, li192, li255, li2208, li2304, li9999, li9, li13, li14, li30, li35, li44, li45, li46, li47, li97, li98, li100, li101, li104, li105, li108, li110, li111, li112, li114, li117, li122, li999999, li1000000, li2147483647, cmp0, cmpl, cmpg, cmple, cmpge, nI_leI, nI_ltI, nI_eq, rL, rI, wL, wI, ob, aLet, nI_add, pk_mul, ↓reduceIte, if_true, if_false, eq_self, Nat.reduceEqDiff, Nat.reduceLeDiff, Nat.reduceLT, Nat.one_ne_zero, Nat.zero_ne_one, Nat.add_zero, Bool.false_eq_true, nI_neq]
  obtain ⟨P', D', m', k1, l1, hP, hImg, hSh, j6, jA, jL⟩ := q_keep hI ok hy hS hf
  obtain ⟨S', p1, p2⟩ := c_pass ok hS
  have hf' : RowOf d (m'.2.1 0) := by
    rw [jA 0 (by decide)]
    exact hf
  obtain ⟨f', q1, q2⟩ := r_year ok hf'
  have h9' : lY d < 9999 := by omega
  have e1 : X8_year (c_D c) (c_now c) (c_past c) = some (nI (cn (chg d) 36), S', P', D') := by
    simp (disch := omega) only [X8_year, st, hS.2.2.2.1, h9', k1, p1, li0, li1, li2, li3, li4, li5, li6, li7, li8, li11, li12, li16, li24, li25, li26, li31, li32, li36, li40, li48, li52, li58, li59, li60, li63, li64, li88, li96, li130, li192, li255, li2208, li2304, li9999, li9, li13, li14, li30, li35, li44, li45, li46, li47, li97, li98, li100, li101, li104, li105, li108, li110, li111, li112, li114, li117, li122, li999999, li1000000, li2147483647, cmp0, cmpl, cmpg, cmple, cmpge, nI_leI, nI_ltI, nI_eq, rL, rI, wL, wI, ob, aLet, nI_add, pk_mul, ↓reduceIte, if_true, if_false, eq_self, Nat.reduceEqDiff, Nat.reduceLeDiff, Nat.reduceLT, Nat.one_ne_zero, Nat.zero_ne_one, Nat.add_zero, Bool.false_eq_true, nI_neq]
  have e2 : X9_year m = some (nI (cn (chg d) 36), sA m' 0 f') := by
    simp (disch := omega) only [X9_year, th, hf.2.2.2.1, h9, l1, q1, li0, li1, li2, li3, li4, li5, li6, li7, li8, li11, li12, li16, li24, li25, li26, li31, li32, li36, li40, li48, li52, li58, li59, li60, li63, li64, li88, li96, li130, li192, li255, li2208, li2304, li9999, li9, li13, li14, li30, li35, li44, li45, li46, li47, li97, li98, li100, li101, li104, li105, li108, li110, li111, li112, li114, li117, li122, li999999, li1000000, li2147483647, cmp0, cmpl, cmpg, cmple, cmpge, nI_leI, nI_ltI, nI_eq, rL, rI, wL, wI, ob, aLet, nI_add, pk_mul, ↓reduceIte, if_true, if_false, eq_self, Nat.reduceEqDiff, Nat.reduceLeDiff, Nat.reduceLT, Nat.one_ne_zero, Nat.zero_ne_one, Nat.add_zero, Bool.false_eq_true, nI_neq]
  refine ⟨_, (c_tape c, S', P', D', c_trial c, c_earlier c, c_sets c, c_survey c, c_marriages c, c_finder c), sA m' 0 f', by unfold stC_year; rw [e1]; rfl, by unfold stM_year; rw [e2]; rfl, ⟨nextD d, ok_next ok (by omega), by show lY d + 1 ≤ 9999; omega, p2, q2⟩, ?_, hP, ?_, ?_⟩
  · show TapeOf (c_tape c) (m'.1 6) (m'.2.1 5)
    rw [j6, jA 5 (by decide)]
    exact hI.2.1
  · show ImgOf D'.2.1 D'.2.2.2.2.1 (m'.2.1 9) (m'.2.1 10)
    rw [jA 9 (by decide), jA 10 (by decide)]
    exact hImg
  · show SheetOf D'.2.2.1 D'.2.2.2.1 D'.2.2.2.2.1 (m'.2.1 26) (m'.2.1 27) (m'.2.2 28)
    rw [jA 26 (by decide), jA 27 (by decide), jL]
    exact hSh
theorem r_undo22 {m : Rec} {a : Nat} (ha : a < 24) (e4 : m.1 4 = nI a) : X9_undo_L22 aFu (nI 0) m = some (sA m 0 (laid (fun j => m.2.1 3 (96 * a + j)) (m.2.1 0) 96)) := by
  have := forUp (fun n j s => X9_undo_L22 n j s) 96 (fun k => sA m 0 (laid (fun j => m.2.1 3 (96 * a + j)) (m.2.1 0) k)) (some (sA m 0 (laid (fun j => m.2.1 3 (96 * a + j)) (m.2.1 0) 96))) (fun n k hk => ?_) (fun n => ?_) 96 0 aFu rfl (by decide)
  · have e : sA m 0 (laid (fun j => m.2.1 3 (96 * a + j)) (m.2.1 0) 0) = m := by
      have : laid (fun j => m.2.1 3 (96 * a + j)) (m.2.1 0) 0 = m.2.1 0 := funext fun j => if_neg (Nat.not_lt_zero j)
      rw [this, sA_id]
    rw [e] at this
    exact this
  · have h : ¬ 96 ≤ k := by omega
    have e : (sA m 0 (laid (fun j => m.2.1 3 (96 * a + j)) (m.2.1 0) k)).2.1 0 = laid (fun j => m.2.1 3 (96 * a + j)) (m.2.1 0) k := rfl
    have e0 : (sA m 0 (laid (fun j => m.2.1 3 (96 * a + j)) (m.2.1 0) k)).2.1 3 = m.2.1 3 := rfl
    have e1 : (sA m 0 (laid (fun j => m.2.1 3 (96 * a + j)) (m.2.1 0) k)).1 4 = nI a := e4
    have u := laid_up (fun j => m.2.1 3 (96 * a + j)) (m.2.1 0) k
    simp (disch := omega) only [X9_undo_L22, li0, li1, li2, li3, li4, li5, li6, li7, li8, li11, li12, li16, li24, li25, li26, li31, li32, li36, li40, li48, li52, li58, li59, li60, li63, li64, li88, li96, li130, li192, li255, li2208, li2304, li9999, li9, li13, li14, li30, li35, li44, li45, li46, li47, li97, li98, li100, li101, li104, li105, li108, li110, li111, li112, li114, li117, li122, li999999, li1000000, li2147483647, cmp0, cmpl, cmpg, cmple, cmpge, nI_leI, nI_ltI, nI_eq, rL, rI, wL, wI, ob, aLet, nI_add, pk_mul, ↓reduceIte, if_true, if_false, eq_self, Nat.reduceEqDiff, Nat.reduceLeDiff, Nat.reduceLT, Nat.one_ne_zero, Nat.zero_ne_one, Nat.add_zero, Bool.false_eq_true, nI_neq, h, e, e0, e1, sA_sA]
    rw [u]
  · simp (disch := omega) only [X9_undo_L22, li0, li1, li2, li3, li4, li5, li6, li7, li8, li11, li12, li16, li24, li25, li26, li31, li32, li36, li40, li48, li52, li58, li59, li60, li63, li64, li88, li96, li130, li192, li255, li2208, li2304, li9999, li9, li13, li14, li30, li35, li44, li45, li46, li47, li97, li98, li100, li101, li104, li105, li108, li110, li111, li112, li114, li117, li122, li999999, li1000000, li2147483647, cmp0, cmpl, cmpg, cmple, cmpge, nI_leI, nI_ltI, nI_eq, rL, rI, wL, wI, ob, aLet, nI_add, pk_mul, ↓reduceIte, if_true, if_false, eq_self, Nat.reduceEqDiff, Nat.reduceLeDiff, Nat.reduceLT, Nat.one_ne_zero, Nat.zero_ne_one, Nat.add_zero, Bool.false_eq_true, nI_neq, Nat.le_refl]
theorem eq_undo {c : CSt} {m : Rec} (hI : Inv c m) : ∃ (r : Int32) (c1 : CSt) (m1 : Rec), stC_undo c = some (r, c1) ∧ stM_undo m = some (r, m1) ∧ Inv c1 m1 := by
  obtain ⟨⟨d, ok, hy, hS, hf⟩, hT, ⟨a, k, ha, hk, p1, p2, p3, p4⟩, hImg, hSh⟩ := id hI
  by_cases h0 : k = 0
  · subst h0
    have e1 : X8_undo (c_D c) (c_past c) (c_now c) = some (-nI 4, c_past c, c_now c) := by
      simp (disch := omega) only [X8_undo, X4_bringBack, p2, li0, li1, li2, li3, li4, li5, li6, li7, li8, li11, li12, li16, li24, li25, li26, li31, li32, li36, li40, li48, li52, li58, li59, li60, li63, li64, li88, li96, li130, li192, li255, li2208, li2304, li9999, li9, li13, li14, li30, li35, li44, li45, li46, li47, li97, li98, li100, li101, li104, li105, li108, li110, li111, li112, li114, li117, li122, li999999, li1000000, li2147483647, cmp0, cmpl, cmpg, cmple, cmpge, nI_leI, nI_ltI, nI_eq, rL, rI, wL, wI, ob, aLet, nI_add, pk_mul, ↓reduceIte, if_true, if_false, eq_self, Nat.reduceEqDiff, Nat.reduceLeDiff, Nat.reduceLT, Nat.one_ne_zero, Nat.zero_ne_one, Nat.add_zero, Bool.false_eq_true, nI_neq, Nat.le_refl]
    have e2 : X9_undo m = some (-nI 4, m) := by
      simp (disch := omega) only [X9_undo, p3, li0, li1, li2, li3, li4, li5, li6, li7, li8, li11, li12, li16, li24, li25, li26, li31, li32, li36, li40, li48, li52, li58, li59, li60, li63, li64, li88, li96, li130, li192, li255, li2208, li2304, li9999, li9, li13, li14, li30, li35, li44, li45, li46, li47, li97, li98, li100, li101, li104, li105, li108, li110, li111, li112, li114, li117, li122, li999999, li1000000, li2147483647, cmp0, cmpl, cmpg, cmple, cmpge, nI_leI, nI_ltI, nI_eq, rL, rI, wL, wI, ob, aLet, nI_add, pk_mul, ↓reduceIte, if_true, if_false, eq_self, Nat.reduceEqDiff, Nat.reduceLeDiff, Nat.reduceLT, Nat.one_ne_zero, Nat.zero_ne_one, Nat.add_zero, Bool.false_eq_true, nI_neq]
    exact ⟨_, c, m, by unfold stC_undo; rw [e1]; rfl, by unfold stM_undo; rw [e2]; rfl, hI⟩
  obtain ⟨⟨q, q1⟩, d1, ok1, hy1, hB, hW⟩ := p4 (k - 1) (by omega)
  have es : (a + 24 - k + (k - 1)) % 24 = (a + 23) % 24 := by omega
  rw [es] at q1 hB
  have hr : nI (a + 24 - 1) - nI (a + 24 - 1) / nI 24 * nI 24 = nI ((a + 24 - 1) % 24) := pk_rem (by omega) (by decide) (by decide)
  rw [show (a + 24 - 1) % 24 = (a + 23) % 24 by omega] at hr
  have hr0 : nI (a + 24) - nI 1 = nI (a + 24 - 1) := pk_sub (by omega)
  have hz : ¬ k ≤ 0 := by omega
  have hz2 : (0 ≤ (a + 23) % 24) = True := by simp
  have cl : (nI ((a + 23) % 24)).toNatClampNeg = (a + 23) % 24 := nI_clamp (by omega)
  have e2' : ∀ v, (sI (c_past c) 1 v).1 2 = nI k := fun v => p2
  have hk1 : nI k - nI 1 = nI (k - 1) := pk_sub (by omega)
  have hl : (a + 23) % 24 < 24 := Nat.mod_lt _ (by decide)
  have e1 : X8_undo (c_D c) (c_past c) (c_now c) = some (nI (k - 1), sI (sI (c_past c) 1 (nI ((a + 23) % 24))) 2 (nI (k - 1)), X2_become (c_now c) ((c_D c).2.2.2.2.1 ((a + 23) % 24))) := by
    have eb : X4_bringBack (c_D c) (c_past c) (c_now c) = some (nI 1, sI (sI (c_past c) 1 (nI ((a + 23) % 24))) 2 (nI (k - 1)), X2_become (c_now c) ((c_D c).2.2.2.2.1 ((a + 23) % 24))) := by
      unfold X4_bringBack
      simp only [p1, p2, li24, li1, nI_add, hr0, aLet]
      rw [hr]
      simp (disch := omega) only [li0, li1, li2, li3, li4, li5, li6, li7, li8, li11, li12, li16, li24, li25, li26, li31, li32, li36, li40, li48, li52, li58, li59, li60, li63, li64, li88, li96, li130, li192, li255, li2208, li2304, li9999, li9, li13, li14, li30, li35, li44, li45, li46, li47, li97, li98, li100, li101, li104, li105, li108, li110, li111, li112, li114, li117, li122, li999999, li1000000, li2147483647, cmp0, cmpl, cmpg, cmple, cmpge, nI_leI, nI_ltI, nI_eq, rL, rI, wL, wI, ob, aLet, nI_add, pk_mul, ↓reduceIte, if_true, if_false, eq_self, Nat.reduceEqDiff, Nat.reduceLeDiff, Nat.reduceLT, Nat.one_ne_zero, Nat.zero_ne_one, Nat.add_zero, Bool.false_eq_true, nI_neq, hz, hz2, rQ, q1, aQs, cl, e2', hk1]
    simp (disch := omega) only [X8_undo, eb, li0, li1, li2, li3, li4, li5, li6, li7, li8, li11, li12, li16, li24, li25, li26, li31, li32, li36, li40, li48, li52, li58, li59, li60, li63, li64, li88, li96, li130, li192, li255, li2208, li2304, li9999, li9, li13, li14, li30, li35, li44, li45, li46, li47, li97, li98, li100, li101, li104, li105, li108, li110, li111, li112, li114, li117, li122, li999999, li1000000, li2147483647, cmp0, cmpl, cmpg, cmple, cmpge, nI_leI, nI_ltI, nI_eq, rL, rI, wL, wI, ob, aLet, nI_add, pk_mul, ↓reduceIte, if_true, if_false, eq_self, Nat.reduceEqDiff, Nat.reduceLeDiff, Nat.reduceLT, Nat.one_ne_zero, Nat.zero_ne_one, Nat.add_zero, Bool.false_eq_true, nI_neq]
    rfl
  have u22 := r_undo22 (m := sI m 4 (nI (k - 1))) (a := k - 1) (by omega) rfl
  have e2 : X9_undo m = some (nI (k - 1), sA (sI m 4 (nI (k - 1))) 0 (laid (fun j => m.2.1 3 (96 * (k - 1) + j)) (m.2.1 0) 96)) := by
    have u' : X9_undo_L22 aFu (nI 0) (sI m 4 (nI (k - 1))) = some (sA (sI m 4 (nI (k - 1))) 0 (laid (fun j => m.2.1 3 (96 * (k - 1) + j)) (m.2.1 0) 96)) := u22
    have z : ¬ k = 0 := h0
    have e4 : ∀ f, (sA (sI m 4 (nI (k - 1))) 0 f).1 4 = nI (k - 1) := fun f => rfl
    simp (disch := omega) only [X9_undo, p3, li0, li1, li2, li3, li4, li5, li6, li7, li8, li11, li12, li16, li24, li25, li26, li31, li32, li36, li40, li48, li52, li58, li59, li60, li63, li64, li88, li96, li130, li192, li255, li2208, li2304, li9999, li9, li13, li14, li30, li35, li44, li45, li46, li47, li97, li98, li100, li101, li104, li105, li108, li110, li111, li112, li114, li117, li122, li999999, li1000000, li2147483647, cmp0, cmpl, cmpg, cmple, cmpge, nI_leI, nI_ltI, nI_eq, rL, rI, wL, wI, ob, aLet, nI_add, pk_mul, ↓reduceIte, if_true, if_false, eq_self, Nat.reduceEqDiff, Nat.reduceLeDiff, Nat.reduceLT, Nat.one_ne_zero, Nat.zero_ne_one, Nat.add_zero, Bool.false_eq_true, nI_neq, z, hk1, u', e4]
  refine ⟨_, (c_tape c, X2_become (c_now c) ((c_D c).2.2.2.2.1 ((a + 23) % 24)), sI (sI (c_past c) 1 (nI ((a + 23) % 24))) 2 (nI (k - 1)), c_D c, c_trial c, c_earlier c, c_sets c, c_survey c, c_marriages c, c_finder c), sA (sI m 4 (nI (k - 1))) 0 (laid (fun j => m.2.1 3 (96 * (k - 1) + j)) (m.2.1 0) 96), by unfold stC_undo; rw [e1]; rfl, by unfold stM_undo; rw [e2]; rfl, ⟨d1, ok1, hy1, c_become ok1 hB, ?_⟩, hT, ⟨(a + 23) % 24, k - 1, hl, by omega, rfl, rfl, rfl, fun i hi => ?_⟩, hImg, hSh⟩
  · exact row_cong ok1 hW (fun j hj => if_pos hj)
  · have := p4 i (by omega)
    rw [show ((a + 23) % 24 + 24 - (k - 1) + i) % 24 = (a + 24 - k + i) % 24 by omega]
    exact this
theorem r_image24 {m : Rec} {a : Nat} (ha : a < 2) : X9_image_L24 (nI a) aFu (nI 0) m = some (sA m 10 (putR (m.2.1 10) (m.2.1 0) (96 * a) 96)) := by
  have := forUp (fun n j s => X9_image_L24 (nI a) n j s) 96 (fun k => sA m 10 (putR (m.2.1 10) (m.2.1 0) (96 * a) k)) (some (sA m 10 (putR (m.2.1 10) (m.2.1 0) (96 * a) 96))) (fun n k hk => ?_) (fun n => ?_) 96 0 aFu rfl (by decide)
  · have e : sA m 10 (putR (m.2.1 10) (m.2.1 0) (96 * a) 0) = m := by
      have : putR (m.2.1 10) (m.2.1 0) (96 * a) 0 = m.2.1 10 := funext fun j => if_neg (by omega)
      rw [this, sA_id]
    rw [e] at this
    exact this
  · have h : ¬ 96 ≤ k := by omega
    have e : (sA m 10 (putR (m.2.1 10) (m.2.1 0) (96 * a) k)).2.1 10 = putR (m.2.1 10) (m.2.1 0) (96 * a) k := rfl
    have e0 : (sA m 10 (putR (m.2.1 10) (m.2.1 0) (96 * a) k)).2.1 0 = m.2.1 0 := rfl
    simp (disch := omega) only [X9_image_L24, li0, li1, li2, li3, li4, li5, li6, li7, li8, li11, li12, li16, li24, li25, li26, li31, li32, li36, li40, li48, li52, li58, li59, li60, li63, li64, li88, li96, li130, li192, li255, li2208, li2304, li9999, li9, li13, li14, li30, li35, li44, li45, li46, li47, li97, li98, li100, li101, li104, li105, li108, li110, li111, li112, li114, li117, li122, li999999, li1000000, li2147483647, cmp0, cmpl, cmpg, cmple, cmpge, nI_leI, nI_ltI, nI_eq, rL, rI, wL, wI, ob, aLet, nI_add, pk_mul, ↓reduceIte, if_true, if_false, eq_self, Nat.reduceEqDiff, Nat.reduceLeDiff, Nat.reduceLT, Nat.one_ne_zero, Nat.zero_ne_one, Nat.add_zero, Bool.false_eq_true, nI_neq, h, e, e0, sA_sA]
    rw [putR_up]
  · simp (disch := omega) only [X9_image_L24, li0, li1, li2, li3, li4, li5, li6, li7, li8, li11, li12, li16, li24, li25, li26, li31, li32, li36, li40, li48, li52, li58, li59, li60, li63, li64, li88, li96, li130, li192, li255, li2208, li2304, li9999, li9, li13, li14, li30, li35, li44, li45, li46, li47, li97, li98, li100, li101, li104, li105, li108, li110, li111, li112, li114, li117, li122, li999999, li1000000, li2147483647, cmp0, cmpl, cmpg, cmple, cmpge, nI_leI, nI_ltI, nI_eq, rL, rI, wL, wI, ob, aLet, nI_add, pk_mul, ↓reduceIte, if_true, if_false, eq_self, Nat.reduceEqDiff, Nat.reduceLeDiff, Nat.reduceLT, Nat.one_ne_zero, Nat.zero_ne_one, Nat.add_zero, Bool.false_eq_true, nI_neq, Nat.le_refl]
theorem r_restore26 {m : Rec} {a : Nat} (ha : a < 2) : X9_restore_L26 (nI a) aFu (nI 0) m = some (sA m 0 (laid (fun j => m.2.1 10 (96 * a + j)) (m.2.1 0) 96)) := by
  have := forUp (fun n j s => X9_restore_L26 (nI a) n j s) 96 (fun k => sA m 0 (laid (fun j => m.2.1 10 (96 * a + j)) (m.2.1 0) k)) (some (sA m 0 (laid (fun j => m.2.1 10 (96 * a + j)) (m.2.1 0) 96))) (fun n k hk => ?_) (fun n => ?_) 96 0 aFu rfl (by decide)
  · have e : sA m 0 (laid (fun j => m.2.1 10 (96 * a + j)) (m.2.1 0) 0) = m := by
      have : laid (fun j => m.2.1 10 (96 * a + j)) (m.2.1 0) 0 = m.2.1 0 := funext fun j => if_neg (Nat.not_lt_zero j)
      rw [this, sA_id]
    rw [e] at this
    exact this
  · have h : ¬ 96 ≤ k := by omega
    have e : (sA m 0 (laid (fun j => m.2.1 10 (96 * a + j)) (m.2.1 0) k)).2.1 0 = laid (fun j => m.2.1 10 (96 * a + j)) (m.2.1 0) k := rfl
    have e0 : (sA m 0 (laid (fun j => m.2.1 10 (96 * a + j)) (m.2.1 0) k)).2.1 10 = m.2.1 10 := rfl
    have u := laid_up (fun j => m.2.1 10 (96 * a + j)) (m.2.1 0) k
    simp (disch := omega) only [X9_restore_L26, li0, li1, li2, li3, li4, li5, li6, li7, li8, li11, li12, li16, li24, li25, li26, li31, li32, li36, li40, li48, li52, li58, li59, li60, li63, li64, li88, li96, li130, li192, li255, li2208, li2304, li9999, li9, li13, li14, li30, li35, li44, li45, li46, li47, li97, li98, li100, li101, li104, li105, li108, li110, li111, li112, li114, li117, li122, li999999, li1000000, li2147483647, cmp0, cmpl, cmpg, cmple, cmpge, nI_leI, nI_ltI, nI_eq, rL, rI, wL, wI, ob, aLet, nI_add, pk_mul, ↓reduceIte, if_true, if_false, eq_self, Nat.reduceEqDiff, Nat.reduceLeDiff, Nat.reduceLT, Nat.one_ne_zero, Nat.zero_ne_one, Nat.add_zero, Bool.false_eq_true, nI_neq, h, e, e0, sA_sA]
    rw [u]
  · simp (disch := omega) only [X9_restore_L26, li0, li1, li2, li3, li4, li5, li6, li7, li8, li11, li12, li16, li24, li25, li26, li31, li32, li36, li40, li48, li52, li58, li59, li60, li63, li64, li88, li96, li130, li192, li255, li2208, li2304, li9999, li9, li13, li14, li30, li35, li44, li45, li46, li47, li97, li98, li100, li101, li104, li105, li108, li110, li111, li112, li114, li117, li122, li999999, li1000000, li2147483647, cmp0, cmpl, cmpg, cmple, cmpge, nI_leI, nI_ltI, nI_eq, rL, rI, wL, wI, ob, aLet, nI_add, pk_mul, ↓reduceIte, if_true, if_false, eq_self, Nat.reduceEqDiff, Nat.reduceLeDiff, Nat.reduceLT, Nat.one_ne_zero, Nat.zero_ne_one, Nat.add_zero, Bool.false_eq_true, nI_neq, Nat.le_refl]
theorem past_far {P : Rec} {lf lf' : Nat → Option Nat} {B B' : Nat → Rec} {n : Int32} {w : Nat → Int32} (h : PastOf P lf B n w) (o : ∀ j, j < 24 → lf' j = lf j) (o2 : ∀ j, j < 24 → B' j = B j) : PastOf P lf' B' n w := by
  obtain ⟨a, k, ha, hk, p1, p2, p3, p4⟩ := h
  refine ⟨a, k, ha, hk, p1, p2, p3, fun i hi => ?_⟩
  have hl : (a + 24 - k + i) % 24 < 24 := Nat.mod_lt _ (by decide)
  rw [o _ hl, o2 _ hl]
  exact p4 i hi
theorem eq_image {c : CSt} {m : Rec} (hI : Inv c m) (x1 : Int32) : ∃ (r : Int32) (c1 : CSt) (m1 : Rec), stC_image c x1 = some (r, c1) ∧ stM_image m x1 = some (r, m1) ∧ Inv c1 m1 := by
  obtain ⟨⟨d, ok, hy, hS, hf⟩, hT, hP, hImg, hSh⟩ := id hI
  have refuse : ∀ v, X8_image (c_D c) (c_now c) x1 = some (v, c_D c) → X9_image m x1 = some (v, m) → ∃ (r : Int32) (c1 : CSt) (m1 : Rec), stC_image c x1 = some (r, c1) ∧ stM_image m x1 = some (r, m1) ∧ Inv c1 m1 := fun v h1 h2 => ⟨v, c, m, by unfold stC_image; rw [h1]; rfl, by unfold stM_image; rw [h2]; rfl, hI⟩
  rcases rg_0_1 x1 with ⟨a, b, -⟩ | ⟨k, -, hk, rfl, a, b⟩
  · refine refuse (-nI 1) ?_ ?_
    · simp (disch := omega) only [X8_image, a, li0, li1, li2, li3, li4, li5, li6, li7, li8, li11, li12, li16, li24, li25, li26, li31, li32, li36, li40, li48, li52, li58, li59, li60, li63, li64, li88, li96, li130, li192, li255, li2208, li2304, li9999, li9, li13, li14, li30, li35, li44, li45, li46, li47, li97, li98, li100, li101, li104, li105, li108, li110, li111, li112, li114, li117, li122, li999999, li1000000, li2147483647, cmp0, cmpl, cmpg, cmple, cmpge, nI_leI, nI_ltI, nI_eq, rL, rI, wL, wI, ob, aLet, nI_add, pk_mul, ↓reduceIte, if_true, if_false, eq_self, Nat.reduceEqDiff, Nat.reduceLeDiff, Nat.reduceLT, Nat.one_ne_zero, Nat.zero_ne_one, Nat.add_zero, Bool.false_eq_true, nI_neq]
    · simp (disch := omega) only [X9_image, b, li0, li1, li2, li3, li4, li5, li6, li7, li8, li11, li12, li16, li24, li25, li26, li31, li32, li36, li40, li48, li52, li58, li59, li60, li63, li64, li88, li96, li130, li192, li255, li2208, li2304, li9999, li9, li13, li14, li30, li35, li44, li45, li46, li47, li97, li98, li100, li101, li104, li105, li108, li110, li111, li112, li114, li117, li122, li999999, li1000000, li2147483647, cmp0, cmpl, cmpg, cmple, cmpge, nI_leI, nI_ltI, nI_eq, rL, rI, wL, wI, ob, aLet, nI_add, pk_mul, ↓reduceIte, if_true, if_false, eq_self, Nat.reduceEqDiff, Nat.reduceLeDiff, Nat.reduceLT, Nat.one_ne_zero, Nat.zero_ne_one, Nat.add_zero, Bool.false_eq_true, nI_neq]
  have st := c_stands ok hS
  have th := r_there ok hf
  by_cases h0 : lH d = 0
  · rw [if_pos h0] at st th
    refine refuse (-nI 2) ?_ ?_
    · simp (disch := omega) only [X8_image, a, st, li0, li1, li2, li3, li4, li5, li6, li7, li8, li11, li12, li16, li24, li25, li26, li31, li32, li36, li40, li48, li52, li58, li59, li60, li63, li64, li88, li96, li130, li192, li255, li2208, li2304, li9999, li9, li13, li14, li30, li35, li44, li45, li46, li47, li97, li98, li100, li101, li104, li105, li108, li110, li111, li112, li114, li117, li122, li999999, li1000000, li2147483647, cmp0, cmpl, cmpg, cmple, cmpge, nI_leI, nI_ltI, nI_eq, rL, rI, wL, wI, ob, aLet, nI_add, pk_mul, ↓reduceIte, if_true, if_false, eq_self, Nat.reduceEqDiff, Nat.reduceLeDiff, Nat.reduceLT, Nat.one_ne_zero, Nat.zero_ne_one, Nat.add_zero, Bool.false_eq_true, nI_neq]
    · simp (disch := omega) only [X9_image, b, th, li0, li1, li2, li3, li4, li5, li6, li7, li8, li11, li12, li16, li24, li25, li26, li31, li32, li36, li40, li48, li52, li58, li59, li60, li63, li64, li88, li96, li130, li192, li255, li2208, li2304, li9999, li9, li13, li14, li30, li35, li44, li45, li46, li47, li97, li98, li100, li101, li104, li105, li108, li110, li111, li112, li114, li117, li122, li999999, li1000000, li2147483647, cmp0, cmpl, cmpg, cmple, cmpge, nI_leI, nI_ltI, nI_eq, rL, rI, wL, wI, ob, aLet, nI_add, pk_mul, ↓reduceIte, if_true, if_false, eq_self, Nat.reduceEqDiff, Nat.reduceLeDiff, Nat.reduceLT, Nat.one_ne_zero, Nat.zero_ne_one, Nat.add_zero, Bool.false_eq_true, nI_neq]
  rw [if_neg h0] at st th
  have cl : (nI k).toNatClampNeg = k := nI_clamp (by omega)
  have hz : ¬ k < 0 := by omega
  have hz2 : ¬ 2 ≤ k := by omega
  obtain ⟨D', e1, o1, o2, o3, o4, o5, o6, o7⟩ : ∃ D', X8_image (c_D c) (c_now c) (nI k) = some (nI (lY d), D') ∧ D'.1 = (c_D c).1 ∧ (∃ q, D'.2.1 k = some q) ∧ (∀ j, j ≠ k → D'.2.1 j = (c_D c).2.1 j) ∧ D'.2.2.1 = (c_D c).2.2.1 ∧ D'.2.2.2.1 = (c_D c).2.2.2.1 ∧ LandOf d (D'.2.2.2.2.1 (24 + k)) ∧ ∀ j, j ≠ 24 + k → D'.2.2.2.2.1 j = (c_D c).2.2.2.2.1 j := by
    have e1 : X8_image (c_D c) (c_now c) (nI k) = aQs ((c_D c).2.1 k) (some (nI (lY d), dLV (dNewI (c_D c) k zR) (24 + k) (X2_become ((dNewI (c_D c) k zR).2.2.2.2.1 (24 + k)) (c_now c)))) (fun q => some (nI (lY d), dLV (c_D c) (24 + k) (X2_become ((c_D c).2.2.2.2.1 (24 + k)) (c_now c)))) := by
      unfold X8_image
      simp (disch := omega) only [a, st, hS.2.2.2.1, li0, li1, li2, li3, li4, li5, li6, li7, li8, li11, li12, li16, li24, li25, li26, li31, li32, li36, li40, li48, li52, li58, li59, li60, li63, li64, li88, li96, li130, li192, li255, li2208, li2304, li9999, li9, li13, li14, li30, li35, li44, li45, li46, li47, li97, li98, li100, li101, li104, li105, li108, li110, li111, li112, li114, li117, li122, li999999, li1000000, li2147483647, cmp0, cmpl, cmpg, cmple, cmpge, nI_leI, nI_ltI, nI_eq, rL, rI, wL, wI, ob, aLet, nI_add, pk_mul, ↓reduceIte, if_true, if_false, eq_self, Nat.reduceEqDiff, Nat.reduceLeDiff, Nat.reduceLT, Nat.one_ne_zero, Nat.zero_ne_one, Nat.add_zero, Bool.false_eq_true, nI_neq, hz, hz2, rQ, cl, or_self]
    cases h : (c_D c).2.1 k with
    | none =>
      rw [h] at e1
      refine ⟨_, e1, rfl, ⟨_, if_pos rfl⟩, fun j hj => if_neg hj, rfl, rfl, ?_, fun j hj => ?_⟩
      · show LandOf d (if 24 + k = 24 + k then _ else _)
        rw [if_pos rfl]
        exact c_become ok hS
      · show (if j = 24 + k then _ else (if j = 24 + k then _ else _)) = _
        rw [if_neg hj, if_neg hj]
    | some q =>
      rw [h] at e1
      refine ⟨_, e1, rfl, ⟨q, h⟩, fun j hj => rfl, rfl, rfl, ?_, fun j hj => ?_⟩
      · show LandOf d (if 24 + k = 24 + k then _ else _)
        rw [if_pos rfl]
        exact c_become ok hS
      · show (if j = 24 + k then _ else _) = _
        rw [if_neg hj]
  have l24 := r_image24 (m := m) (a := k) (by omega)
  have e2 : X9_image m (nI k) = some (nI (lY d), sA (sA m 10 (putR (m.2.1 10) (m.2.1 0) (96 * k) 96)) 9 (upd (m.2.1 9) k (nI 1))) := by
    have g1 : ∀ f, (sA m 10 f).2.1 9 = m.2.1 9 := fun f => rfl
    have g2 : ∀ f g, (sA (sA m 10 f) 9 g).2.1 0 = m.2.1 0 := fun f g => rfl
    simp (disch := omega) only [X9_image, b, th, l24, g1, g2, hf.2.2.2.1, li0, li1, li2, li3, li4, li5, li6, li7, li8, li11, li12, li16, li24, li25, li26, li31, li32, li36, li40, li48, li52, li58, li59, li60, li63, li64, li88, li96, li130, li192, li255, li2208, li2304, li9999, li9, li13, li14, li30, li35, li44, li45, li46, li47, li97, li98, li100, li101, li104, li105, li108, li110, li111, li112, li114, li117, li122, li999999, li1000000, li2147483647, cmp0, cmpl, cmpg, cmple, cmpge, nI_leI, nI_ltI, nI_eq, rL, rI, wL, wI, ob, aLet, nI_add, pk_mul, ↓reduceIte, if_true, if_false, eq_self, Nat.reduceEqDiff, Nat.reduceLeDiff, Nat.reduceLT, Nat.one_ne_zero, Nat.zero_ne_one, Nat.add_zero, Bool.false_eq_true, nI_neq]
  refine ⟨_, (c_tape c, c_now c, c_past c, D', c_trial c, c_earlier c, c_sets c, c_survey c, c_marriages c, c_finder c), sA (sA m 10 (putR (m.2.1 10) (m.2.1 0) (96 * k) 96)) 9 (upd (m.2.1 9) k (nI 1)), by unfold stC_image; rw [e1]; rfl, by unfold stM_image; rw [e2]; rfl, ⟨d, ok, hy, hS, hf⟩, hT, ?_, ?_, ?_⟩
  · exact past_far hP (fun j _ => by rw [o1]) (fun j hj => o7 j (by omega))
  · intro i hi
    show (D'.2.1 i = none ∧ upd (m.2.1 9) k (nI 1) i = nI 0) ∨ _
    by_cases z : i = k
    · subst z
      refine Or.inr ⟨o2, pk_us, d, ok, hy, o6, row_cong ok hf (fun j hj => ?_)⟩
      show putR (m.2.1 10) (m.2.1 0) (96 * i) 96 (96 * i + j) = m.2.1 0 j
      unfold putR
      rw [if_pos (by omega), show 96 * i + j - 96 * i = j by omega]
    · rcases hImg i hi with ⟨g1, g2⟩ | ⟨⟨q, g1⟩, g2, d1, g3, g4, g5, g6⟩
      · exact Or.inl ⟨(o3 i z).trans g1, (pk_un z).trans g2⟩
      · refine Or.inr ⟨⟨q, (o3 i z).trans g1⟩, (pk_un z).trans g2, d1, g3, g4, ?_, row_cong g3 g6 (fun j hj => ?_)⟩
        · show LandOf d1 (D'.2.2.2.2.1 (24 + i))
          rw [o7 _ (by omega)]
          exact g5
        · show putR (m.2.1 10) (m.2.1 0) (96 * k) 96 (96 * i + j) = m.2.1 10 (96 * i + j)
          unfold putR
          rw [if_neg (by omega)]
  · show SheetOf D'.2.2.1 D'.2.2.2.1 D'.2.2.2.2.1 (m.2.1 26) (m.2.1 27) (m.2.2 28)
    rw [o4, o5]
    exact sheet_far hSh (fun j hj => o7 j (by omega))
theorem eq_restore {c : CSt} {m : Rec} (hI : Inv c m) (x1 : Int32) : ∃ (r : Int32) (c1 : CSt) (m1 : Rec), stC_restore c x1 = some (r, c1) ∧ stM_restore m x1 = some (r, m1) ∧ Inv c1 m1 := by
  obtain ⟨⟨d, ok, hy, hS, hf⟩, hT, hP, hImg, hSh⟩ := id hI
  have refuse : ∀ v, X8_restore (c_D c) (c_now c) (c_past c) x1 = some (v, c_now c, c_past c) → X9_restore m x1 = some (v, m) → ∃ (r : Int32) (c1 : CSt) (m1 : Rec), stC_restore c x1 = some (r, c1) ∧ stM_restore m x1 = some (r, m1) ∧ Inv c1 m1 := fun v h1 h2 => ⟨v, c, m, by unfold stC_restore; rw [h1]; rfl, by unfold stM_restore; rw [h2]; rfl, hI⟩
  rcases rg_0_1 x1 with ⟨a, b, -⟩ | ⟨k, -, hk, rfl, a, b⟩
  · refine refuse (-nI 1) ?_ ?_
    · simp (disch := omega) only [X8_restore, a, li0, li1, li2, li3, li4, li5, li6, li7, li8, li11, li12, li16, li24, li25, li26, li31, li32, li36, li40, li48, li52, li58, li59, li60, li63, li64, li88, li96, li130, li192, li255, li2208, li2304, li9999, li9, li13, li14, li30, li35, li44, li45, li46, li47, li97, li98, li100, li101, li104, li105, li108, li110, li111, li112, li114, li117, li122, li999999, li1000000, li2147483647, cmp0, cmpl, cmpg, cmple, cmpge, nI_leI, nI_ltI, nI_eq, rL, rI, wL, wI, ob, aLet, nI_add, pk_mul, ↓reduceIte, if_true, if_false, eq_self, Nat.reduceEqDiff, Nat.reduceLeDiff, Nat.reduceLT, Nat.one_ne_zero, Nat.zero_ne_one, Nat.add_zero, Bool.false_eq_true, nI_neq]
    · simp (disch := omega) only [X9_restore, b, li0, li1, li2, li3, li4, li5, li6, li7, li8, li11, li12, li16, li24, li25, li26, li31, li32, li36, li40, li48, li52, li58, li59, li60, li63, li64, li88, li96, li130, li192, li255, li2208, li2304, li9999, li9, li13, li14, li30, li35, li44, li45, li46, li47, li97, li98, li100, li101, li104, li105, li108, li110, li111, li112, li114, li117, li122, li999999, li1000000, li2147483647, cmp0, cmpl, cmpg, cmple, cmpge, nI_leI, nI_ltI, nI_eq, rL, rI, wL, wI, ob, aLet, nI_add, pk_mul, ↓reduceIte, if_true, if_false, eq_self, Nat.reduceEqDiff, Nat.reduceLeDiff, Nat.reduceLT, Nat.one_ne_zero, Nat.zero_ne_one, Nat.add_zero, Bool.false_eq_true, nI_neq]
  have cl : (nI k).toNatClampNeg = k := nI_clamp (by omega)
  rcases hImg k (by omega) with ⟨g1, g2⟩ | ⟨⟨q, g1⟩, g2, d1, ok1, hy1, g5, g6⟩
  · refine refuse (-nI 2) ?_ ?_
    · simp (disch := omega) only [X8_restore, a, li0, li1, li2, li3, li4, li5, li6, li7, li8, li11, li12, li16, li24, li25, li26, li31, li32, li36, li40, li48, li52, li58, li59, li60, li63, li64, li88, li96, li130, li192, li255, li2208, li2304, li9999, li9, li13, li14, li30, li35, li44, li45, li46, li47, li97, li98, li100, li101, li104, li105, li108, li110, li111, li112, li114, li117, li122, li999999, li1000000, li2147483647, cmp0, cmpl, cmpg, cmple, cmpge, nI_leI, nI_ltI, nI_eq, rL, rI, wL, wI, ob, aLet, nI_add, pk_mul, ↓reduceIte, if_true, if_false, eq_self, Nat.reduceEqDiff, Nat.reduceLeDiff, Nat.reduceLT, Nat.one_ne_zero, Nat.zero_ne_one, Nat.add_zero, Bool.false_eq_true, nI_neq, rQ, g1, aQs]
    · simp (disch := omega) only [X9_restore, b, g2, li0, li1, li2, li3, li4, li5, li6, li7, li8, li11, li12, li16, li24, li25, li26, li31, li32, li36, li40, li48, li52, li58, li59, li60, li63, li64, li88, li96, li130, li192, li255, li2208, li2304, li9999, li9, li13, li14, li30, li35, li44, li45, li46, li47, li97, li98, li100, li101, li104, li105, li108, li110, li111, li112, li114, li117, li122, li999999, li1000000, li2147483647, cmp0, cmpl, cmpg, cmple, cmpge, nI_leI, nI_ltI, nI_eq, rL, rI, wL, wI, ob, aLet, nI_add, pk_mul, ↓reduceIte, if_true, if_false, eq_self, Nat.reduceEqDiff, Nat.reduceLeDiff, Nat.reduceLT, Nat.one_ne_zero, Nat.zero_ne_one, Nat.add_zero, Bool.false_eq_true, nI_neq]
  have hB := c_become (S0 := c_now c) ok1 g5
  have e1 : X8_restore (c_D c) (c_now c) (c_past c) (nI k) = some (nI (lY d1), X2_become (c_now c) ((c_D c).2.2.2.2.1 (24 + k)), X4_forget (c_D c).1 (c_past c)) := by
    simp (disch := omega) only [X8_restore, a, li0, li1, li2, li3, li4, li5, li6, li7, li8, li11, li12, li16, li24, li25, li26, li31, li32, li36, li40, li48, li52, li58, li59, li60, li63, li64, li88, li96, li130, li192, li255, li2208, li2304, li9999, li9, li13, li14, li30, li35, li44, li45, li46, li47, li97, li98, li100, li101, li104, li105, li108, li110, li111, li112, li114, li117, li122, li999999, li1000000, li2147483647, cmp0, cmpl, cmpg, cmple, cmpge, nI_leI, nI_ltI, nI_eq, rL, rI, wL, wI, ob, aLet, nI_add, pk_mul, ↓reduceIte, if_true, if_false, eq_self, Nat.reduceEqDiff, Nat.reduceLeDiff, Nat.reduceLT, Nat.one_ne_zero, Nat.zero_ne_one, Nat.add_zero, Bool.false_eq_true, nI_neq, rQ, g1, aQs, cl, hB.2.2.2.1]
  have l26 := r_restore26 (m := m) (a := k) (by omega)
  have hR : RowOf d1 (laid (fun j => m.2.1 10 (96 * k + j)) (m.2.1 0) 96) := row_laid ok1 g6
  have e2 : X9_restore m (nI k) = some (nI (lY d1), sI (sA m 0 (laid (fun j => m.2.1 10 (96 * k + j)) (m.2.1 0) 96)) 4 (nI 0)) := by
    have g3 : (sI (sA m 0 (laid (fun j => m.2.1 10 (96 * k + j)) (m.2.1 0) 96)) 4 (nI 0)).2.1 0 = laid (fun j => m.2.1 10 (96 * k + j)) (m.2.1 0) 96 := rfl
    simp (disch := omega) only [X9_restore, b, g2, l26, g3, hR.2.2.2.1, li0, li1, li2, li3, li4, li5, li6, li7, li8, li11, li12, li16, li24, li25, li26, li31, li32, li36, li40, li48, li52, li58, li59, li60, li63, li64, li88, li96, li130, li192, li255, li2208, li2304, li9999, li9, li13, li14, li30, li35, li44, li45, li46, li47, li97, li98, li100, li101, li104, li105, li108, li110, li111, li112, li114, li117, li122, li999999, li1000000, li2147483647, cmp0, cmpl, cmpg, cmple, cmpge, nI_leI, nI_ltI, nI_eq, rL, rI, wL, wI, ob, aLet, nI_add, pk_mul, ↓reduceIte, if_true, if_false, eq_self, Nat.reduceEqDiff, Nat.reduceLeDiff, Nat.reduceLT, Nat.one_ne_zero, Nat.zero_ne_one, Nat.add_zero, Bool.false_eq_true, nI_neq]
  refine ⟨_, (c_tape c, X2_become (c_now c) ((c_D c).2.2.2.2.1 (24 + k)), X4_forget (c_D c).1 (c_past c), c_D c, c_trial c, c_earlier c, c_sets c, c_survey c, c_marriages c, c_finder c), sI (sA m 0 (laid (fun j => m.2.1 10 (96 * k + j)) (m.2.1 0) 96)) 4 (nI 0), by unfold stC_restore; rw [e1]; rfl, by unfold stM_restore; rw [e2]; rfl, ⟨d1, ok1, hy1, hB, hR⟩, hT, ?_, hImg, hSh⟩
  obtain ⟨a', k', ha, -, p1, -⟩ := hP
  exact ⟨a', 0, ha, by omega, p1, rfl, rfl, fun i hi => absurd hi (by omega)⟩
