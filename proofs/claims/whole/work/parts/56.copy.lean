/-! a copy from sheet to sheet; a film -/
def cpyB (f : Nat → Int64) (S D k r : Nat) : Nat → Int64 := fun p => if D + (k - r) ≤ p ∧ p < D + k then f (S + (p - D)) else f p
theorem cpy_up (f : Nat → Int64) (S D r : Nat) : vp_updL (va_cpy f f S D r) (D + r) (f (S + r)) = va_cpy f f S D (r + 1) := by
  funext p
  unfold vp_updL va_cpy
  by_cases h : p = D + r
  · subst h
    rw [if_pos rfl, if_pos (by omega), show D + r - D = r by omega]
  · by_cases q : D ≤ p ∧ p < D + r
    · rw [if_neg h, if_pos q, if_pos (by omega)]
    · rw [if_neg h, if_neg q, if_neg (by omega)]
theorem cpyB_up (f : Nat → Int64) (S D k r : Nat) (hr : r < k) : vp_updL (cpyB f S D k r) (D + (k - 1 - r)) (f (S + (k - 1 - r))) = cpyB f S D k (r + 1) := by
  funext p
  unfold vp_updL cpyB
  by_cases h : p = D + (k - 1 - r)
  · subst h
    rw [if_pos rfl, if_pos (by omega), show D + (k - 1 - r) - D = k - 1 - r by omega]
  · by_cases q : D + (k - r) ≤ p ∧ p < D + k
    · rw [if_neg h, if_pos q, if_pos (by omega)]
    · rw [if_neg h, if_neg q, if_neg (by omega)]
theorem r_copy {m : Rec} {s t i j k : Nat} (hs : s < 4) (ht : t < 4) (hi : i + k ≤ 24) (hj : j + k ≤ 24) : X9_copy_L110 (nI k) (nI j) (nI i) (nI s) (nI t) aFu (nI 0) m = some (sL m 28 (va_cpy (m.2.2 28) (m.2.2 28) (24 * s + i) (24 * t + j) k)) := by
  by_cases hd : j ≤ i
  · have := forUp (fun n r z => X9_copy_L110 (nI k) (nI j) (nI i) (nI s) (nI t) n r z) k (fun r => sL m 28 (va_cpy (m.2.2 28) (m.2.2 28) (24 * s + i) (24 * t + j) r)) (some (sL m 28 (va_cpy (m.2.2 28) (m.2.2 28) (24 * s + i) (24 * t + j) k))) (fun n r hr => ?_) (fun n => ?_) k 0 aFu (by omega) (by show _ < 100000; omega)
    · have e : sL m 28 (va_cpy (m.2.2 28) (m.2.2 28) (24 * s + i) (24 * t + j) 0) = m := by
        have : va_cpy (m.2.2 28) (m.2.2 28) (24 * s + i) (24 * t + j) 0 = m.2.2 28 := funext fun p => if_neg (by omega)
        rw [this, sL_id]
      rw [e] at this
      exact this
    · have h : ¬ k ≤ r := by omega
      have e : (sL m 28 (va_cpy (m.2.2 28) (m.2.2 28) (24 * s + i) (24 * t + j) r)).2.2 28 = va_cpy (m.2.2 28) (m.2.2 28) (24 * s + i) (24 * t + j) r := rfl
      have e2 : va_cpy (m.2.2 28) (m.2.2 28) (24 * s + i) (24 * t + j) r (24 * s + i + r) = m.2.2 28 (24 * s + i + r) := if_neg (by omega)
      have u := cpy_up (m.2.2 28) (24 * s + i) (24 * t + j) r
      simp (disch := omega) only [X9_copy_L110, X9_copy_J135, li0, li1, li2, li3, li4, li5, li6, li7, li8, li11, li12, li16, li24, li25, li26, li31, li32, li36, li40, li48, li52, li58, li59, li60, li63, li64, li88, li96, li130, li192, li255, li2208, li2304, li9999, li9, li13, li14, li30, li35, li44, li45, li46, li47, li97, li98, li100, li101, li104, li105, li108, li110, li111, li112, li114, li117, li122, li999999, li1000000, li2147483647, cmp0, cmpl, cmpg, cmple, cmpge, nI_leI, nI_ltI, nI_eq, rL, rI, wL, wI, ob, aLet, nI_add, pk_mul, ↓reduceIte, if_true, if_false, eq_self, Nat.reduceEqDiff, Nat.reduceLeDiff, Nat.reduceLT, Nat.one_ne_zero, Nat.zero_ne_one, Nat.add_zero, Bool.false_eq_true, nI_neq, h, hd, e, e2, sL_sL]
      rw [u]
    · simp (disch := omega) only [X9_copy_L110, li0, li1, li2, li3, li4, li5, li6, li7, li8, li11, li12, li16, li24, li25, li26, li31, li32, li36, li40, li48, li52, li58, li59, li60, li63, li64, li88, li96, li130, li192, li255, li2208, li2304, li9999, li9, li13, li14, li30, li35, li44, li45, li46, li47, li97, li98, li100, li101, li104, li105, li108, li110, li111, li112, li114, li117, li122, li999999, li1000000, li2147483647, cmp0, cmpl, cmpg, cmple, cmpge, nI_leI, nI_ltI, nI_eq, rL, rI, wL, wI, ob, aLet, nI_add, pk_mul, ↓reduceIte, if_true, if_false, eq_self, Nat.reduceEqDiff, Nat.reduceLeDiff, Nat.reduceLT, Nat.one_ne_zero, Nat.zero_ne_one, Nat.add_zero, Bool.false_eq_true, nI_neq, Nat.le_refl]
  · have := forUp (fun n r z => X9_copy_L110 (nI k) (nI j) (nI i) (nI s) (nI t) n r z) k (fun r => sL m 28 (cpyB (m.2.2 28) (24 * s + i) (24 * t + j) k r)) (some (sL m 28 (cpyB (m.2.2 28) (24 * s + i) (24 * t + j) k k))) (fun n r hr => ?_) (fun n => ?_) k 0 aFu (by omega) (by show _ < 100000; omega)
    · have e : sL m 28 (cpyB (m.2.2 28) (24 * s + i) (24 * t + j) k 0) = m := by
        have : cpyB (m.2.2 28) (24 * s + i) (24 * t + j) k 0 = m.2.2 28 := funext fun p => if_neg (by omega)
        rw [this, sL_id]
      rw [e] at this
      have e3 : cpyB (m.2.2 28) (24 * s + i) (24 * t + j) k k = va_cpy (m.2.2 28) (m.2.2 28) (24 * s + i) (24 * t + j) k := by
        funext p
        unfold cpyB va_cpy
        rw [show 24 * t + j + (k - k) = 24 * t + j by omega]
      rw [e3] at this
      exact this
    · have h : ¬ k ≤ r := by omega
      have e : (sL m 28 (cpyB (m.2.2 28) (24 * s + i) (24 * t + j) k r)).2.2 28 = cpyB (m.2.2 28) (24 * s + i) (24 * t + j) k r := rfl
      have e2 : cpyB (m.2.2 28) (24 * s + i) (24 * t + j) k r (24 * s + i + (k - 1 - r)) = m.2.2 28 (24 * s + i + (k - 1 - r)) := if_neg (by omega)
      have u := cpyB_up (m.2.2 28) (24 * s + i) (24 * t + j) k r hr
      simp (disch := omega) only [X9_copy_L110, X9_copy_J135, li0, li1, li2, li3, li4, li5, li6, li7, li8, li11, li12, li16, li24, li25, li26, li31, li32, li36, li40, li48, li52, li58, li59, li60, li63, li64, li88, li96, li130, li192, li255, li2208, li2304, li9999, li9, li13, li14, li30, li35, li44, li45, li46, li47, li97, li98, li100, li101, li104, li105, li108, li110, li111, li112, li114, li117, li122, li999999, li1000000, li2147483647, cmp0, cmpl, cmpg, cmple, cmpge, nI_leI, nI_ltI, nI_eq, rL, rI, wL, wI, ob, aLet, nI_add, pk_mul, ↓reduceIte, if_true, if_false, eq_self, Nat.reduceEqDiff, Nat.reduceLeDiff, Nat.reduceLT, Nat.one_ne_zero, Nat.zero_ne_one, Nat.add_zero, Bool.false_eq_true, nI_neq, h, hd, pk_sub, e, e2, sL_sL]
      rw [u]
    · simp (disch := omega) only [X9_copy_L110, li0, li1, li2, li3, li4, li5, li6, li7, li8, li11, li12, li16, li24, li25, li26, li31, li32, li36, li40, li48, li52, li58, li59, li60, li63, li64, li88, li96, li130, li192, li255, li2208, li2304, li9999, li9, li13, li14, li30, li35, li44, li45, li46, li47, li97, li98, li100, li101, li104, li105, li108, li110, li111, li112, li114, li117, li122, li999999, li1000000, li2147483647, cmp0, cmpl, cmpg, cmple, cmpge, nI_leI, nI_ltI, nI_eq, rL, rI, wL, wI, ob, aLet, nI_add, pk_mul, ↓reduceIte, if_true, if_false, eq_self, Nat.reduceEqDiff, Nat.reduceLeDiff, Nat.reduceLT, Nat.one_ne_zero, Nat.zero_ne_one, Nat.add_zero, Bool.false_eq_true, nI_neq, Nat.le_refl]
theorem neg2 : (-nI 1 < nI 0) = True := by decide
theorem eq_copy {c : CSt} {m : Rec} (hI : Inv c m) (x1 : Int32) (x2 : Int32) (x3 : Int32) (x4 : Int32) (x5 : Int32) : ∃ (r : Int32) (c1 : CSt) (m1 : Rec), stC_copy c x1 x2 x3 x4 x5 = some (r, c1) ∧ stM_copy m x1 x2 x3 x4 x5 = some (r, m1) ∧ Inv c1 m1 := by
  obtain ⟨hL, hT, hP, hImg, hSh⟩ := id hI
  have refuse : ∀ v, X8_copy (c_D c) x1 x2 x3 x4 x5 = some (v, c_D c) → X9_copy m x1 x2 x3 x4 x5 = some (v, m) → ∃ (r : Int32) (c1 : CSt) (m1 : Rec), stC_copy c x1 x2 x3 x4 x5 = some (r, c1) ∧ stM_copy m x1 x2 x3 x4 x5 = some (r, m1) ∧ Inv c1 m1 := fun v h1 h2 => ⟨v, c, m, by unfold stC_copy; rw [h1]; rfl, by unfold stM_copy; rw [h2]; rfl, hI⟩
  rcases rg_0_3 x1 with ⟨a, b, -⟩ | ⟨s, -, hs, rfl, a, b⟩
  · refine refuse (-nI 1) ?_ ?_
    · simp (disch := omega) only [X8_copy, a, li0, li1, li2, li3, li4, li5, li6, li7, li8, li11, li12, li16, li24, li25, li26, li31, li32, li36, li40, li48, li52, li58, li59, li60, li63, li64, li88, li96, li130, li192, li255, li2208, li2304, li9999, li9, li13, li14, li30, li35, li44, li45, li46, li47, li97, li98, li100, li101, li104, li105, li108, li110, li111, li112, li114, li117, li122, li999999, li1000000, li2147483647, cmp0, cmpl, cmpg, cmple, cmpge, nI_leI, nI_ltI, nI_eq, rL, rI, wL, wI, ob, aLet, nI_add, pk_mul, ↓reduceIte, if_true, if_false, eq_self, Nat.reduceEqDiff, Nat.reduceLeDiff, Nat.reduceLT, Nat.one_ne_zero, Nat.zero_ne_one, Nat.add_zero, Bool.false_eq_true, nI_neq]
    · simp (disch := omega) only [X9_copy, X9_isSheet, b, li0, li1, li2, li3, li4, li5, li6, li7, li8, li11, li12, li16, li24, li25, li26, li31, li32, li36, li40, li48, li52, li58, li59, li60, li63, li64, li88, li96, li130, li192, li255, li2208, li2304, li9999, li9, li13, li14, li30, li35, li44, li45, li46, li47, li97, li98, li100, li101, li104, li105, li108, li110, li111, li112, li114, li117, li122, li999999, li1000000, li2147483647, cmp0, cmpl, cmpg, cmple, cmpge, nI_leI, nI_ltI, nI_eq, rL, rI, wL, wI, ob, aLet, nI_add, pk_mul, ↓reduceIte, if_true, if_false, eq_self, Nat.reduceEqDiff, Nat.reduceLeDiff, Nat.reduceLT, Nat.one_ne_zero, Nat.zero_ne_one, Nat.add_zero, Bool.false_eq_true, nI_neq]
  rcases rg_0_3 x3 with ⟨e, f, -⟩ | ⟨t, -, ht, rfl, e, f⟩
  · refine refuse (-nI 1) ?_ ?_
    · simp (disch := omega) only [X8_copy, a, e, li0, li1, li2, li3, li4, li5, li6, li7, li8, li11, li12, li16, li24, li25, li26, li31, li32, li36, li40, li48, li52, li58, li59, li60, li63, li64, li88, li96, li130, li192, li255, li2208, li2304, li9999, li9, li13, li14, li30, li35, li44, li45, li46, li47, li97, li98, li100, li101, li104, li105, li108, li110, li111, li112, li114, li117, li122, li999999, li1000000, li2147483647, cmp0, cmpl, cmpg, cmple, cmpge, nI_leI, nI_ltI, nI_eq, rL, rI, wL, wI, ob, aLet, nI_add, pk_mul, ↓reduceIte, if_true, if_false, eq_self, Nat.reduceEqDiff, Nat.reduceLeDiff, Nat.reduceLT, Nat.one_ne_zero, Nat.zero_ne_one, Nat.add_zero, Bool.false_eq_true, nI_neq]
    · simp (disch := omega) only [X9_copy, X9_isSheet, b, f, li0, li1, li2, li3, li4, li5, li6, li7, li8, li11, li12, li16, li24, li25, li26, li31, li32, li36, li40, li48, li52, li58, li59, li60, li63, li64, li88, li96, li130, li192, li255, li2208, li2304, li9999, li9, li13, li14, li30, li35, li44, li45, li46, li47, li97, li98, li100, li101, li104, li105, li108, li110, li111, li112, li114, li117, li122, li999999, li1000000, li2147483647, cmp0, cmpl, cmpg, cmple, cmpge, nI_leI, nI_ltI, nI_eq, rL, rI, wL, wI, ob, aLet, nI_add, pk_mul, ↓reduceIte, if_true, if_false, eq_self, Nat.reduceEqDiff, Nat.reduceLeDiff, Nat.reduceLT, Nat.one_ne_zero, Nat.zero_ne_one, Nat.add_zero, Bool.false_eq_true, nI_neq]
  have cs : (nI s).toNatClampNeg = s := nI_clamp (by omega)
  have ct : (nI t).toNatClampNeg = t := nI_clamp (by omega)
  rcases hSh s (by omega) with ⟨q1, q2⟩ | ⟨⟨q, q1⟩, q2, q3, ⟨w, q4, q5, q6⟩, q7⟩
  · refine refuse (-nI 11) ?_ ?_
    · cases ht' : (c_D c).2.2.1 t with
      | none => simp (disch := omega) only [X8_copy, a, e, rQ, q1, ht', aQs, li0, li1, li2, li3, li4, li5, li6, li7, li8, li11, li12, li16, li24, li25, li26, li31, li32, li36, li40, li48, li52, li58, li59, li60, li63, li64, li88, li96, li130, li192, li255, li2208, li2304, li9999, li9, li13, li14, li30, li35, li44, li45, li46, li47, li97, li98, li100, li101, li104, li105, li108, li110, li111, li112, li114, li117, li122, li999999, li1000000, li2147483647, cmp0, cmpl, cmpg, cmple, cmpge, nI_leI, nI_ltI, nI_eq, rL, rI, wL, wI, ob, aLet, nI_add, pk_mul, ↓reduceIte, if_true, if_false, eq_self, Nat.reduceEqDiff, Nat.reduceLeDiff, Nat.reduceLT, Nat.one_ne_zero, Nat.zero_ne_one, Nat.add_zero, Bool.false_eq_true, nI_neq]
      | some z => simp (disch := omega) only [X8_copy, a, e, rQ, q1, ht', aQs, li0, li1, li2, li3, li4, li5, li6, li7, li8, li11, li12, li16, li24, li25, li26, li31, li32, li36, li40, li48, li52, li58, li59, li60, li63, li64, li88, li96, li130, li192, li255, li2208, li2304, li9999, li9, li13, li14, li30, li35, li44, li45, li46, li47, li97, li98, li100, li101, li104, li105, li108, li110, li111, li112, li114, li117, li122, li999999, li1000000, li2147483647, cmp0, cmpl, cmpg, cmple, cmpge, nI_leI, nI_ltI, nI_eq, rL, rI, wL, wI, ob, aLet, nI_add, pk_mul, ↓reduceIte, if_true, if_false, eq_self, Nat.reduceEqDiff, Nat.reduceLeDiff, Nat.reduceLT, Nat.one_ne_zero, Nat.zero_ne_one, Nat.add_zero, Bool.false_eq_true, nI_neq]
    · simp (disch := omega) only [X9_copy, X9_isSheet, b, f, q2, neg2, li0, li1, li2, li3, li4, li5, li6, li7, li8, li11, li12, li16, li24, li25, li26, li31, li32, li36, li40, li48, li52, li58, li59, li60, li63, li64, li88, li96, li130, li192, li255, li2208, li2304, li9999, li9, li13, li14, li30, li35, li44, li45, li46, li47, li97, li98, li100, li101, li104, li105, li108, li110, li111, li112, li114, li117, li122, li999999, li1000000, li2147483647, cmp0, cmpl, cmpg, cmple, cmpge, nI_leI, nI_ltI, nI_eq, rL, rI, wL, wI, ob, aLet, nI_add, pk_mul, ↓reduceIte, if_true, if_false, eq_self, Nat.reduceEqDiff, Nat.reduceLeDiff, Nat.reduceLT, Nat.one_ne_zero, Nat.zero_ne_one, Nat.add_zero, Bool.false_eq_true, nI_neq]
  have w0 : ¬ w < 0 := by omega
  rcases hSh t (by omega) with ⟨p1, p2⟩ | ⟨⟨p, p1⟩, p2, p3, ⟨v, p4, p5, p6⟩, p7⟩
  · refine refuse (-nI 11) ?_ ?_
    · simp (disch := omega) only [X8_copy, a, e, rQ, q1, p1, aQs, li0, li1, li2, li3, li4, li5, li6, li7, li8, li11, li12, li16, li24, li25, li26, li31, li32, li36, li40, li48, li52, li58, li59, li60, li63, li64, li88, li96, li130, li192, li255, li2208, li2304, li9999, li9, li13, li14, li30, li35, li44, li45, li46, li47, li97, li98, li100, li101, li104, li105, li108, li110, li111, li112, li114, li117, li122, li999999, li1000000, li2147483647, cmp0, cmpl, cmpg, cmple, cmpge, nI_leI, nI_ltI, nI_eq, rL, rI, wL, wI, ob, aLet, nI_add, pk_mul, ↓reduceIte, if_true, if_false, eq_self, Nat.reduceEqDiff, Nat.reduceLeDiff, Nat.reduceLT, Nat.one_ne_zero, Nat.zero_ne_one, Nat.add_zero, Bool.false_eq_true, nI_neq]
    · simp (disch := omega) only [X9_copy, X9_isSheet, b, f, q5, w0, p2, neg1, li0, li1, li2, li3, li4, li5, li6, li7, li8, li11, li12, li16, li24, li25, li26, li31, li32, li36, li40, li48, li52, li58, li59, li60, li63, li64, li88, li96, li130, li192, li255, li2208, li2304, li9999, li9, li13, li14, li30, li35, li44, li45, li46, li47, li97, li98, li100, li101, li104, li105, li108, li110, li111, li112, li114, li117, li122, li999999, li1000000, li2147483647, cmp0, cmpl, cmpg, cmple, cmpge, nI_leI, nI_ltI, nI_eq, rL, rI, wL, wI, ob, aLet, nI_add, pk_mul, ↓reduceIte, if_true, if_false, eq_self, Nat.reduceEqDiff, Nat.reduceLeDiff, Nat.reduceLT, Nat.one_ne_zero, Nat.zero_ne_one, Nat.add_zero, Bool.false_eq_true, nI_neq]
  have v0 : (0 ≤ v) = True := by simp
  by_cases y : ¬ w = v
  · refine refuse (-nI 12) ?_ ?_
    · simp (disch := omega) only [X8_copy, a, e, rQ, q1, p1, aQs, cs, ct, q6, p6, y, li0, li1, li2, li3, li4, li5, li6, li7, li8, li11, li12, li16, li24, li25, li26, li31, li32, li36, li40, li48, li52, li58, li59, li60, li63, li64, li88, li96, li130, li192, li255, li2208, li2304, li9999, li9, li13, li14, li30, li35, li44, li45, li46, li47, li97, li98, li100, li101, li104, li105, li108, li110, li111, li112, li114, li117, li122, li999999, li1000000, li2147483647, cmp0, cmpl, cmpg, cmple, cmpge, nI_leI, nI_ltI, nI_eq, rL, rI, wL, wI, ob, aLet, nI_add, pk_mul, ↓reduceIte, if_true, if_false, eq_self, Nat.reduceEqDiff, Nat.reduceLeDiff, Nat.reduceLT, Nat.one_ne_zero, Nat.zero_ne_one, Nat.add_zero, Bool.false_eq_true, nI_neq]
    · simp (disch := omega) only [X9_copy, X9_isSheet, b, f, q5, w0, p5, v0, y, li0, li1, li2, li3, li4, li5, li6, li7, li8, li11, li12, li16, li24, li25, li26, li31, li32, li36, li40, li48, li52, li58, li59, li60, li63, li64, li88, li96, li130, li192, li255, li2208, li2304, li9999, li9, li13, li14, li30, li35, li44, li45, li46, li47, li97, li98, li100, li101, li104, li105, li108, li110, li111, li112, li114, li117, li122, li999999, li1000000, li2147483647, cmp0, cmpl, cmpg, cmple, cmpge, nI_leI, nI_ltI, nI_eq, rL, rI, wL, wI, ob, aLet, nI_add, pk_mul, ↓reduceIte, if_true, if_false, eq_self, Nat.reduceEqDiff, Nat.reduceLeDiff, Nat.reduceLT, Nat.one_ne_zero, Nat.zero_ne_one, Nat.add_zero, Bool.false_eq_true, nI_neq]
  have y : w = v := Decidable.not_not.mp y
  subst y
  rcases reach q2 ((c_D c).2.2.2.2.1 (26 + s)) x2 x5 with ⟨r1, r2⟩ | ⟨i, k, rfl, rfl, r1, r2, r3⟩
  · refine refuse (-nI 13) ?_ ?_
    · simp (disch := omega) only [X8_copy, a, e, rQ, q1, p1, aQs, cs, ct, q6, p6, r1, li0, li1, li2, li3, li4, li5, li6, li7, li8, li11, li12, li16, li24, li25, li26, li31, li32, li36, li40, li48, li52, li58, li59, li60, li63, li64, li88, li96, li130, li192, li255, li2208, li2304, li9999, li9, li13, li14, li30, li35, li44, li45, li46, li47, li97, li98, li100, li101, li104, li105, li108, li110, li111, li112, li114, li117, li122, li999999, li1000000, li2147483647, cmp0, cmpl, cmpg, cmple, cmpge, nI_leI, nI_ltI, nI_eq, rL, rI, wL, wI, ob, aLet, nI_add, pk_mul, ↓reduceIte, if_true, if_false, eq_self, Nat.reduceEqDiff, Nat.reduceLeDiff, Nat.reduceLT, Nat.one_ne_zero, Nat.zero_ne_one, Nat.add_zero, Bool.false_eq_true, nI_neq]
    · by_cases z2 : x2 < nI 0
      · simp (disch := omega) only [X9_copy, X9_isSheet, b, f, q5, w0, p5, v0, z2, li0, li1, li2, li3, li4, li5, li6, li7, li8, li11, li12, li16, li24, li25, li26, li31, li32, li36, li40, li48, li52, li58, li59, li60, li63, li64, li88, li96, li130, li192, li255, li2208, li2304, li9999, li9, li13, li14, li30, li35, li44, li45, li46, li47, li97, li98, li100, li101, li104, li105, li108, li110, li111, li112, li114, li117, li122, li999999, li1000000, li2147483647, cmp0, cmpl, cmpg, cmple, cmpge, nI_leI, nI_ltI, nI_eq, rL, rI, wL, wI, ob, aLet, nI_add, pk_mul, ↓reduceIte, if_true, if_false, eq_self, Nat.reduceEqDiff, Nat.reduceLeDiff, Nat.reduceLT, Nat.one_ne_zero, Nat.zero_ne_one, Nat.add_zero, Bool.false_eq_true, nI_neq]
      by_cases z4 : x4 < nI 0
      · simp (disch := omega) only [X9_copy, X9_isSheet, b, f, q5, w0, p5, v0, z2, z4, li0, li1, li2, li3, li4, li5, li6, li7, li8, li11, li12, li16, li24, li25, li26, li31, li32, li36, li40, li48, li52, li58, li59, li60, li63, li64, li88, li96, li130, li192, li255, li2208, li2304, li9999, li9, li13, li14, li30, li35, li44, li45, li46, li47, li97, li98, li100, li101, li104, li105, li108, li110, li111, li112, li114, li117, li122, li999999, li1000000, li2147483647, cmp0, cmpl, cmpg, cmple, cmpge, nI_leI, nI_ltI, nI_eq, rL, rI, wL, wI, ob, aLet, nI_add, pk_mul, ↓reduceIte, if_true, if_false, eq_self, Nat.reduceEqDiff, Nat.reduceLeDiff, Nat.reduceLT, Nat.one_ne_zero, Nat.zero_ne_one, Nat.add_zero, Bool.false_eq_true, nI_neq]
      by_cases z5 : x5 < nI 0
      · simp (disch := omega) only [X9_copy, X9_isSheet, b, f, q5, w0, p5, v0, z2, z4, z5, li0, li1, li2, li3, li4, li5, li6, li7, li8, li11, li12, li16, li24, li25, li26, li31, li32, li36, li40, li48, li52, li58, li59, li60, li63, li64, li88, li96, li130, li192, li255, li2208, li2304, li9999, li9, li13, li14, li30, li35, li44, li45, li46, li47, li97, li98, li100, li101, li104, li105, li108, li110, li111, li112, li114, li117, li122, li999999, li1000000, li2147483647, cmp0, cmpl, cmpg, cmple, cmpge, nI_leI, nI_ltI, nI_eq, rL, rI, wL, wI, ob, aLet, nI_add, pk_mul, ↓reduceIte, if_true, if_false, eq_self, Nat.reduceEqDiff, Nat.reduceLeDiff, Nat.reduceLT, Nat.one_ne_zero, Nat.zero_ne_one, Nat.add_zero, Bool.false_eq_true, nI_neq]
      have r2 : (nI ((c_D c).2.2.2.1 (26 + s))).toInt64 < x2.toInt64 + x5.toInt64 := by
        rcases r2 with r | r | r
        · exact absurd r z2
        · exact absurd r z5
        · exact r
      simp (disch := omega) only [X9_copy, X9_isSheet, b, f, q5, w0, p5, v0, z2, z4, z5, q3, r2, li0, li1, li2, li3, li4, li5, li6, li7, li8, li11, li12, li16, li24, li25, li26, li31, li32, li36, li40, li48, li52, li58, li59, li60, li63, li64, li88, li96, li130, li192, li255, li2208, li2304, li9999, li9, li13, li14, li30, li35, li44, li45, li46, li47, li97, li98, li100, li101, li104, li105, li108, li110, li111, li112, li114, li117, li122, li999999, li1000000, li2147483647, cmp0, cmpl, cmpg, cmple, cmpge, nI_leI, nI_ltI, nI_eq, rL, rI, wL, wI, ob, aLet, nI_add, pk_mul, ↓reduceIte, if_true, if_false, eq_self, Nat.reduceEqDiff, Nat.reduceLeDiff, Nat.reduceLT, Nat.one_ne_zero, Nat.zero_ne_one, Nat.add_zero, Bool.false_eq_true, nI_neq]
  have r3' := le_nlt64 r3
  have i0 : ¬ i < 0 := by omega
  have k0 : ¬ k < 0 := by omega
  rcases reach p2 ((c_D c).2.2.2.2.1 (26 + t)) x4 (nI k) with ⟨s1, s2⟩ | ⟨j, k', rfl, hk', s1, s2, s3⟩
  · refine refuse (-nI 13) ?_ ?_
    · simp (disch := omega) only [X8_copy, a, e, rQ, q1, p1, aQs, cs, ct, q6, p6, r2, s1, li0, li1, li2, li3, li4, li5, li6, li7, li8, li11, li12, li16, li24, li25, li26, li31, li32, li36, li40, li48, li52, li58, li59, li60, li63, li64, li88, li96, li130, li192, li255, li2208, li2304, li9999, li9, li13, li14, li30, li35, li44, li45, li46, li47, li97, li98, li100, li101, li104, li105, li108, li110, li111, li112, li114, li117, li122, li999999, li1000000, li2147483647, cmp0, cmpl, cmpg, cmple, cmpge, nI_leI, nI_ltI, nI_eq, rL, rI, wL, wI, ob, aLet, nI_add, pk_mul, ↓reduceIte, if_true, if_false, eq_self, Nat.reduceEqDiff, Nat.reduceLeDiff, Nat.reduceLT, Nat.one_ne_zero, Nat.zero_ne_one, Nat.add_zero, Bool.false_eq_true, nI_neq]
    · by_cases z4 : x4 < nI 0
      · simp (disch := omega) only [X9_copy, X9_isSheet, b, f, q5, w0, p5, v0, i0, z4, li0, li1, li2, li3, li4, li5, li6, li7, li8, li11, li12, li16, li24, li25, li26, li31, li32, li36, li40, li48, li52, li58, li59, li60, li63, li64, li88, li96, li130, li192, li255, li2208, li2304, li9999, li9, li13, li14, li30, li35, li44, li45, li46, li47, li97, li98, li100, li101, li104, li105, li108, li110, li111, li112, li114, li117, li122, li999999, li1000000, li2147483647, cmp0, cmpl, cmpg, cmple, cmpge, nI_leI, nI_ltI, nI_eq, rL, rI, wL, wI, ob, aLet, nI_add, pk_mul, ↓reduceIte, if_true, if_false, eq_self, Nat.reduceEqDiff, Nat.reduceLeDiff, Nat.reduceLT, Nat.one_ne_zero, Nat.zero_ne_one, Nat.add_zero, Bool.false_eq_true, nI_neq]
      have s2 : ¬ x4.toInt64 + (nI k).toInt64 ≤ (nI ((c_D c).2.2.2.1 (26 + t))).toInt64 := by
        rcases s2 with r | r | r
        · exact absurd r z4
        · exact absurd r (nI_pos (by omega))
        · exact lt_nle64 r
      simp (disch := omega) only [X9_copy, X9_isSheet, b, f, q5, w0, p5, v0, i0, z4, k0, q3, r3', p3, s2, li0, li1, li2, li3, li4, li5, li6, li7, li8, li11, li12, li16, li24, li25, li26, li31, li32, li36, li40, li48, li52, li58, li59, li60, li63, li64, li88, li96, li130, li192, li255, li2208, li2304, li9999, li9, li13, li14, li30, li35, li44, li45, li46, li47, li97, li98, li100, li101, li104, li105, li108, li110, li111, li112, li114, li117, li122, li999999, li1000000, li2147483647, cmp0, cmpl, cmpg, cmple, cmpge, nI_leI, nI_ltI, nI_eq, rL, rI, wL, wI, ob, aLet, nI_add, pk_mul, ↓reduceIte, if_true, if_false, eq_self, Nat.reduceEqDiff, Nat.reduceLeDiff, Nat.reduceLT, Nat.one_ne_zero, Nat.zero_ne_one, Nat.add_zero, Bool.false_eq_true, nI_neq]
  obtain rfl : k' = k := by
    rcases Nat.lt_or_ge k' (2 ^ 31) with hk | hk
    · exact ((nI_eq (by omega) hk).mp hk').symm
    · omega
  have j0 : ¬ j < 0 := by omega
  have ci : (nI i).toNatClampNeg = i := nI_clamp (by omega)
  have cj : (nI j).toNatClampNeg = j := nI_clamp (by omega)
  have ck : (nI k').toNatClampNeg = k' := nI_clamp (by omega)
  have rc := r_copy (m := m) (s := s) (t := t) (i := i) (j := j) (k := k') (by omega) (by omega) (by omega) (by omega)
  have e1 : X8_copy (c_D c) (nI s) (nI i) (nI t) (nI j) (nI k') = some (nI k', dLV (c_D c) (26 + t) (sL ((c_D c).2.2.2.2.1 (26 + t)) 1 (va_cpy (((c_D c).2.2.2.2.1 (26 + s)).2.2 1) (((c_D c).2.2.2.2.1 (26 + t)).2.2 1) i j k'))) := by
    simp (disch := omega) only [X8_copy, a, e, rQ, q1, p1, aQs, cs, ct, q6, p6, r2, s2, i0, j0, k0, ci, cj, ck, r1, s1, not_false_eq_true, true_and, and_true, li0, li1, li2, li3, li4, li5, li6, li7, li8, li11, li12, li16, li24, li25, li26, li31, li32, li36, li40, li48, li52, li58, li59, li60, li63, li64, li88, li96, li130, li192, li255, li2208, li2304, li9999, li9, li13, li14, li30, li35, li44, li45, li46, li47, li97, li98, li100, li101, li104, li105, li108, li110, li111, li112, li114, li117, li122, li999999, li1000000, li2147483647, cmp0, cmpl, cmpg, cmple, cmpge, nI_leI, nI_ltI, nI_eq, rL, rI, wL, wI, ob, aLet, nI_add, pk_mul, ↓reduceIte, if_true, if_false, eq_self, Nat.reduceEqDiff, Nat.reduceLeDiff, Nat.reduceLT, Nat.one_ne_zero, Nat.zero_ne_one, Nat.add_zero, Bool.false_eq_true, nI_neq]
  have e2 : X9_copy m (nI s) (nI i) (nI t) (nI j) (nI k') = some (nI k', sL m 28 (va_cpy (m.2.2 28) (m.2.2 28) (24 * s + i) (24 * t + j) k')) := by
    simp (disch := omega) only [X9_copy, X9_isSheet, b, f, q5, w0, p5, v0, i0, j0, k0, q3, r3', p3, s3, rc, li0, li1, li2, li3, li4, li5, li6, li7, li8, li11, li12, li16, li24, li25, li26, li31, li32, li36, li40, li48, li52, li58, li59, li60, li63, li64, li88, li96, li130, li192, li255, li2208, li2304, li9999, li9, li13, li14, li30, li35, li44, li45, li46, li47, li97, li98, li100, li101, li104, li105, li108, li110, li111, li112, li114, li117, li122, li999999, li1000000, li2147483647, cmp0, cmpl, cmpg, cmple, cmpge, nI_leI, nI_ltI, nI_eq, rL, rI, wL, wI, ob, aLet, nI_add, pk_mul, ↓reduceIte, if_true, if_false, eq_self, Nat.reduceEqDiff, Nat.reduceLeDiff, Nat.reduceLT, Nat.one_ne_zero, Nat.zero_ne_one, Nat.add_zero, Bool.false_eq_true, nI_neq]
  refine ⟨_, (c_tape c, c_now c, c_past c, dLV (c_D c) (26 + t) (sL ((c_D c).2.2.2.2.1 (26 + t)) 1 (va_cpy (((c_D c).2.2.2.2.1 (26 + s)).2.2 1) (((c_D c).2.2.2.2.1 (26 + t)).2.2 1) i j k')), c_trial c, c_earlier c, c_sets c, c_survey c, c_marriages c, c_finder c), sL m 28 (va_cpy (m.2.2 28) (m.2.2 28) (24 * s + i) (24 * t + j) k'), by unfold stC_copy; rw [e1]; rfl, by unfold stM_copy; rw [e2]; rfl, hL, hT, past_far hP (fun j _ => rfl) (fun j hj => if_neg (by omega)), img_far hImg (fun j h1 h2 => if_neg (by omega)), ?_⟩
  intro u hu
  show ((c_D c).2.2.1 u = none ∧ m.2.1 26 u = -nI 1) ∨ ((∃ q, (c_D c).2.2.1 u = some q) ∧ (c_D c).2.2.2.1 (26 + u) ≤ 24 ∧ m.2.1 27 u = nI ((c_D c).2.2.2.1 (26 + u)) ∧ (∃ a, a < 4 ∧ m.2.1 26 u = nI a ∧ (if 26 + u = 26 + t then (sL ((c_D c).2.2.2.2.1 (26 + t)) 1 (va_cpy (((c_D c).2.2.2.2.1 (26 + s)).2.2 1) (((c_D c).2.2.2.2.1 (26 + t)).2.2 1) i j k')) else (c_D c).2.2.2.2.1 (26 + u)).1 0 = nI a) ∧ ∀ r, r < (c_D c).2.2.2.1 (26 + u) → (if 26 + u = 26 + t then (sL ((c_D c).2.2.2.2.1 (26 + t)) 1 (va_cpy (((c_D c).2.2.2.2.1 (26 + s)).2.2 1) (((c_D c).2.2.2.2.1 (26 + t)).2.2 1) i j k')) else (c_D c).2.2.2.2.1 (26 + u)).2.2 1 r = va_cpy (m.2.2 28) (m.2.2 28) (24 * s + i) (24 * t + j) k' (24 * u + r))
  rcases hSh u hu with q | ⟨g1, g2, g3, g4, g5⟩
  · exact Or.inl q
  · refine Or.inr ⟨g1, g2, g3, ?_, fun r hr => ?_⟩
    · by_cases z : u = t
      · subst z
        rw [if_pos rfl]
        exact g4
      · rw [if_neg (by omega)]
        exact g4
    · by_cases z : u = t
      · subst z
        rw [if_pos rfl]
        show va_cpy (((c_D c).2.2.2.2.1 (26 + s)).2.2 1) (((c_D c).2.2.2.2.1 (26 + u)).2.2 1) i j k' r = _
        unfold va_cpy
        by_cases y : j ≤ r ∧ r < j + k'
        · rw [if_pos y, if_pos (by omega), q7 _ (by omega), show 24 * s + (i + (r - j)) = 24 * s + i + (24 * u + r - (24 * u + j)) by omega]
        · rw [if_neg y, if_neg (by omega)]
          exact g5 r hr
      · rw [if_neg (by omega)]
        unfold va_cpy
        rw [if_neg (by omega)]
        exact g5 r hr
theorem says_l {n : Nat} (h : n < 32) {l : Nat} (hl : l < 4) : X9_cut (nI l) ((nI n).toInt64) = (nI n).toInt64 := by
  have : ∀ n, n < 32 → ∀ l, l < 4 → X9_cut (nI l) ((nI n).toInt64) = (nI n).toInt64 := by decide +kernel
  exact this n h l hl
theorem eq_film {c : CSt} {m : Rec} (hI : Inv c m) (x1 : Int32) (x2 : Int32) (x3 : Int32) (x4 : Int32) (x5 : Int32) : ∃ (r : Int32) (c1 : CSt) (m1 : Rec), stC_film c x1 x2 x3 x4 x5 = some (r, c1) ∧ stM_film m x1 x2 x3 x4 x5 = some (r, m1) ∧ Inv c1 m1 := by
  obtain ⟨⟨d, ok, hy, hS, hf⟩, hT, hP, hImg, hSh⟩ := id hI
  have h6 := ok.1
  have refuse : ∀ v, X8_film (c_D c) (c_now c) (c_trial c) x1 x2 x3 x4 x5 = some (v, c_trial c, c_D c) → X9_film m x1 x2 x3 x4 x5 = some (v, m) → ∃ (r : Int32) (c1 : CSt) (m1 : Rec), stC_film c x1 x2 x3 x4 x5 = some (r, c1) ∧ stM_film m x1 x2 x3 x4 x5 = some (r, m1) ∧ Inv c1 m1 := fun v h1 h2 => ⟨v, c, m, by unfold stC_film; rw [h1]; rfl, by unfold stM_film; rw [h2]; rfl, hI⟩
  have k11 : ¬ (-nI 11 = nI 0) := by decide
  have k12 : ¬ (-nI 12 = nI 0) := by decide
  have k13 : ¬ (-nI 13 = nI 0) := by decide
  rcases hcase ok hS hf x1 with ⟨a, b⟩ | ⟨o, ho, rfl, a, b⟩
  · refine refuse (-nI 1) ?_ ?_
    · simp (disch := omega) only [X8_film, a, li0, li1, li2, li3, li4, li5, li6, li7, li8, li11, li12, li16, li24, li25, li26, li31, li32, li36, li40, li48, li52, li58, li59, li60, li63, li64, li88, li96, li130, li192, li255, li2208, li2304, li9999, li9, li13, li14, li30, li35, li44, li45, li46, li47, li97, li98, li100, li101, li104, li105, li108, li110, li111, li112, li114, li117, li122, li999999, li1000000, li2147483647, cmp0, cmpl, cmpg, cmple, cmpge, nI_leI, nI_ltI, nI_eq, rL, rI, wL, wI, ob, aLet, nI_add, pk_mul, ↓reduceIte, if_true, if_false, eq_self, Nat.reduceEqDiff, Nat.reduceLeDiff, Nat.reduceLT, Nat.one_ne_zero, Nat.zero_ne_one, Nat.add_zero, Bool.false_eq_true, nI_neq]
    · simp (disch := omega) only [X9_film, b, li0, li1, li2, li3, li4, li5, li6, li7, li8, li11, li12, li16, li24, li25, li26, li31, li32, li36, li40, li48, li52, li58, li59, li60, li63, li64, li88, li96, li130, li192, li255, li2208, li2304, li9999, li9, li13, li14, li30, li35, li44, li45, li46, li47, li97, li98, li100, li101, li104, li105, li108, li110, li111, li112, li114, li117, li122, li999999, li1000000, li2147483647, cmp0, cmpl, cmpg, cmple, cmpge, nI_leI, nI_ltI, nI_eq, rL, rI, wL, wI, ob, aLet, nI_add, pk_mul, ↓reduceIte, if_true, if_false, eq_self, Nat.reduceEqDiff, Nat.reduceLeDiff, Nat.reduceLT, Nat.one_ne_zero, Nat.zero_ne_one, Nat.add_zero, Bool.false_eq_true, nI_neq]
  rcases rg_1_24 x2 with ⟨e, f, -⟩ | ⟨N, hN1, hN, rfl, e, f⟩
  · refine refuse (-nI 1) ?_ ?_
    · simp (disch := omega) only [X8_film, a, e, li0, li1, li2, li3, li4, li5, li6, li7, li8, li11, li12, li16, li24, li25, li26, li31, li32, li36, li40, li48, li52, li58, li59, li60, li63, li64, li88, li96, li130, li192, li255, li2208, li2304, li9999, li9, li13, li14, li30, li35, li44, li45, li46, li47, li97, li98, li100, li101, li104, li105, li108, li110, li111, li112, li114, li117, li122, li999999, li1000000, li2147483647, cmp0, cmpl, cmpg, cmple, cmpge, nI_leI, nI_ltI, nI_eq, rL, rI, wL, wI, ob, aLet, nI_add, pk_mul, ↓reduceIte, if_true, if_false, eq_self, Nat.reduceEqDiff, Nat.reduceLeDiff, Nat.reduceLT, Nat.one_ne_zero, Nat.zero_ne_one, Nat.add_zero, Bool.false_eq_true, nI_neq]
    · simp (disch := omega) only [X9_film, b, f, li0, li1, li2, li3, li4, li5, li6, li7, li8, li11, li12, li16, li24, li25, li26, li31, li32, li36, li40, li48, li52, li58, li59, li60, li63, li64, li88, li96, li130, li192, li255, li2208, li2304, li9999, li9, li13, li14, li30, li35, li44, li45, li46, li47, li97, li98, li100, li101, li104, li105, li108, li110, li111, li112, li114, li117, li122, li999999, li1000000, li2147483647, cmp0, cmpl, cmpg, cmple, cmpge, nI_leI, nI_ltI, nI_eq, rL, rI, wL, wI, ob, aLet, nI_add, pk_mul, ↓reduceIte, if_true, if_false, eq_self, Nat.reduceEqDiff, Nat.reduceLeDiff, Nat.reduceLT, Nat.one_ne_zero, Nat.zero_ne_one, Nat.add_zero, Bool.false_eq_true, nI_neq]
  rcases rg_0_3 x3 with ⟨g, h, -⟩ | ⟨s, -, hs, rfl, g, h⟩
  · refine refuse (-nI 1) ?_ ?_
    · simp (disch := omega) only [X8_film, a, e, g, li0, li1, li2, li3, li4, li5, li6, li7, li8, li11, li12, li16, li24, li25, li26, li31, li32, li36, li40, li48, li52, li58, li59, li60, li63, li64, li88, li96, li130, li192, li255, li2208, li2304, li9999, li9, li13, li14, li30, li35, li44, li45, li46, li47, li97, li98, li100, li101, li104, li105, li108, li110, li111, li112, li114, li117, li122, li999999, li1000000, li2147483647, cmp0, cmpl, cmpg, cmple, cmpge, nI_leI, nI_ltI, nI_eq, rL, rI, wL, wI, ob, aLet, nI_add, pk_mul, ↓reduceIte, if_true, if_false, eq_self, Nat.reduceEqDiff, Nat.reduceLeDiff, Nat.reduceLT, Nat.one_ne_zero, Nat.zero_ne_one, Nat.add_zero, Bool.false_eq_true, nI_neq]
    · simp (disch := omega) only [X9_film, X9_isSheet, b, f, h, li0, li1, li2, li3, li4, li5, li6, li7, li8, li11, li12, li16, li24, li25, li26, li31, li32, li36, li40, li48, li52, li58, li59, li60, li63, li64, li88, li96, li130, li192, li255, li2208, li2304, li9999, li9, li13, li14, li30, li35, li44, li45, li46, li47, li97, li98, li100, li101, li104, li105, li108, li110, li111, li112, li114, li117, li122, li999999, li1000000, li2147483647, cmp0, cmpl, cmpg, cmple, cmpge, nI_leI, nI_ltI, nI_eq, rL, rI, wL, wI, ob, aLet, nI_add, pk_mul, ↓reduceIte, if_true, if_false, eq_self, Nat.reduceEqDiff, Nat.reduceLeDiff, Nat.reduceLT, Nat.one_ne_zero, Nat.zero_ne_one, Nat.add_zero, Bool.false_eq_true, nI_neq]
  rcases rg_0_3 x4 with ⟨g2, h2, -⟩ | ⟨l, -, hl, rfl, g2, h2⟩
  · refine refuse (-nI 1) ?_ ?_
    · simp (disch := omega) only [X8_film, a, e, g, g2, li0, li1, li2, li3, li4, li5, li6, li7, li8, li11, li12, li16, li24, li25, li26, li31, li32, li36, li40, li48, li52, li58, li59, li60, li63, li64, li88, li96, li130, li192, li255, li2208, li2304, li9999, li9, li13, li14, li30, li35, li44, li45, li46, li47, li97, li98, li100, li101, li104, li105, li108, li110, li111, li112, li114, li117, li122, li999999, li1000000, li2147483647, cmp0, cmpl, cmpg, cmple, cmpge, nI_leI, nI_ltI, nI_eq, rL, rI, wL, wI, ob, aLet, nI_add, pk_mul, ↓reduceIte, if_true, if_false, eq_self, Nat.reduceEqDiff, Nat.reduceLeDiff, Nat.reduceLT, Nat.one_ne_zero, Nat.zero_ne_one, Nat.add_zero, Bool.false_eq_true, nI_neq]
    · simp (disch := omega) only [X9_film, X9_isSheet, b, f, h, h2, li0, li1, li2, li3, li4, li5, li6, li7, li8, li11, li12, li16, li24, li25, li26, li31, li32, li36, li40, li48, li52, li58, li59, li60, li63, li64, li88, li96, li130, li192, li255, li2208, li2304, li9999, li9, li13, li14, li30, li35, li44, li45, li46, li47, li97, li98, li100, li101, li104, li105, li108, li110, li111, li112, li114, li117, li122, li999999, li1000000, li2147483647, cmp0, cmpl, cmpg, cmple, cmpge, nI_leI, nI_ltI, nI_eq, rL, rI, wL, wI, ob, aLet, nI_add, pk_mul, ↓reduceIte, if_true, if_false, eq_self, Nat.reduceEqDiff, Nat.reduceLeDiff, Nat.reduceLT, Nat.one_ne_zero, Nat.zero_ne_one, Nat.add_zero, Bool.false_eq_true, nI_neq]
  have cs : (nI s).toNatClampNeg = s := nI_clamp (by omega)
  rcases refusal hSh (s := s) (l := l) (by omega) (by omega) x5 (n := N) (by omega) with ⟨q1, q2⟩ | ⟨q, w, q1, q3, q4, q5, q2⟩ | ⟨q, q1, q3, q4, q2⟩ | ⟨q, i, q1, q3, rfl, q4, q5, q6, q2⟩
  · refine refuse (-nI 11) ?_ ?_
    · simp (disch := omega) only [X8_film, a, e, g, g2, rQ, q1, aQs, li0, li1, li2, li3, li4, li5, li6, li7, li8, li11, li12, li16, li24, li25, li26, li31, li32, li36, li40, li48, li52, li58, li59, li60, li63, li64, li88, li96, li130, li192, li255, li2208, li2304, li9999, li9, li13, li14, li30, li35, li44, li45, li46, li47, li97, li98, li100, li101, li104, li105, li108, li110, li111, li112, li114, li117, li122, li999999, li1000000, li2147483647, cmp0, cmpl, cmpg, cmple, cmpge, nI_leI, nI_ltI, nI_eq, rL, rI, wL, wI, ob, aLet, nI_add, pk_mul, ↓reduceIte, if_true, if_false, eq_self, Nat.reduceEqDiff, Nat.reduceLeDiff, Nat.reduceLT, Nat.one_ne_zero, Nat.zero_ne_one, Nat.add_zero, Bool.false_eq_true, nI_neq]
    · simp (disch := omega) only [X9_film, X9_isSheet, b, f, h, h2, q2, k11, li0, li1, li2, li3, li4, li5, li6, li7, li8, li11, li12, li16, li24, li25, li26, li31, li32, li36, li40, li48, li52, li58, li59, li60, li63, li64, li88, li96, li130, li192, li255, li2208, li2304, li9999, li9, li13, li14, li30, li35, li44, li45, li46, li47, li97, li98, li100, li101, li104, li105, li108, li110, li111, li112, li114, li117, li122, li999999, li1000000, li2147483647, cmp0, cmpl, cmpg, cmple, cmpge, nI_leI, nI_ltI, nI_eq, rL, rI, wL, wI, ob, aLet, nI_add, pk_mul, ↓reduceIte, if_true, if_false, eq_self, Nat.reduceEqDiff, Nat.reduceLeDiff, Nat.reduceLT, Nat.one_ne_zero, Nat.zero_ne_one, Nat.add_zero, Bool.false_eq_true, nI_neq]
  · refine refuse (-nI 12) ?_ ?_
    · simp (disch := omega) only [X8_film, a, e, g, g2, rQ, q1, aQs, cs, q4, q5, li0, li1, li2, li3, li4, li5, li6, li7, li8, li11, li12, li16, li24, li25, li26, li31, li32, li36, li40, li48, li52, li58, li59, li60, li63, li64, li88, li96, li130, li192, li255, li2208, li2304, li9999, li9, li13, li14, li30, li35, li44, li45, li46, li47, li97, li98, li100, li101, li104, li105, li108, li110, li111, li112, li114, li117, li122, li999999, li1000000, li2147483647, cmp0, cmpl, cmpg, cmple, cmpge, nI_leI, nI_ltI, nI_eq, rL, rI, wL, wI, ob, aLet, nI_add, pk_mul, ↓reduceIte, if_true, if_false, eq_self, Nat.reduceEqDiff, Nat.reduceLeDiff, Nat.reduceLT, Nat.one_ne_zero, Nat.zero_ne_one, Nat.add_zero, Bool.false_eq_true, nI_neq]
    · simp (disch := omega) only [X9_film, X9_isSheet, b, f, h, h2, q2, k12, li0, li1, li2, li3, li4, li5, li6, li7, li8, li11, li12, li16, li24, li25, li26, li31, li32, li36, li40, li48, li52, li58, li59, li60, li63, li64, li88, li96, li130, li192, li255, li2208, li2304, li9999, li9, li13, li14, li30, li35, li44, li45, li46, li47, li97, li98, li100, li101, li104, li105, li108, li110, li111, li112, li114, li117, li122, li999999, li1000000, li2147483647, cmp0, cmpl, cmpg, cmple, cmpge, nI_leI, nI_ltI, nI_eq, rL, rI, wL, wI, ob, aLet, nI_add, pk_mul, ↓reduceIte, if_true, if_false, eq_self, Nat.reduceEqDiff, Nat.reduceLeDiff, Nat.reduceLT, Nat.one_ne_zero, Nat.zero_ne_one, Nat.add_zero, Bool.false_eq_true, nI_neq]
  · refine refuse (-nI 13) ?_ ?_
    · simp (disch := omega) only [X8_film, a, e, g, g2, rQ, q1, aQs, cs, q3, q4, li0, li1, li2, li3, li4, li5, li6, li7, li8, li11, li12, li16, li24, li25, li26, li31, li32, li36, li40, li48, li52, li58, li59, li60, li63, li64, li88, li96, li130, li192, li255, li2208, li2304, li9999, li9, li13, li14, li30, li35, li44, li45, li46, li47, li97, li98, li100, li101, li104, li105, li108, li110, li111, li112, li114, li117, li122, li999999, li1000000, li2147483647, cmp0, cmpl, cmpg, cmple, cmpge, nI_leI, nI_ltI, nI_eq, rL, rI, wL, wI, ob, aLet, nI_add, pk_mul, ↓reduceIte, if_true, if_false, eq_self, Nat.reduceEqDiff, Nat.reduceLeDiff, Nat.reduceLT, Nat.one_ne_zero, Nat.zero_ne_one, Nat.add_zero, Bool.false_eq_true, nI_neq]
    · simp (disch := omega) only [X9_film, X9_isSheet, b, f, h, h2, q2, k13, li0, li1, li2, li3, li4, li5, li6, li7, li8, li11, li12, li16, li24, li25, li26, li31, li32, li36, li40, li48, li52, li58, li59, li60, li63, li64, li88, li96, li130, li192, li255, li2208, li2304, li9999, li9, li13, li14, li30, li35, li44, li45, li46, li47, li97, li98, li100, li101, li104, li105, li108, li110, li111, li112, li114, li117, li122, li999999, li1000000, li2147483647, cmp0, cmpl, cmpg, cmple, cmpge, nI_leI, nI_ltI, nI_eq, rL, rI, wL, wI, ob, aLet, nI_add, pk_mul, ↓reduceIte, if_true, if_false, eq_self, Nat.reduceEqDiff, Nat.reduceLeDiff, Nat.reduceLT, Nat.one_ne_zero, Nat.zero_ne_one, Nat.add_zero, Bool.false_eq_true, nI_neq]
  generalize hz : (c_D c).2.2.2.1 (26 + s) = z at *
  obtain ⟨r, r', c1, r1, hr⟩ := forUp2 (fun n j (t : Rec × DynT × Rec) => X8_film_L101 (nI N) (nI o) (nI s) (nI i) n j t.1 t.2.1 t.2.2) (fun n j t => X9_film_L69 (nI N) (nI o) (nI s) (nI i) n j t) N
    (fun k Z R => LandOf (yrs d k) Z.1 ∧ RowOf (yrs d k) (R.2.1 2) ∧ R.1 = m.1 ∧ (∀ j, j ≠ 2 → R.2.1 j = m.2.1 j) ∧ Z.2.1.1 = (c_D c).1 ∧ Z.2.1.2.1 = (c_D c).2.1 ∧ Z.2.1.2.2.1 = (c_D c).2.2.1 ∧ Z.2.1.2.2.2.1 = (c_D c).2.2.2.1 ∧ Z.2.1.2.2.2.2.1 (26 + s) = Z.2.2 ∧ (∀ j, j ≠ 26 + s → Z.2.1.2.2.2.2.1 j = (c_D c).2.2.2.2.1 j) ∧ Z.2.2.1 0 = nI l ∧ (∀ k, k < z → Z.2.2.2.2 1 k = R.2.2 28 (24 * s + k)) ∧ ∀ j, (j < 24 * s ∨ 24 * s + 24 ≤ j) → R.2.2 28 j = m.2.2 28 j)
    (fun Z R => R.1 = m.1 ∧ (∀ j, j ≠ 2 → R.2.1 j = m.2.1 j) ∧ Z.2.1.1 = (c_D c).1 ∧ Z.2.1.2.1 = (c_D c).2.1 ∧ Z.2.1.2.2.1 = (c_D c).2.2.1 ∧ Z.2.1.2.2.2.1 = (c_D c).2.2.2.1 ∧ Z.2.1.2.2.2.2.1 (26 + s) = Z.2.2 ∧ (∀ j, j ≠ 26 + s → Z.2.1.2.2.2.2.1 j = (c_D c).2.2.2.2.1 j) ∧ Z.2.2.1 0 = nI l ∧ (∀ k, k < z → Z.2.2.2.2 1 k = R.2.2 28 (24 * s + k)) ∧ ∀ j, (j < 24 * s ∨ 24 * s + 24 ≤ j) → R.2.2 28 j = m.2.2 28 j)
    (fun n n' k Z R hk hI => by
      obtain ⟨i1, i2, i3, i4, i5, i6, i7, i8, i9, i10, i11, i12, i13⟩ := hI
      have ok1 : okL (yrs d k) := ok_yrs ok (by omega)
      have ok2 : okL (yrs d (k + 1)) := ok_yrs ok (by omega)
      have ho2 : o < lH (yrs d (k + 1)) := by rw [yrs_H]; exact ho
      obtain ⟨Z', p1, p2⟩ := c_pass ok1 i1
      obtain ⟨f', t1, t2⟩ := r_year ok1 i2
      have s1 := c_says ok2 p2 ho2
      have s2 := r_says ok2 t2 ho2
      have sl := sy_lt (yrs d (k + 1)) o
      have pt := c_put (z := z) (S := Z.2.2) (i := i + k) (l := l) q5 (by omega) (by omega) i11 ((nI (sy (yrs d (k + 1)) o)).toInt64)
      rw [says_l sl (by omega)] at pt
      have hlt : ¬ N ≤ k := by omega
      have i8' : Z.2.1.2.2.2.1 (26 + s) = z := by rw [i8]; exact hz
      refine Or.inr ⟨(Z', dLV Z.2.1 (26 + s) (sL Z.2.2 1 (vp_updL (Z.2.2.2.2 1) (i + k) ((nI (sy (yrs d (k + 1)) o)).toInt64))), sL Z.2.2 1 (vp_updL (Z.2.2.2.2 1) (i + k) ((nI (sy (yrs d (k + 1)) o)).toInt64))), sL (sA R 2 f') 28 (vp_updL (R.2.2 28) (24 * s + i + k) ((nI (sy (yrs d (k + 1)) o)).toInt64)), ?_, ?_, p2, t2, i3, fun j hj => ?_, i5, i6, i7, i8, if_pos rfl, fun j hj => ?_, i11, fun y hy => ?_, fun j hj => ?_⟩
      · simp (disch := omega) only [X8_film_L101, p1, s1, cs, i8', pt, li0, li1, li2, li3, li4, li5, li6, li7, li8, li11, li12, li16, li24, li25, li26, li31, li32, li36, li40, li48, li52, li58, li59, li60, li63, li64, li88, li96, li130, li192, li255, li2208, li2304, li9999, li9, li13, li14, li30, li35, li44, li45, li46, li47, li97, li98, li100, li101, li104, li105, li108, li110, li111, li112, li114, li117, li122, li999999, li1000000, li2147483647, cmp0, cmpl, cmpg, cmple, cmpge, nI_leI, nI_ltI, nI_eq, rL, rI, wL, wI, ob, aLet, nI_add, pk_mul, ↓reduceIte, if_true, if_false, eq_self, Nat.reduceEqDiff, Nat.reduceLeDiff, Nat.reduceLT, Nat.one_ne_zero, Nat.zero_ne_one, Nat.add_zero, Bool.false_eq_true, nI_neq, hlt]
      · have g3 : (sA R 2 f').2.1 2 = f' := rfl
        have g4 : (sA R 2 f').2.2 28 = R.2.2 28 := rfl
        simp (disch := omega) only [X9_film_L69, t1, g3, g4, s2, li0, li1, li2, li3, li4, li5, li6, li7, li8, li11, li12, li16, li24, li25, li26, li31, li32, li36, li40, li48, li52, li58, li59, li60, li63, li64, li88, li96, li130, li192, li255, li2208, li2304, li9999, li9, li13, li14, li30, li35, li44, li45, li46, li47, li97, li98, li100, li101, li104, li105, li108, li110, li111, li112, li114, li117, li122, li999999, li1000000, li2147483647, cmp0, cmpl, cmpg, cmple, cmpge, nI_leI, nI_ltI, nI_eq, rL, rI, wL, wI, ob, aLet, nI_add, pk_mul, ↓reduceIte, if_true, if_false, eq_self, Nat.reduceEqDiff, Nat.reduceLeDiff, Nat.reduceLT, Nat.one_ne_zero, Nat.zero_ne_one, Nat.add_zero, Bool.false_eq_true, nI_neq, hlt]
      · show (if j = 2 then f' else R.2.1 j) = _
        rw [if_neg hj]
        exact i4 j hj
      · show (if j = 26 + s then _ else Z.2.1.2.2.2.2.1 j) = _
        rw [if_neg hj]
        exact i10 j hj
      · show vp_updL (Z.2.2.2.2 1) (i + k) _ y = vp_updL (R.2.2 28) (24 * s + i + k) _ (24 * s + y)
        by_cases u : y = i + k
        · rw [u, pk_uLs, show 24 * s + (i + k) = 24 * s + i + k by omega, pk_uLs]
        · rw [pk_uLn u, pk_uLn (by omega)]
          exact i12 y hy
      · show vp_updL (R.2.2 28) (24 * s + i + k) _ j = _
        rw [pk_uLn (by omega)]
        exact i13 j hj)
    (fun n n' Z R hI => ⟨Z, R, by simp (disch := omega) only [X8_film_L101, li0, li1, li2, li3, li4, li5, li6, li7, li8, li11, li12, li16, li24, li25, li26, li31, li32, li36, li40, li48, li52, li58, li59, li60, li63, li64, li88, li96, li130, li192, li255, li2208, li2304, li9999, li9, li13, li14, li30, li35, li44, li45, li46, li47, li97, li98, li100, li101, li104, li105, li108, li110, li111, li112, li114, li117, li122, li999999, li1000000, li2147483647, cmp0, cmpl, cmpg, cmple, cmpge, nI_leI, nI_ltI, nI_eq, rL, rI, wL, wI, ob, aLet, nI_add, pk_mul, ↓reduceIte, if_true, if_false, eq_self, Nat.reduceEqDiff, Nat.reduceLeDiff, Nat.reduceLT, Nat.one_ne_zero, Nat.zero_ne_one, Nat.add_zero, Bool.false_eq_true, nI_neq, Nat.le_refl], by simp (disch := omega) only [X9_film_L69, li0, li1, li2, li3, li4, li5, li6, li7, li8, li11, li12, li16, li24, li25, li26, li31, li32, li36, li40, li48, li52, li58, li59, li60, li63, li64, li88, li96, li130, li192, li255, li2208, li2304, li9999, li9, li13, li14, li30, li35, li44, li45, li46, li47, li97, li98, li100, li101, li104, li105, li108, li110, li111, li112, li114, li117, li122, li999999, li1000000, li2147483647, cmp0, cmpl, cmpg, cmple, cmpge, nI_leI, nI_ltI, nI_eq, rL, rI, wL, wI, ob, aLet, nI_add, pk_mul, ↓reduceIte, if_true, if_false, eq_self, Nat.reduceEqDiff, Nat.reduceLeDiff, Nat.reduceLT, Nat.one_ne_zero, Nat.zero_ne_one, Nat.add_zero, Bool.false_eq_true, nI_neq, Nat.le_refl], hI.2.2⟩)
    N 0 aFu aFu (X2_become (c_trial c) (c_now c), c_D c, (c_D c).2.2.2.2.1 (26 + s)) (sA m 2 (laid (m.2.1 0) (m.2.1 2) 96)) (by omega) (by show _ < 100000; omega) (by show _ < 100000; omega) ⟨c_become ok hS, row_laid ok hf, rfl, fun j hj => if_neg hj, rfl, rfl, rfl, rfl, rfl, fun j _ => rfl, q3, fun k hk => by
      rcases hSh s (by omega) with ⟨u1, u2⟩ | ⟨u1, u2, u3, u4, u5⟩
      · rw [u1] at q1
        cases q1
      · exact u5 k (by omega), fun j _ => rfl⟩
  have c1 : X8_film_L101 (nI N) (nI o) (nI s) (nI i) aFu (nI 0) (X2_become (c_trial c) (c_now c)) (c_D c) ((c_D c).2.2.2.2.1 (26 + s)) = some r := c1
  obtain ⟨i3, i4, i5, i6, i7, i8, i9, i10, i11, i12, i13⟩ := hr
  have e1 : X8_film (c_D c) (c_now c) (c_trial c) (nI o) (nI N) (nI s) (nI l) (nI i) = some (nI N, r.1, r.2.1) := by
    simp (disch := omega) only [X8_film, a, e, g, g2, rQ, q1, aQs, cs, q3, q6, hz, c1, li0, li1, li2, li3, li4, li5, li6, li7, li8, li11, li12, li16, li24, li25, li26, li31, li32, li36, li40, li48, li52, li58, li59, li60, li63, li64, li88, li96, li130, li192, li255, li2208, li2304, li9999, li9, li13, li14, li30, li35, li44, li45, li46, li47, li97, li98, li100, li101, li104, li105, li108, li110, li111, li112, li114, li117, li122, li999999, li1000000, li2147483647, cmp0, cmpl, cmpg, cmple, cmpge, nI_leI, nI_ltI, nI_eq, rL, rI, wL, wI, ob, aLet, nI_add, pk_mul, ↓reduceIte, if_true, if_false, eq_self, Nat.reduceEqDiff, Nat.reduceLeDiff, Nat.reduceLT, Nat.one_ne_zero, Nat.zero_ne_one, Nat.add_zero, Bool.false_eq_true, nI_neq]
  have e2 : X9_film m (nI o) (nI N) (nI s) (nI l) (nI i) = some (nI N, r') := by
    simp (disch := omega) only [X9_film, X9_isSheet, b, f, h, h2, q2, r_lay, r1, li0, li1, li2, li3, li4, li5, li6, li7, li8, li11, li12, li16, li24, li25, li26, li31, li32, li36, li40, li48, li52, li58, li59, li60, li63, li64, li88, li96, li130, li192, li255, li2208, li2304, li9999, li9, li13, li14, li30, li35, li44, li45, li46, li47, li97, li98, li100, li101, li104, li105, li108, li110, li111, li112, li114, li117, li122, li999999, li1000000, li2147483647, cmp0, cmpl, cmpg, cmple, cmpge, nI_leI, nI_ltI, nI_eq, rL, rI, wL, wI, ob, aLet, nI_add, pk_mul, ↓reduceIte, if_true, if_false, eq_self, Nat.reduceEqDiff, Nat.reduceLeDiff, Nat.reduceLT, Nat.one_ne_zero, Nat.zero_ne_one, Nat.add_zero, Bool.false_eq_true, nI_neq]
  refine ⟨_, (c_tape c, c_now c, c_past c, r.2.1, r.1, c_earlier c, c_sets c, c_survey c, c_marriages c, c_finder c), r', by unfold stC_film; rw [e1]; rfl, by unfold stM_film; rw [e2]; rfl, ⟨d, ok, hy, hS, ?_⟩, ?_, ?_, ?_, ?_⟩
  · rw [i4 0 (by decide)]
    exact hf
  · rw [i3, i4 5 (by decide)]
    exact hT
  · show PastOf (c_past c) r.2.1.1 r.2.1.2.2.2.2.1 (r'.1 4) (r'.2.1 3)
    rw [i3, i4 3 (by decide)]
    exact past_far hP (fun j _ => by rw [i5]) (fun j hj => i10 j (by omega))
  · show ImgOf r.2.1.2.1 r.2.1.2.2.2.2.1 (r'.2.1 9) (r'.2.1 10)
    rw [i6, i4 9 (by decide), i4 10 (by decide)]
    exact img_far hImg (fun j h1 h2 => i10 j (by omega))
  · show SheetOf r.2.1.2.2.1 r.2.1.2.2.2.1 r.2.1.2.2.2.2.1 (r'.2.1 26) (r'.2.1 27) (r'.2.2 28)
    rw [i7, i8, i4 26 (by decide), i4 27 (by decide)]
    intro u hu
    rcases hSh u hu with q | ⟨g1, g2, g3, g4, g5⟩
    · exact Or.inl q
    · refine Or.inr ⟨g1, g2, g3, ?_, fun y hy => ?_⟩
      · by_cases w : u = s
        · subst w
          obtain ⟨a1, a2, a3, a4⟩ := g4
          rw [q3] at a4
          exact ⟨a1, a2, a3, by rw [i9, i11]; exact a4⟩
        · rw [i10 _ (by omega)]
          exact g4
      · by_cases w : u = s
        · subst w
          rw [i9, i12 y (by omega)]
        · rw [i10 _ (by omega), g5 y hy, i13 _ (by omega)]
