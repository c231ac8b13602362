/-! marry in the reference -/
theorem g_h : ∀ H, H < 7 → ∀ g, g < 2 ^ H → (g = 0 ∨ lw g < H) ∧ ∀ a, a < H → rm g a < 2 ^ H := by
  have key : ∀ H, H < 7 → ∀ g, g < 64 → (2 ^ H ≤ g ∨ g = 0 ∨ lw g < H) ∧ ∀ a, a < 6 → (2 ^ H ≤ g ∨ rm g a < 2 ^ H) := by decide +kernel
  intro H hH g hg
  have h64 : 2 ^ H ≤ 2 ^ 6 := Nat.pow_le_pow_right (by decide) (by omega)
  obtain ⟨k1, k2⟩ := key H hH g (by omega)
  refine ⟨by omega, fun a ha => ?_⟩
  have := k2 a (by omega)
  omega
theorem r_talks {d : LD} {m : Rec} (ok : okL d) (hf : RowOf d (m.2.1 0)) {t : Nat} (ht : t ≤ 5) : ∃ Z, X9_marry_L40 (nI t) aFu (nI 0) m = some Z ∧ Fr m Z ∧ (∀ a, a < lH d → Z.2.1 16 a = nI (tlk d t a)) ∧ ∀ a, a < lH d → Z.2.1 18 a = -nI 4 := by
  have h6 := ok.1
  obtain ⟨Z, z1, z2⟩ := forUpE (fun n j z => X9_marry_L40 (nI t) n j z) (lH d) (fun k Z => Fr m Z ∧ (∀ a, a < k → Z.2.1 16 a = nI (tlk d t a)) ∧ ∀ a, a < k → Z.2.1 18 a = -nI 4) (fun Z => Fr m Z ∧ (∀ a, a < lH d → Z.2.1 16 a = nI (tlk d t a)) ∧ ∀ a, a < lH d → Z.2.1 18 a = -nI 4) (fun n k Z hk hZ => by
      obtain ⟨i1, i2, i3⟩ := hZ
      have h : ¬ lH d ≤ k := by omega
      have f0 : RowOf d (Z.2.1 0) := by
        rw [i1.2.2.1]
        exact hf
      have tl : tlk d t k = ms (tk d k t) (lH d) := if_pos hk
      obtain ⟨Y, y1, y2, y3, y4, y5⟩ := forUpE (fun n j z => X9_marry_L68 (nI k) (nI t) n j z) (lH d) (fun b Y => Fr m Y ∧ Y.2.1 16 k = nI (ms (tk d k t) b) ∧ (∀ a, a ≠ k → Y.2.1 16 a = Z.2.1 16 a) ∧ Y.2.1 18 = upd (Z.2.1 18) k (-nI 4)) (fun Y => Fr m Y ∧ Y.2.1 16 k = nI (ms (tk d k t) (lH d)) ∧ (∀ a, a ≠ k → Y.2.1 16 a = Z.2.1 16 a) ∧ Y.2.1 18 = upd (Z.2.1 18) k (-nI 4)) (fun n b Y hb hY => by
          obtain ⟨j1, j2, j3, j4⟩ := hY
          have h2 : ¬ lH d ≤ b := by omega
          have fY : RowOf d (Y.2.1 0) := by
            rw [j1.2.2.1]
            exact hf
          have dt := r_doTalk ok fY hk hb ht
          cases q : tk d k t b
          · rw [q] at dt
            refine ⟨sA Y 16 (upd (Y.2.1 16) k (nI (ms (tk d k t) b))), ?_, Fr_A j1 (by omega), ?_, fun a ha => ?_, j4⟩
            · have dt : X9_doTalk Y (nI k) (nI b) (nI t) = some (nI 0) := dt
              simp (disch := omega) only [X9_marry_L68, fY.1, j2, dt, fa_or, Nat.or_zero, li0, li1, li2, li3, li4, li5, li6, li7, li8, li11, li12, li16, li24, li25, li26, li31, li32, li36, li40, li48, li52, li58, li59, li60, li63, li64, li88, li96, li130, li192, li255, li2208, li2304, li9999, li9, li13, li14, li30, li35, li44, li45, li46, li47, li97, li98, li100, li101, li104, li105, li108, li110, li111, li112, li114, li117, li122, li999999, li1000000, li2147483647, cmp0, cmpl, cmpg, cmple, cmpge, nI_leI, nI_ltI, nI_eq, rL, rI, wL, wI, ob, aLet, nI_add, pk_mul, ↓reduceIte, if_true, if_false, eq_self, Nat.reduceEqDiff, Nat.reduceLeDiff, Nat.reduceLT, Nat.one_ne_zero, Nat.zero_ne_one, Nat.add_zero, Bool.false_eq_true, nI_neq, h2]
            · show upd (Y.2.1 16) k _ k = _
              rw [pk_us, ms_no q]
            · show upd (Y.2.1 16) k _ a = _
              rw [pk_un ha]
              exact j3 a ha
          · rw [q] at dt
            refine ⟨sA Y 16 (upd (Y.2.1 16) k (nI (ms (tk d k t) b ||| 2 ^ b))), ?_, Fr_A j1 (by omega), ?_, fun a ha => ?_, j4⟩
            · have dt : X9_doTalk Y (nI k) (nI b) (nI t) = some (nI 1) := dt
              simp (disch := omega) only [X9_marry_L68, fY.1, j2, dt, sh1, fa_or, li0, li1, li2, li3, li4, li5, li6, li7, li8, li11, li12, li16, li24, li25, li26, li31, li32, li36, li40, li48, li52, li58, li59, li60, li63, li64, li88, li96, li130, li192, li255, li2208, li2304, li9999, li9, li13, li14, li30, li35, li44, li45, li46, li47, li97, li98, li100, li101, li104, li105, li108, li110, li111, li112, li114, li117, li122, li999999, li1000000, li2147483647, cmp0, cmpl, cmpg, cmple, cmpge, nI_leI, nI_ltI, nI_eq, rL, rI, wL, wI, ob, aLet, nI_add, pk_mul, ↓reduceIte, if_true, if_false, eq_self, Nat.reduceEqDiff, Nat.reduceLeDiff, Nat.reduceLT, Nat.one_ne_zero, Nat.zero_ne_one, Nat.add_zero, Bool.false_eq_true, nI_neq, h2]
            · show upd (Y.2.1 16) k _ k = _
              rw [pk_us, ms_yes q]
            · show upd (Y.2.1 16) k _ a = _
              rw [pk_un ha]
              exact j3 a ha) (fun n Y hY => ⟨Y, by
          have fY : RowOf d (Y.2.1 0) := by
            rw [hY.1.2.2.1]
            exact hf
          simp (disch := omega) only [X9_marry_L68, fY.1, li0, li1, li2, li3, li4, li5, li6, li7, li8, li11, li12, li16, li24, li25, li26, li31, li32, li36, li40, li48, li52, li58, li59, li60, li63, li64, li88, li96, li130, li192, li255, li2208, li2304, li9999, li9, li13, li14, li30, li35, li44, li45, li46, li47, li97, li98, li100, li101, li104, li105, li108, li110, li111, li112, li114, li117, li122, li999999, li1000000, li2147483647, cmp0, cmpl, cmpg, cmple, cmpge, nI_leI, nI_ltI, nI_eq, rL, rI, wL, wI, ob, aLet, nI_add, pk_mul, ↓reduceIte, if_true, if_false, eq_self, Nat.reduceEqDiff, Nat.reduceLeDiff, Nat.reduceLT, Nat.one_ne_zero, Nat.zero_ne_one, Nat.add_zero, Bool.false_eq_true, nI_neq, Nat.le_refl], hY⟩) (lH d) 0 aFu (sA (sA Z 16 (upd (Z.2.1 16) k (nI 0))) 18 (upd (Z.2.1 18) k (-nI 4))) (by omega) (by show _ < 100000; omega) ⟨Fr_A (Fr_A i1 (by omega)) (by omega), by
          show upd (Z.2.1 16) k (nI 0) k = _
          rw [pk_us]
          rfl, fun a ha => by
          show upd (Z.2.1 16) k (nI 0) a = _
          rw [pk_un ha], rfl⟩
      have g18 : ∀ f, (sA Z 16 f).2.1 18 = Z.2.1 18 := fun f => rfl
      refine ⟨Y, ?_, y2, fun a ha => ?_, fun a ha => ?_⟩
      · simp (disch := omega) only [X9_marry_L40, f0.1, g18, y1, li0, li1, li2, li3, li4, li5, li6, li7, li8, li11, li12, li16, li24, li25, li26, li31, li32, li36, li40, li48, li52, li58, li59, li60, li63, li64, li88, li96, li130, li192, li255, li2208, li2304, li9999, li9, li13, li14, li30, li35, li44, li45, li46, li47, li97, li98, li100, li101, li104, li105, li108, li110, li111, li112, li114, li117, li122, li999999, li1000000, li2147483647, cmp0, cmpl, cmpg, cmple, cmpge, nI_leI, nI_ltI, nI_eq, rL, rI, wL, wI, ob, aLet, nI_add, pk_mul, ↓reduceIte, if_true, if_false, eq_self, Nat.reduceEqDiff, Nat.reduceLeDiff, Nat.reduceLT, Nat.one_ne_zero, Nat.zero_ne_one, Nat.add_zero, Bool.false_eq_true, nI_neq, h]
      · by_cases y : a = k
        · rw [y, y3, tl]
        · rw [y4 a y]
          exact i2 a (by omega)
      · rw [y5]
        by_cases y : a = k
        · rw [y, pk_us]
        · rw [pk_un y]
          exact i3 a (by omega)) (fun n Z hZ => ⟨Z, by
      have f0 : RowOf d (Z.2.1 0) := by
        rw [hZ.1.2.2.1]
        exact hf
      simp (disch := omega) only [X9_marry_L40, f0.1, li0, li1, li2, li3, li4, li5, li6, li7, li8, li11, li12, li16, li24, li25, li26, li31, li32, li36, li40, li48, li52, li58, li59, li60, li63, li64, li88, li96, li130, li192, li255, li2208, li2304, li9999, li9, li13, li14, li30, li35, li44, li45, li46, li47, li97, li98, li100, li101, li104, li105, li108, li110, li111, li112, li114, li117, li122, li999999, li1000000, li2147483647, cmp0, cmpl, cmpg, cmple, cmpge, nI_leI, nI_ltI, nI_eq, rL, rI, wL, wI, ob, aLet, nI_add, pk_mul, ↓reduceIte, if_true, if_false, eq_self, Nat.reduceEqDiff, Nat.reduceLeDiff, Nat.reduceLT, Nat.one_ne_zero, Nat.zero_ne_one, Nat.add_zero, Bool.false_eq_true, nI_neq, Nat.le_refl], hZ⟩) (lH d) 0 aFu m (by omega) (by show _ < 100000; omega) ⟨Fr_refl m, fun a ha => absurd ha (by omega), fun a ha => absurd ha (by omega)⟩
  exact ⟨Z, z1, z2⟩
theorem r_has {d : LD} {t a b : Nat} (ok : okL d) (hb : b < 6) : X9_has (nI (tlk d t a)) (nI b) = nI (adjD d t a b).toNat := by
  rw [(g_rm (tlk d t a) (tlk_lt ok t a) b hb).2.2.1, tlk_bit]
theorem r_pairs {d : LD} {m Z : Rec} (ok : okL d) (hf : RowOf d (m.2.1 0)) {t : Nat} (hF : Fr m Z) (hT : ∀ a, a < lH d → Z.2.1 16 a = nI (tlk d t a)) (h0 : Z.2.1 17 0 = nI 0) : ∃ Y, X9_marry_L140 (nI (2 ^ lH d - 1)) aFu (nI 1) Z = some Y ∧ Fr m Y ∧ Y.2.1 16 = Z.2.1 16 ∧ Y.2.1 18 = Z.2.1 18 ∧ ∀ g, g < 2 ^ lH d → Y.2.1 17 g = nI (mo (adjD d t) g) := by
  have h6 := ok.1
  have h64 : 2 ^ lH d ≤ 2 ^ 6 := Nat.pow_le_pow_right (by decide) h6
  have hp : 0 < 2 ^ lH d := Nat.two_pow_pos _
  obtain ⟨Y, y1, y2⟩ := forUpE (fun n j z => X9_marry_L140 (nI (2 ^ lH d - 1)) n j z) (2 ^ lH d) (fun g Y => 1 ≤ g ∧ Fr m Y ∧ Y.2.1 16 = Z.2.1 16 ∧ Y.2.1 18 = Z.2.1 18 ∧ ∀ x, x < g → Y.2.1 17 x = nI (mo (adjD d t) x)) (fun Y => Fr m Y ∧ Y.2.1 16 = Z.2.1 16 ∧ Y.2.1 18 = Z.2.1 18 ∧ ∀ g, g < 2 ^ lH d → Y.2.1 17 g = nI (mo (adjD d t) g)) (fun n g Y hg hY => by
      obtain ⟨g1, i1, i2, i3, i4⟩ := hY
      have h : ¬ 2 ^ lH d - 1 < g := by omega
      have rl := r_lowest (g := g) (by omega) (by omega)
      obtain ⟨l1, l2, l3, l4, l5⟩ := g_low g (by omega) (by omega)
      obtain ⟨q1, q2⟩ := g_h (lH d) (by omega) g hg
      have lH' : lw g < lH d := by omega
      have gr := (g_rm g (by omega) (lw g) l3).1
      have e1 := i4 (rm g (lw g)) l5
      have fl := fo_le (adjD d t) (g := g) (by omega) (by omega)
      -- the first of them takes one
      obtain ⟨X, x1, x2, x3, x4, x5, x6⟩ := forUpE (fun n j z => X9_marry_L180 (nI g) (nI (lw g)) n j z) (lH d) (fun k X => lw g < k ∧ Fr m X ∧ X.2.1 16 = Z.2.1 16 ∧ X.2.1 18 = Z.2.1 18 ∧ X.2.1 17 g = nI (fo (adjD d t) (mo (adjD d t)) g k) ∧ ∀ x, x < g → X.2.1 17 x = nI (mo (adjD d t) x)) (fun X => Fr m X ∧ X.2.1 16 = Z.2.1 16 ∧ X.2.1 18 = Z.2.1 18 ∧ X.2.1 17 g = nI (fo (adjD d t) (mo (adjD d t)) g (lH d)) ∧ ∀ x, x < g → X.2.1 17 x = nI (mo (adjD d t) x)) (fun n k X hk hX => by
          obtain ⟨k1, j1, j2, j3, j4, j5⟩ := hX
          have h2 : ¬ lH d ≤ k := by omega
          have fX : RowOf d (X.2.1 0) := by
            rw [j1.2.2.1]
            exact hf
          have hk6 : k < 6 := by omega
          have ta : X.2.1 16 (lw g) = nI (tlk d t (lw g)) := by
            rw [j2]
            exact hT _ lH'
          have ha := r_has (t := t) (a := lw g) ok hk6
          have hg2 := (g_rm g (by omega) k hk6).2.2.1
          have r3 := (g_rm3 g (by omega) (lw g) l3 k hk6).1
          have r3 : (rm g (lw g)).testBit k = g.testBit k := by
            rcases r3 with z | z
            · omega
            · exact z
          have fk := fl k (by omega)
          have keep : ∀ x, x < g → upd (X.2.1 17) g (nI (fo (adjD d t) (mo (adjD d t)) g (k + 1))) x = nI (mo (adjD d t) x) := fun x hx => by
            rw [pk_un (by omega)]
            exact j5 x hx
          refine ⟨sA X 17 (upd (X.2.1 17) g (nI (fo (adjD d t) (mo (adjD d t)) g (k + 1)))), ?_, by omega, Fr_A j1 (by omega), j2, j3, by show upd (X.2.1 17) g _ g = _; rw [pk_us], keep⟩
          have z0 : (nI 0 ≤ nI (fo (adjD d t) (mo (adjD d t)) g k)) = True := by simp [nI_pos' (show fo (adjD d t) (mo (adjD d t)) g k < 2 ^ 31 by omega), ← li0]
          rw [fo, r3]
          cases c1 : g.testBit k
          · rw [c1] at hg2
            have hg2 : X9_has (nI g) (nI k) = nI 0 := hg2
            rw [if_neg (fun z => by cases z.2.1)]
            simp (disch := omega) only [X9_marry_L180, X9_marry_J240, X9_marry_J241, fX.1, hg2, j4, z0, li0, li1, li2, li3, li4, li5, li6, li7, li8, li11, li12, li16, li24, li25, li26, li31, li32, li36, li40, li48, li52, li58, li59, li60, li63, li64, li88, li96, li130, li192, li255, li2208, li2304, li9999, li9, li13, li14, li30, li35, li44, li45, li46, li47, li97, li98, li100, li101, li104, li105, li108, li110, li111, li112, li114, li117, li122, li999999, li1000000, li2147483647, cmp0, cmpl, cmpg, cmple, cmpge, nI_leI, nI_ltI, nI_eq, rL, rI, wL, wI, ob, aLet, nI_add, pk_mul, ↓reduceIte, if_true, if_false, eq_self, Nat.reduceEqDiff, Nat.reduceLeDiff, Nat.reduceLT, Nat.one_ne_zero, Nat.zero_ne_one, Nat.add_zero, Bool.false_eq_true, nI_neq, h2, Nat.zero_le]
          · rw [c1] at hg2
            have hg2 : X9_has (nI g) (nI k) = nI 1 := hg2
            cases c2 : adjD d t (lw g) k
            · rw [c2] at ha
              have ha : X9_has (nI (tlk d t (lw g))) (nI k) = nI 0 := ha
              rw [if_neg (fun z => by cases z.2.2)]
              simp (disch := omega) only [X9_marry_L180, X9_marry_J240, X9_marry_J241, fX.1, hg2, ta, ha, j4, z0, li0, li1, li2, li3, li4, li5, li6, li7, li8, li11, li12, li16, li24, li25, li26, li31, li32, li36, li40, li48, li52, li58, li59, li60, li63, li64, li88, li96, li130, li192, li255, li2208, li2304, li9999, li9, li13, li14, li30, li35, li44, li45, li46, li47, li97, li98, li100, li101, li104, li105, li108, li110, li111, li112, li114, li117, li122, li999999, li1000000, li2147483647, cmp0, cmpl, cmpg, cmple, cmpge, nI_leI, nI_ltI, nI_eq, rL, rI, wL, wI, ob, aLet, nI_add, pk_mul, ↓reduceIte, if_true, if_false, eq_self, Nat.reduceEqDiff, Nat.reduceLeDiff, Nat.reduceLT, Nat.one_ne_zero, Nat.zero_ne_one, Nat.add_zero, Bool.false_eq_true, nI_neq, h2, Nat.zero_le]
            · rw [c2] at ha
              have ha : X9_has (nI (tlk d t (lw g))) (nI k) = nI 1 := ha
              have rr := g_rm2 g (by omega) (lw g) l3 k hk6
              have gr2 := g_rm (rm g (lw g)) (by omega) k hk6
              have e2 := j5 (rm (rm g (lw g)) k) (by omega)
              have ml := mo_le (adjD d t) (rm (rm g (lw g)) k) (by omega)
              rw [if_pos ⟨k1, rfl, rfl⟩]
              by_cases w : 1 + mo (adjD d t) (rm (rm g (lw g)) k) ≤ fo (adjD d t) (mo (adjD d t)) g k
              · rw [Nat.max_eq_left w]
                simp (disch := omega) only [X9_marry_L180, X9_marry_J240, X9_marry_J241, fX.1, hg2, ta, ha, rr, e2, j4, w, li0, li1, li2, li3, li4, li5, li6, li7, li8, li11, li12, li16, li24, li25, li26, li31, li32, li36, li40, li48, li52, li58, li59, li60, li63, li64, li88, li96, li130, li192, li255, li2208, li2304, li9999, li9, li13, li14, li30, li35, li44, li45, li46, li47, li97, li98, li100, li101, li104, li105, li108, li110, li111, li112, li114, li117, li122, li999999, li1000000, li2147483647, cmp0, cmpl, cmpg, cmple, cmpge, nI_leI, nI_ltI, nI_eq, rL, rI, wL, wI, ob, aLet, nI_add, pk_mul, ↓reduceIte, if_true, if_false, eq_self, Nat.reduceEqDiff, Nat.reduceLeDiff, Nat.reduceLT, Nat.one_ne_zero, Nat.zero_ne_one, Nat.add_zero, Bool.false_eq_true, nI_neq, h2]
              · rw [Nat.max_eq_right (by omega)]
                simp (disch := omega) only [X9_marry_L180, X9_marry_J240, X9_marry_J241, fX.1, hg2, ta, ha, rr, e2, j4, w, li0, li1, li2, li3, li4, li5, li6, li7, li8, li11, li12, li16, li24, li25, li26, li31, li32, li36, li40, li48, li52, li58, li59, li60, li63, li64, li88, li96, li130, li192, li255, li2208, li2304, li9999, li9, li13, li14, li30, li35, li44, li45, li46, li47, li97, li98, li100, li101, li104, li105, li108, li110, li111, li112, li114, li117, li122, li999999, li1000000, li2147483647, cmp0, cmpl, cmpg, cmple, cmpge, nI_leI, nI_ltI, nI_eq, rL, rI, wL, wI, ob, aLet, nI_add, pk_mul, ↓reduceIte, if_true, if_false, eq_self, Nat.reduceEqDiff, Nat.reduceLeDiff, Nat.reduceLT, Nat.one_ne_zero, Nat.zero_ne_one, Nat.add_zero, Bool.false_eq_true, nI_neq, h2]) (fun n X hX => ⟨X, by
          have fX : RowOf d (X.2.1 0) := by
            rw [hX.2.1.2.2.1]
            exact hf
          simp (disch := omega) only [X9_marry_L180, fX.1, li0, li1, li2, li3, li4, li5, li6, li7, li8, li11, li12, li16, li24, li25, li26, li31, li32, li36, li40, li48, li52, li58, li59, li60, li63, li64, li88, li96, li130, li192, li255, li2208, li2304, li9999, li9, li13, li14, li30, li35, li44, li45, li46, li47, li97, li98, li100, li101, li104, li105, li108, li110, li111, li112, li114, li117, li122, li999999, li1000000, li2147483647, cmp0, cmpl, cmpg, cmple, cmpge, nI_leI, nI_ltI, nI_eq, rL, rI, wL, wI, ob, aLet, nI_add, pk_mul, ↓reduceIte, if_true, if_false, eq_self, Nat.reduceEqDiff, Nat.reduceLeDiff, Nat.reduceLT, Nat.one_ne_zero, Nat.zero_ne_one, Nat.add_zero, Bool.false_eq_true, nI_neq, Nat.le_refl], hX.2⟩) (lH d - (lw g + 1)) (lw g + 1) aFu (sA Y 17 (upd (Y.2.1 17) g (nI (mo (adjD d t) (rm g (lw g)))))) (by omega) (by show _ < 100000; omega) ⟨by omega, Fr_A i1 (by omega), i2, i3, by
          show upd (Y.2.1 17) g _ g = _
          rw [pk_us, fo_early (Nat.le_refl _)], fun x hx => by
          show upd (Y.2.1 17) g _ x = _
          rw [pk_un (by omega)]
          exact i4 x hx⟩
      have fin : mo (adjD d t) g = fo (adjD d t) (mo (adjD d t)) g (lH d) := by
        rw [mo_s _ (by omega) (by omega)]
        have := fo_late (adj := adjD d t) (M := mo (adjD d t)) (g := g) (H := lH d) (fun a b h => adj_lt h) (6 - lH d)
        rw [show lH d + (6 - lH d) = 6 by omega] at this
        exact this
      refine ⟨X, ?_, by omega, x2, x3, x4, fun x hx => ?_⟩
      · simp (disch := omega) only [X9_marry_L140, rl, gr, e1, x1, li0, li1, li2, li3, li4, li5, li6, li7, li8, li11, li12, li16, li24, li25, li26, li31, li32, li36, li40, li48, li52, li58, li59, li60, li63, li64, li88, li96, li130, li192, li255, li2208, li2304, li9999, li9, li13, li14, li30, li35, li44, li45, li46, li47, li97, li98, li100, li101, li104, li105, li108, li110, li111, li112, li114, li117, li122, li999999, li1000000, li2147483647, cmp0, cmpl, cmpg, cmple, cmpge, nI_leI, nI_ltI, nI_eq, rL, rI, wL, wI, ob, aLet, nI_add, pk_mul, ↓reduceIte, if_true, if_false, eq_self, Nat.reduceEqDiff, Nat.reduceLeDiff, Nat.reduceLT, Nat.one_ne_zero, Nat.zero_ne_one, Nat.add_zero, Bool.false_eq_true, nI_neq, h]
      · by_cases y : x = g
        · rw [y, x5, fin]
        · exact x6 x (by omega)) (fun n Y hY => ⟨Y, by
      have h : 2 ^ lH d - 1 < 2 ^ lH d := by omega
      simp (disch := omega) only [X9_marry_L140, li0, li1, li2, li3, li4, li5, li6, li7, li8, li11, li12, li16, li24, li25, li26, li31, li32, li36, li40, li48, li52, li58, li59, li60, li63, li64, li88, li96, li130, li192, li255, li2208, li2304, li9999, li9, li13, li14, li30, li35, li44, li45, li46, li47, li97, li98, li100, li101, li104, li105, li108, li110, li111, li112, li114, li117, li122, li999999, li1000000, li2147483647, cmp0, cmpl, cmpg, cmple, cmpge, nI_leI, nI_ltI, nI_eq, rL, rI, wL, wI, ob, aLet, nI_add, pk_mul, ↓reduceIte, if_true, if_false, eq_self, Nat.reduceEqDiff, Nat.reduceLeDiff, Nat.reduceLT, Nat.one_ne_zero, Nat.zero_ne_one, Nat.add_zero, Bool.false_eq_true, nI_neq, h], hY.2⟩) (2 ^ lH d - 1) 1 aFu Z (by omega) (by show _ < 100000; omega) ⟨Nat.le_refl 1, hF, rfl, rfl, fun x hx => by
      obtain rfl : x = 0 := by omega
      rw [h0, mo_0]⟩
  exact ⟨Y, y1, y2⟩
/-- the pairs made, in the reference: left is what the program has, of those who are there -/
theorem r_left {d : LD} {m Z : Rec} (ok : okL d) (hf : RowOf d (m.2.1 0)) {t : Nat} (hF : Fr m Z) (hT : ∀ a, a < lH d → Z.2.1 16 a = nI (tlk d t a)) (hM : ∀ a, a < lH d → Z.2.1 18 a = -nI 4) (hP : ∀ g, g < 2 ^ lH d → Z.2.1 17 g = nI (mo (adjD d t) g)) : ∃ Y, X9_marry_L292 aFu (nI (2 ^ lH d - 1)) (nI 0) Z = some Y ∧ Fr m Y ∧ Y.2.1 17 = Z.2.1 17 ∧ ∀ a, a < lH d → Y.2.1 18 a = (pst (adjD d t) (lH d)).2 a := by
  have h6 := ok.1
  have h64 : 2 ^ lH d ≤ 2 ^ 6 := Nat.pow_le_pow_right (by decide) h6
  have hp : 0 < 2 ^ lH d := Nat.two_pow_pos _
  have hal : ∀ a b, adjD d t a b = true → a < lH d ∧ b < lH d := fun a b h => adj_lt h
  obtain ⟨Y, y1, y2⟩ := forUpE (fun n j (s : Int32 × Rec) => X9_marry_L292 n s.1 j s.2) (lH d) (fun k s => s.1 = nI ((pst (adjD d t) k).1 % 2 ^ lH d) ∧ Fr m s.2 ∧ s.2.2.1 16 = Z.2.1 16 ∧ s.2.2.1 17 = Z.2.1 17 ∧ ∀ a, a < lH d → s.2.2.1 18 a = (pst (adjD d t) k).2 a) (fun Y => Fr m Y ∧ Y.2.1 17 = Z.2.1 17 ∧ ∀ a, a < lH d → Y.2.1 18 a = (pst (adjD d t) (lH d)).2 a) (fun n k s hk hI => by
      obtain ⟨i1, i2, i3, i4, i5⟩ := hI
      have h : ¬ lH d ≤ k := by omega
      have hk6 : k < 6 := by omega
      have f0 : RowOf d (s.2.2.1 0) := by
        rw [i2.2.2.1]
        exact hf
      have pl := pst_lt (adjD d t) k (by omega)
      have ps := pst_s (adjD d t) k
      have gm := g_mod (lH d) (by omega) (pst (adjD d t) k).1 pl
      have gm2 := g_mod2 (lH d) (by omega) (pst (adjD d t) k).1 pl
      generalize hl : (pst (adjD d t) k).1 % 2 ^ lH d = l at *
      have l2 : l < 2 ^ lH d := by
        rw [← hl]
        exact Nat.mod_lt _ hp
      have gr := g_rm l (by omega) k hk6
      -- the inner loop
      by_cases q : (pst (adjD d t) k).1.testBit k = true
      · have ql : l.testBit k = true := by rw [(gm2 k hk).2, q]
        rw [if_pos q] at ps
        have mo1 : mo (adjD d t) l = mo (adjD d t) (pst (adjD d t) k).1 := by rw [← hl, ← mo_mod (by omega) hal _ pl]
        have ml0 := mo_le (adjD d t) l (by omega)
        have key : ∀ e b f, k < b → b + e = lH d → e + 1 < f → sel (adjD d t) l k b = none → ∃ W, X9_marry_L309 (nI k) f (nI l) (nI b) s.2 = some (nI (match sel (adjD d t) l k (lH d) with | some c => rm (rm l k) c | none => l), W) ∧ Fr m W ∧ W.2.1 16 = Z.2.1 16 ∧ W.2.1 17 = Z.2.1 17 ∧ ∀ a, a < lH d → W.2.1 18 a = (match sel (adjD d t) l k (lH d) with | some c => upN (upN (pst (adjD d t) k).2 k (nI c)) c (nI k) a | none => (pst (adjD d t) k).2 a) := by
          intro e
          induction e with
          | zero =>
            intro b f h0 h1 h2 h3
            obtain ⟨f, rfl⟩ : ∃ z, f = z + 1 := ⟨f - 1, by omega⟩
            obtain rfl : b = lH d := h1
            rw [h3]
            exact ⟨s.2, by simp (disch := omega) only [X9_marry_L309, f0.1, li0, li1, li2, li3, li4, li5, li6, li7, li8, li11, li12, li16, li24, li25, li26, li31, li32, li36, li40, li48, li52, li58, li59, li60, li63, li64, li88, li96, li130, li192, li255, li2208, li2304, li9999, li9, li13, li14, li30, li35, li44, li45, li46, li47, li97, li98, li100, li101, li104, li105, li108, li110, li111, li112, li114, li117, li122, li999999, li1000000, li2147483647, cmp0, cmpl, cmpg, cmple, cmpge, nI_leI, nI_ltI, nI_eq, rL, rI, wL, wI, ob, aLet, nI_add, pk_mul, ↓reduceIte, if_true, if_false, eq_self, Nat.reduceEqDiff, Nat.reduceLeDiff, Nat.reduceLT, Nat.one_ne_zero, Nat.zero_ne_one, Nat.add_zero, Bool.false_eq_true, nI_neq, Nat.le_refl], i2, i3, i4, i5⟩
          | succ e ih =>
            intro b f h0 h1 h2 h3
            obtain ⟨f, rfl⟩ : ∃ z, f = z + 1 := ⟨f - 1, by omega⟩
            have hb : b < lH d := by omega
            have hb6 : b < 6 := by omega
            have hb' : ¬ lH d ≤ b := by omega
            have hk1 := gr.2.2.1
            rw [ql] at hk1
            have hk1 : X9_has (nI l) (nI k) = nI 1 := hk1
            have hb1 := (g_rm l (by omega) b hb6).2.2.1
            have r3 := g_rm3 l (by omega) k hk6 b hb6
            have r3b : (rm l k).testBit b = l.testBit b := by
              rcases r3.1 with z | z
              · omega
              · exact z
            have rr := g_rm2 l (by omega) k hk6 b hb6
            have ta : s.2.2.1 16 k = nI (tlk d t k) := by
              rw [i3]
              exact hT k hk
            have ha := r_has (t := t) (a := k) ok hb6
            have lrr : rm (rm l k) b < 2 ^ lH d := (g_h (lH d) (by omega) (rm l k) ((g_h (lH d) (by omega) l l2).2 k hk)).2 b hb
            have p1 : s.2.2.1 17 (rm (rm l k) b) = nI (mo (adjD d t) (rm (rm l k) b)) := by
              rw [i4]
              exact hP _ lrr
            have p2 : s.2.2.1 17 l = nI (mo (adjD d t) l) := by
              rw [i4]
              exact hP _ l2
            have ml := mo_le (adjD d t) (rm (rm l k) b) (by omega)
            have es : sel (adjD d t) l k (b + 1) = if k < b ∧ (rm l k).testBit b = true ∧ adjD d t k b = true ∧ 1 + mo (adjD d t) (rm (rm l k) b) = mo (adjD d t) l then some b else none := by
              rw [sel, h3]
            rw [r3b] at es
            have nxt : sel (adjD d t) l k (b + 1) = none → X9_marry_L309 (nI k) (f + 1) (nI l) (nI b) s.2 = X9_marry_L309 (nI k) f (nI l) (nI (b + 1)) s.2 → ∃ W, X9_marry_L309 (nI k) (f + 1) (nI l) (nI b) s.2 = some (nI (match sel (adjD d t) l k (lH d) with | some c => rm (rm l k) c | none => l), W) ∧ Fr m W ∧ W.2.1 16 = Z.2.1 16 ∧ W.2.1 17 = Z.2.1 17 ∧ ∀ a, a < lH d → W.2.1 18 a = (match sel (adjD d t) l k (lH d) with | some c => upN (upN (pst (adjD d t) k).2 k (nI c)) c (nI k) a | none => (pst (adjD d t) k).2 a) := fun e1 e2 => by
              rw [e2]
              exact ih (b + 1) f (by omega) (by omega) (by omega) e1
            cases c1 : l.testBit b
            · rw [c1] at hb1 es
              have hb1 : X9_has (nI l) (nI b) = nI 0 := hb1
              refine nxt (by rw [es, if_neg (fun z => by cases z.2.1)]) ?_
              simp (disch := omega) only [X9_marry_L309, f0.1, hk1, hb1, li0, li1, li2, li3, li4, li5, li6, li7, li8, li11, li12, li16, li24, li25, li26, li31, li32, li36, li40, li48, li52, li58, li59, li60, li63, li64, li88, li96, li130, li192, li255, li2208, li2304, li9999, li9, li13, li14, li30, li35, li44, li45, li46, li47, li97, li98, li100, li101, li104, li105, li108, li110, li111, li112, li114, li117, li122, li999999, li1000000, li2147483647, cmp0, cmpl, cmpg, cmple, cmpge, nI_leI, nI_ltI, nI_eq, rL, rI, wL, wI, ob, aLet, nI_add, pk_mul, ↓reduceIte, if_true, if_false, eq_self, Nat.reduceEqDiff, Nat.reduceLeDiff, Nat.reduceLT, Nat.one_ne_zero, Nat.zero_ne_one, Nat.add_zero, Bool.false_eq_true, nI_neq, hb']
            · rw [c1] at hb1
              have hb1 : X9_has (nI l) (nI b) = nI 1 := hb1
              cases c2 : adjD d t k b
              · rw [c2] at ha es
                have ha : X9_has (nI (tlk d t k)) (nI b) = nI 0 := ha
                refine nxt (by rw [es, if_neg (fun z => by cases z.2.2.1)]) ?_
                simp (disch := omega) only [X9_marry_L309, f0.1, hk1, hb1, ta, ha, li0, li1, li2, li3, li4, li5, li6, li7, li8, li11, li12, li16, li24, li25, li26, li31, li32, li36, li40, li48, li52, li58, li59, li60, li63, li64, li88, li96, li130, li192, li255, li2208, li2304, li9999, li9, li13, li14, li30, li35, li44, li45, li46, li47, li97, li98, li100, li101, li104, li105, li108, li110, li111, li112, li114, li117, li122, li999999, li1000000, li2147483647, cmp0, cmpl, cmpg, cmple, cmpge, nI_leI, nI_ltI, nI_eq, rL, rI, wL, wI, ob, aLet, nI_add, pk_mul, ↓reduceIte, if_true, if_false, eq_self, Nat.reduceEqDiff, Nat.reduceLeDiff, Nat.reduceLT, Nat.one_ne_zero, Nat.zero_ne_one, Nat.add_zero, Bool.false_eq_true, nI_neq, hb']
              · rw [c2] at ha
                have ha : X9_has (nI (tlk d t k)) (nI b) = nI 1 := ha
                by_cases w : 1 + mo (adjD d t) (rm (rm l k) b) = mo (adjD d t) l
                · rw [if_pos ⟨h0, c1, c2, w⟩] at es
                  have kp := sel_keep es (lH d - (b + 1))
                  rw [show b + 1 + (lH d - (b + 1)) = lH d by omega] at kp
                  rw [kp]
                  have g18 : ∀ Y f, (sA Y 18 f).2.1 18 = f := fun Y f => rfl
                  have hk2 := (g_rm (rm (rm l k) b) (by omega) k hk6).2.2.1
                  rw [r3.2.1] at hk2
                  have hk2 : X9_has (nI (rm (rm l k) b)) (nI k) = nI 0 := hk2
                  have fW : RowOf d ((sA (sA s.2 18 (upd (s.2.2.1 18) k (nI b))) 18 (upd (upd (s.2.2.1 18) k (nI b)) b (nI k))).2.1 0) := f0
                  have exit : X9_marry_L309 (nI k) f (nI (rm (rm l k) b)) (nI (b + 1)) (sA (sA s.2 18 (upd (s.2.2.1 18) k (nI b))) 18 (upd (upd (s.2.2.1 18) k (nI b)) b (nI k))) = some (nI (rm (rm l k) b), sA (sA s.2 18 (upd (s.2.2.1 18) k (nI b))) 18 (upd (upd (s.2.2.1 18) k (nI b)) b (nI k))) := by
                    obtain ⟨f, rfl⟩ : ∃ z, f = z + 1 := ⟨f - 1, by omega⟩
                    by_cases last : lH d ≤ b + 1
                    · simp (disch := omega) only [X9_marry_L309, fW.1, last, li0, li1, li2, li3, li4, li5, li6, li7, li8, li11, li12, li16, li24, li25, li26, li31, li32, li36, li40, li48, li52, li58, li59, li60, li63, li64, li88, li96, li130, li192, li255, li2208, li2304, li9999, li9, li13, li14, li30, li35, li44, li45, li46, li47, li97, li98, li100, li101, li104, li105, li108, li110, li111, li112, li114, li117, li122, li999999, li1000000, li2147483647, cmp0, cmpl, cmpg, cmple, cmpge, nI_leI, nI_ltI, nI_eq, rL, rI, wL, wI, ob, aLet, nI_add, pk_mul, ↓reduceIte, if_true, if_false, eq_self, Nat.reduceEqDiff, Nat.reduceLeDiff, Nat.reduceLT, Nat.one_ne_zero, Nat.zero_ne_one, Nat.add_zero, Bool.false_eq_true, nI_neq]
                    · simp (disch := omega) only [X9_marry_L309, fW.1, last, hk2, li0, li1, li2, li3, li4, li5, li6, li7, li8, li11, li12, li16, li24, li25, li26, li31, li32, li36, li40, li48, li52, li58, li59, li60, li63, li64, li88, li96, li130, li192, li255, li2208, li2304, li9999, li9, li13, li14, li30, li35, li44, li45, li46, li47, li97, li98, li100, li101, li104, li105, li108, li110, li111, li112, li114, li117, li122, li999999, li1000000, li2147483647, cmp0, cmpl, cmpg, cmple, cmpge, nI_leI, nI_ltI, nI_eq, rL, rI, wL, wI, ob, aLet, nI_add, pk_mul, ↓reduceIte, if_true, if_false, eq_self, Nat.reduceEqDiff, Nat.reduceLeDiff, Nat.reduceLT, Nat.one_ne_zero, Nat.zero_ne_one, Nat.add_zero, Bool.false_eq_true, nI_neq]
                  refine ⟨sA (sA s.2 18 (upd (s.2.2.1 18) k (nI b))) 18 (upd (upd (s.2.2.1 18) k (nI b)) b (nI k)), ?_, Fr_A (Fr_A i2 (by omega)) (by omega), i3, i4, fun a ha' => ?_⟩
                  · rw [← exit]
                    simp (disch := omega) only [X9_marry_L309, f0.1, hk1, hb1, ta, ha, rr, p1, p2, w, g18, li0, li1, li2, li3, li4, li5, li6, li7, li8, li11, li12, li16, li24, li25, li26, li31, li32, li36, li40, li48, li52, li58, li59, li60, li63, li64, li88, li96, li130, li192, li255, li2208, li2304, li9999, li9, li13, li14, li30, li35, li44, li45, li46, li47, li97, li98, li100, li101, li104, li105, li108, li110, li111, li112, li114, li117, li122, li999999, li1000000, li2147483647, cmp0, cmpl, cmpg, cmple, cmpge, nI_leI, nI_ltI, nI_eq, rL, rI, wL, wI, ob, aLet, nI_add, pk_mul, ↓reduceIte, if_true, if_false, eq_self, Nat.reduceEqDiff, Nat.reduceLeDiff, Nat.reduceLT, Nat.one_ne_zero, Nat.zero_ne_one, Nat.add_zero, Bool.false_eq_true, nI_neq, hb']
                  · show upd (upd (s.2.2.1 18) k (nI b)) b (nI k) a = upN (upN (pst (adjD d t) k).2 k (nI b)) b (nI k) a
                    unfold upd upN
                    split
                    · rfl
                    · split
                      · rfl
                      · exact i5 a ha'
                · refine nxt (by rw [es, if_neg (fun z => w z.2.2.2)]) ?_
                  simp (disch := omega) only [X9_marry_L309, f0.1, hk1, hb1, ta, ha, rr, p1, p2, w, li0, li1, li2, li3, li4, li5, li6, li7, li8, li11, li12, li16, li24, li25, li26, li31, li32, li36, li40, li48, li52, li58, li59, li60, li63, li64, li88, li96, li130, li192, li255, li2208, li2304, li9999, li9, li13, li14, li30, li35, li44, li45, li46, li47, li97, li98, li100, li101, li104, li105, li108, li110, li111, li112, li114, li117, li122, li999999, li1000000, li2147483647, cmp0, cmpl, cmpg, cmple, cmpge, nI_leI, nI_ltI, nI_eq, rL, rI, wL, wI, ob, aLet, nI_add, pk_mul, ↓reduceIte, if_true, if_false, eq_self, Nat.reduceEqDiff, Nat.reduceLeDiff, Nat.reduceLT, Nat.one_ne_zero, Nat.zero_ne_one, Nat.add_zero, Bool.false_eq_true, nI_neq, hb']
        obtain ⟨W, w1, w2, w3, w4, w5⟩ := key (lH d - (k + 1)) (k + 1) aFu (by omega) (by omega) (by show _ < 100000; omega) (sel_early (Nat.le_refl _))
        have eqs : sel (adjD d t) l k (lH d) = sel (adjD d t) (pst (adjD d t) k).1 k 6 := by
          rw [← hl, ← sel_mod (by omega) hal pl hk (lH d) (Nat.le_refl _)]
          have := sel_late hal (g := (pst (adjD d t) k).1) (one := k) (6 - lH d)
          rw [show lH d + (6 - lH d) = 6 by omega] at this
          exact this.symm
        rw [eqs] at w1 w5
        have gone := gm2 k hk
        cases c : sel (adjD d t) (pst (adjD d t) k).1 k 6 with
        | none =>
          rw [c] at w1 w5
          have ea : aft (adjD d t) (pst (adjD d t) k) k = (rm (pst (adjD d t) k).1 k, (pst (adjD d t) k).2) := by
            unfold aft
            rw [c]
          refine ⟨(nI (rm l k), W), ?_, ?_, w2, w3, w4, ?_⟩
          · have w1 : X9_marry_L309 (nI k) aFu (nI l) (nI (k + 1)) s.2 = some (nI l, W) := w1
            simp (disch := omega) only [X9_marry_L292, f0.1, i1, w1, gr.1, li0, li1, li2, li3, li4, li5, li6, li7, li8, li11, li12, li16, li24, li25, li26, li31, li32, li36, li40, li48, li52, li58, li59, li60, li63, li64, li88, li96, li130, li192, li255, li2208, li2304, li9999, li9, li13, li14, li30, li35, li44, li45, li46, li47, li97, li98, li100, li101, li104, li105, li108, li110, li111, li112, li114, li117, li122, li999999, li1000000, li2147483647, cmp0, cmpl, cmpg, cmple, cmpge, nI_leI, nI_ltI, nI_eq, rL, rI, wL, wI, ob, aLet, nI_add, pk_mul, ↓reduceIte, if_true, if_false, eq_self, Nat.reduceEqDiff, Nat.reduceLeDiff, Nat.reduceLT, Nat.one_ne_zero, Nat.zero_ne_one, Nat.add_zero, Bool.false_eq_true, nI_neq, h]
          · show nI (rm l k) = nI ((pst (adjD d t) (k + 1)).1 % 2 ^ lH d)
            rw [ps, ea]
            exact congrArg nI gone.1.symm
          · rw [ps, ea]
            exact w5
        | some b =>
          rw [c] at w1 w5
          have sl := sel_lt c
          have bH : b < lH d := by
            rw [← eqs] at c
            exact (sel_lt c).2
          have ea : aft (adjD d t) (pst (adjD d t) k) k = (rm (rm (pst (adjD d t) k).1 k) b, upN (upN (pst (adjD d t) k).2 k (nI b)) b (nI k)) := by
            unfold aft
            rw [c]
          have r3 := g_rm3 l (by omega) k hk6 b (by omega)
          have r64 := g_rm (rm l k) (by omega) b (by omega)
          have grr := g_rm (rm (rm l k) b) (by omega) k hk6
          have same := (g_rm3 (rm (rm l k) b) (by omega) k hk6 k hk6).2.2
          have same : rm (rm (rm l k) b) k = rm (rm l k) b := by
            rcases same with z | z
            · rw [r3.2.1] at z
              cases z
            · exact z
          refine ⟨(nI (rm (rm l k) b), W), ?_, ?_, w2, w3, w4, ?_⟩
          · have w1 : X9_marry_L309 (nI k) aFu (nI l) (nI (k + 1)) s.2 = some (nI (rm (rm l k) b), W) := w1
            have g1' := grr.1
            rw [same] at g1'
            simp (disch := omega) only [X9_marry_L292, f0.1, i1, w1, g1', li0, li1, li2, li3, li4, li5, li6, li7, li8, li11, li12, li16, li24, li25, li26, li31, li32, li36, li40, li48, li52, li58, li59, li60, li63, li64, li88, li96, li130, li192, li255, li2208, li2304, li9999, li9, li13, li14, li30, li35, li44, li45, li46, li47, li97, li98, li100, li101, li104, li105, li108, li110, li111, li112, li114, li117, li122, li999999, li1000000, li2147483647, cmp0, cmpl, cmpg, cmple, cmpge, nI_leI, nI_ltI, nI_eq, rL, rI, wL, wI, ob, aLet, nI_add, pk_mul, ↓reduceIte, if_true, if_false, eq_self, Nat.reduceEqDiff, Nat.reduceLeDiff, Nat.reduceLT, Nat.one_ne_zero, Nat.zero_ne_one, Nat.add_zero, Bool.false_eq_true, nI_neq, h]
          · show nI (rm (rm l k) b) = nI ((pst (adjD d t) (k + 1)).1 % 2 ^ lH d)
            rw [ps, ea]
            have g1 := g_rm (pst (adjD d t) k).1 pl k hk6
            have := (g_mod2 (lH d) (by omega) (rm (pst (adjD d t) k).1 k) (by omega) b bH).1
            show nI (rm (rm l k) b) = nI (rm (rm (pst (adjD d t) k).1 k) b % 2 ^ lH d)
            rw [this, gone.1]
          · rw [ps, ea]
            exact w5
      · have q : (pst (adjD d t) k).1.testBit k = false := by simpa using q
        have ql : l.testBit k = false := by rw [(gm2 k hk).2, q]
        rw [if_neg (by rw [q]; decide)] at ps
        have hk1 := gr.2.2.1
        rw [ql] at hk1
        have hk1 : X9_has (nI l) (nI k) = nI 0 := hk1
        have same : rm l k = l := by
          unfold rm
          rw [if_neg (by rw [ql]; decide)]
        have exitF : ∀ f, X9_marry_L309 (nI k) (f + 1) (nI l) (nI (k + 1)) s.2 = some (nI l, s.2) := fun f => by
          by_cases last : lH d ≤ k + 1
          · simp (disch := omega) only [X9_marry_L309, f0.1, last, li0, li1, li2, li3, li4, li5, li6, li7, li8, li11, li12, li16, li24, li25, li26, li31, li32, li36, li40, li48, li52, li58, li59, li60, li63, li64, li88, li96, li130, li192, li255, li2208, li2304, li9999, li9, li13, li14, li30, li35, li44, li45, li46, li47, li97, li98, li100, li101, li104, li105, li108, li110, li111, li112, li114, li117, li122, li999999, li1000000, li2147483647, cmp0, cmpl, cmpg, cmple, cmpge, nI_leI, nI_ltI, nI_eq, rL, rI, wL, wI, ob, aLet, nI_add, pk_mul, ↓reduceIte, if_true, if_false, eq_self, Nat.reduceEqDiff, Nat.reduceLeDiff, Nat.reduceLT, Nat.one_ne_zero, Nat.zero_ne_one, Nat.add_zero, Bool.false_eq_true, nI_neq]
          · simp (disch := omega) only [X9_marry_L309, f0.1, last, hk1, li0, li1, li2, li3, li4, li5, li6, li7, li8, li11, li12, li16, li24, li25, li26, li31, li32, li36, li40, li48, li52, li58, li59, li60, li63, li64, li88, li96, li130, li192, li255, li2208, li2304, li9999, li9, li13, li14, li30, li35, li44, li45, li46, li47, li97, li98, li100, li101, li104, li105, li108, li110, li111, li112, li114, li117, li122, li999999, li1000000, li2147483647, cmp0, cmpl, cmpg, cmple, cmpge, nI_leI, nI_ltI, nI_eq, rL, rI, wL, wI, ob, aLet, nI_add, pk_mul, ↓reduceIte, if_true, if_false, eq_self, Nat.reduceEqDiff, Nat.reduceLeDiff, Nat.reduceLT, Nat.one_ne_zero, Nat.zero_ne_one, Nat.add_zero, Bool.false_eq_true, nI_neq]
        have exit : X9_marry_L309 (nI k) aFu (nI l) (nI (k + 1)) s.2 = some (nI l, s.2) := exitF 99999
        have g1' := gr.1
        rw [same] at g1'
        refine ⟨(nI l, s.2), ?_, by rw [ps, hl], i2, i3, i4, by rw [ps]; exact i5⟩
        simp (disch := omega) only [X9_marry_L292, f0.1, i1, exit, g1', li0, li1, li2, li3, li4, li5, li6, li7, li8, li11, li12, li16, li24, li25, li26, li31, li32, li36, li40, li48, li52, li58, li59, li60, li63, li64, li88, li96, li130, li192, li255, li2208, li2304, li9999, li9, li13, li14, li30, li35, li44, li45, li46, li47, li97, li98, li100, li101, li104, li105, li108, li110, li111, li112, li114, li117, li122, li999999, li1000000, li2147483647, cmp0, cmpl, cmpg, cmple, cmpge, nI_leI, nI_ltI, nI_eq, rL, rI, wL, wI, ob, aLet, nI_add, pk_mul, ↓reduceIte, if_true, if_false, eq_self, Nat.reduceEqDiff, Nat.reduceLeDiff, Nat.reduceLT, Nat.one_ne_zero, Nat.zero_ne_one, Nat.add_zero, Bool.false_eq_true, nI_neq, h]) (fun n s hI => ⟨s.2, by
      have f0 : RowOf d (s.2.2.1 0) := by
        rw [hI.2.1.2.2.1]
        exact hf
      simp (disch := omega) only [X9_marry_L292, f0.1, li0, li1, li2, li3, li4, li5, li6, li7, li8, li11, li12, li16, li24, li25, li26, li31, li32, li36, li40, li48, li52, li58, li59, li60, li63, li64, li88, li96, li130, li192, li255, li2208, li2304, li9999, li9, li13, li14, li30, li35, li44, li45, li46, li47, li97, li98, li100, li101, li104, li105, li108, li110, li111, li112, li114, li117, li122, li999999, li1000000, li2147483647, cmp0, cmpl, cmpg, cmple, cmpge, nI_leI, nI_ltI, nI_eq, rL, rI, wL, wI, ob, aLet, nI_add, pk_mul, ↓reduceIte, if_true, if_false, eq_self, Nat.reduceEqDiff, Nat.reduceLeDiff, Nat.reduceLT, Nat.one_ne_zero, Nat.zero_ne_one, Nat.add_zero, Bool.false_eq_true, nI_neq, Nat.le_refl], hI.2.1, hI.2.2.2.1, hI.2.2.2.2⟩) (lH d) 0 aFu (nI (2 ^ lH d - 1), Z) (by omega) (by show _ < 100000; omega) ⟨by
      show _ = nI (63 % 2 ^ lH d)
      rw [(g_all (lH d) (by omega)).2.1], hF, rfl, rfl, hM⟩
  exact ⟨Y, y1, y2⟩
theorem q_marry {d : LD} {S R m : Rec} (ok : okL d) (hS : LandOf d S) (hf : RowOf d (m.2.1 0)) (x1 x2 : Int32) : ∃ r R' m', X8_marry S R x1 x2 = some (r, R') ∧ X9_marry m x1 x2 = some (r, m') ∧ Fr m m' := by
  have h6 := ok.1
  have h64 : 2 ^ lH d ≤ 2 ^ 6 := Nat.pow_le_pow_right (by decide) h6
  have st := c_stands ok hS
  have th := r_there ok hf
  have hal : ∀ t a b, adjD d t a b = true → a < lH d ∧ b < lH d := fun t a b h => adj_lt h
  -- who is asked for
  have who : x1 = -nI 4 ∨ (¬ x1 = -nI 4 ∧ X2_hasHolder S x1 = nI 0 ∧ X9_isHolder m x1 = some (nI 0)) ∨ ∃ i, i < lH d ∧ x1 = nI i ∧ X2_hasHolder S (nI i) = nI 1 ∧ X9_isHolder m (nI i) = some (nI 1) := by
    by_cases y : x1 = -nI 4
    · exact Or.inl y
    · rcases hcase ok hS hf x1 with ⟨a, b⟩ | ⟨i, hi, rfl, a, b⟩
      · exact Or.inr (Or.inl ⟨y, a, b⟩)
      · exact Or.inr (Or.inr ⟨i, hi, rfl, a, b⟩)
  rcases rg_1_5 x2 with ⟨e, f, -⟩ | ⟨t, ht1, ht, rfl, e, f⟩
  · refine ⟨-nI 1, R, m, ?_, ?_, Fr_refl m⟩
    · rcases who with rfl | ⟨y, a, b⟩ | ⟨i, hi, rfl, a, b⟩
      · simp (disch := omega) only [X8_marry, X8_marry_J17, e, li0, li1, li2, li3, li4, li5, li6, li7, li8, li11, li12, li16, li24, li25, li26, li31, li32, li36, li40, li48, li52, li58, li59, li60, li63, li64, li88, li96, li130, li192, li255, li2208, li2304, li9999, li9, li13, li14, li30, li35, li44, li45, li46, li47, li97, li98, li100, li101, li104, li105, li108, li110, li111, li112, li114, li117, li122, li999999, li1000000, li2147483647, cmp0, cmpl, cmpg, cmple, cmpge, nI_leI, nI_ltI, nI_eq, rL, rI, wL, wI, ob, aLet, nI_add, pk_mul, ↓reduceIte, if_true, if_false, eq_self, Nat.reduceEqDiff, Nat.reduceLeDiff, Nat.reduceLT, Nat.one_ne_zero, Nat.zero_ne_one, Nat.add_zero, Bool.false_eq_true, nI_neq]
      · simp (disch := omega) only [X8_marry, a, y, li0, li1, li2, li3, li4, li5, li6, li7, li8, li11, li12, li16, li24, li25, li26, li31, li32, li36, li40, li48, li52, li58, li59, li60, li63, li64, li88, li96, li130, li192, li255, li2208, li2304, li9999, li9, li13, li14, li30, li35, li44, li45, li46, li47, li97, li98, li100, li101, li104, li105, li108, li110, li111, li112, li114, li117, li122, li999999, li1000000, li2147483647, cmp0, cmpl, cmpg, cmple, cmpge, nI_leI, nI_ltI, nI_eq, rL, rI, wL, wI, ob, aLet, nI_add, pk_mul, ↓reduceIte, if_true, if_false, eq_self, Nat.reduceEqDiff, Nat.reduceLeDiff, Nat.reduceLT, Nat.one_ne_zero, Nat.zero_ne_one, Nat.add_zero, Bool.false_eq_true, nI_neq]
      · simp (disch := omega) only [X8_marry, X8_marry_J17, a, e, li0, li1, li2, li3, li4, li5, li6, li7, li8, li11, li12, li16, li24, li25, li26, li31, li32, li36, li40, li48, li52, li58, li59, li60, li63, li64, li88, li96, li130, li192, li255, li2208, li2304, li9999, li9, li13, li14, li30, li35, li44, li45, li46, li47, li97, li98, li100, li101, li104, li105, li108, li110, li111, li112, li114, li117, li122, li999999, li1000000, li2147483647, cmp0, cmpl, cmpg, cmple, cmpge, nI_leI, nI_ltI, nI_eq, rL, rI, wL, wI, ob, aLet, nI_add, pk_mul, ↓reduceIte, if_true, if_false, eq_self, Nat.reduceEqDiff, Nat.reduceLeDiff, Nat.reduceLT, Nat.one_ne_zero, Nat.zero_ne_one, Nat.add_zero, Bool.false_eq_true, nI_neq]
    · simp (disch := omega) only [X9_marry, f, li0, li1, li2, li3, li4, li5, li6, li7, li8, li11, li12, li16, li24, li25, li26, li31, li32, li36, li40, li48, li52, li58, li59, li60, li63, li64, li88, li96, li130, li192, li255, li2208, li2304, li9999, li9, li13, li14, li30, li35, li44, li45, li46, li47, li97, li98, li100, li101, li104, li105, li108, li110, li111, li112, li114, li117, li122, li999999, li1000000, li2147483647, cmp0, cmpl, cmpg, cmple, cmpge, nI_leI, nI_ltI, nI_eq, rL, rI, wL, wI, ob, aLet, nI_add, pk_mul, ↓reduceIte, if_true, if_false, eq_self, Nat.reduceEqDiff, Nat.reduceLeDiff, Nat.reduceLT, Nat.one_ne_zero, Nat.zero_ne_one, Nat.add_zero, Bool.false_eq_true, nI_neq]
  rcases who with rfl | ⟨y, a, b⟩ | ⟨i, hi, rfl, a, b⟩
  · by_cases h0 : lH d = 0
    · rw [if_pos h0] at st th
      refine ⟨-nI 2, R, m, ?_, ?_, Fr_refl m⟩
      · simp (disch := omega) only [X8_marry, X8_marry_J17, e, st, li0, li1, li2, li3, li4, li5, li6, li7, li8, li11, li12, li16, li24, li25, li26, li31, li32, li36, li40, li48, li52, li58, li59, li60, li63, li64, li88, li96, li130, li192, li255, li2208, li2304, li9999, li9, li13, li14, li30, li35, li44, li45, li46, li47, li97, li98, li100, li101, li104, li105, li108, li110, li111, li112, li114, li117, li122, li999999, li1000000, li2147483647, cmp0, cmpl, cmpg, cmple, cmpge, nI_leI, nI_ltI, nI_eq, rL, rI, wL, wI, ob, aLet, nI_add, pk_mul, ↓reduceIte, if_true, if_false, eq_self, Nat.reduceEqDiff, Nat.reduceLeDiff, Nat.reduceLT, Nat.one_ne_zero, Nat.zero_ne_one, Nat.add_zero, Bool.false_eq_true, nI_neq]
      · simp (disch := omega) only [X9_marry, X9_marry_J28, f, th, li0, li1, li2, li3, li4, li5, li6, li7, li8, li11, li12, li16, li24, li25, li26, li31, li32, li36, li40, li48, li52, li58, li59, li60, li63, li64, li88, li96, li130, li192, li255, li2208, li2304, li9999, li9, li13, li14, li30, li35, li44, li45, li46, li47, li97, li98, li100, li101, li104, li105, li108, li110, li111, li112, li114, li117, li122, li999999, li1000000, li2147483647, cmp0, cmpl, cmpg, cmple, cmpge, nI_leI, nI_ltI, nI_eq, rL, rI, wL, wI, ob, aLet, nI_add, pk_mul, ↓reduceIte, if_true, if_false, eq_self, Nat.reduceEqDiff, Nat.reduceLeDiff, Nat.reduceLT, Nat.one_ne_zero, Nat.zero_ne_one, Nat.add_zero, Bool.false_eq_true, nI_neq]
    rw [if_neg h0] at st th
    obtain ⟨R', c1, c2, c3⟩ := c_arrange (R := R) ok hS ht
    obtain ⟨Z, z1, z2, z3, z4⟩ := r_talks ok hf ht
    obtain ⟨Y, y1, y2, y3, y4, y5⟩ := r_pairs (t := t) (Z := sA Z 17 (upd (Z.2.1 17) 0 (nI 0))) ok hf (Fr_A z2 (by omega)) z3 (by show upd (Z.2.1 17) 0 (nI 0) 0 = _; rw [pk_us])
    obtain ⟨W, w1, w2, w3, w4⟩ := r_left (t := t) (Z := Y) ok hf y2 (fun a ha => by rw [y3]; exact z3 a ha) (fun a ha => by rw [y4]; exact z4 a ha) y5
    have ga := g_all (lH d) (by omega)
    have f0 : RowOf d (Z.2.1 0) := by
      rw [z2.2.2.1]
      exact hf
    have g0 : ∀ f, (sA Z 17 f).2.1 0 = Z.2.1 0 := fun f => rfl
    have pa : W.2.1 17 (2 ^ lH d - 1) = nI (mo (adjD d t) 63) := by
      rw [w3, y5 _ (by have := Nat.two_pow_pos (lH d); omega), mo_mod (by omega) (hal t) 63 (by decide), ga.2.1]
    refine ⟨nI (mo (adjD d t) 63), R', W, ?_, ?_, w2⟩
    · have : X3_pairs R' = nI (mo (adjD d t) 63) := c2
      simp (disch := omega) only [X8_marry, X8_marry_J17, e, st, c1, this, li0, li1, li2, li3, li4, li5, li6, li7, li8, li11, li12, li16, li24, li25, li26, li31, li32, li36, li40, li48, li52, li58, li59, li60, li63, li64, li88, li96, li130, li192, li255, li2208, li2304, li9999, li9, li13, li14, li30, li35, li44, li45, li46, li47, li97, li98, li100, li101, li104, li105, li108, li110, li111, li112, li114, li117, li122, li999999, li1000000, li2147483647, cmp0, cmpl, cmpg, cmple, cmpge, nI_leI, nI_ltI, nI_eq, rL, rI, wL, wI, ob, aLet, nI_add, pk_mul, ↓reduceIte, if_true, if_false, eq_self, Nat.reduceEqDiff, Nat.reduceLeDiff, Nat.reduceLT, Nat.one_ne_zero, Nat.zero_ne_one, Nat.add_zero, Bool.false_eq_true, nI_neq]
    · simp (disch := omega) only [X9_marry, X9_marry_J28, f, th, z1, g0, f0.1, ga.1, y1, w1, pa, li0, li1, li2, li3, li4, li5, li6, li7, li8, li11, li12, li16, li24, li25, li26, li31, li32, li36, li40, li48, li52, li58, li59, li60, li63, li64, li88, li96, li130, li192, li255, li2208, li2304, li9999, li9, li13, li14, li30, li35, li44, li45, li46, li47, li97, li98, li100, li101, li104, li105, li108, li110, li111, li112, li114, li117, li122, li999999, li1000000, li2147483647, cmp0, cmpl, cmpg, cmple, cmpge, nI_leI, nI_ltI, nI_eq, rL, rI, wL, wI, ob, aLet, nI_add, pk_mul, ↓reduceIte, if_true, if_false, eq_self, Nat.reduceEqDiff, Nat.reduceLeDiff, Nat.reduceLT, Nat.one_ne_zero, Nat.zero_ne_one, Nat.add_zero, Bool.false_eq_true, nI_neq]
  · refine ⟨-nI 1, R, m, ?_, ?_, Fr_refl m⟩
    · simp (disch := omega) only [X8_marry, a, y, li0, li1, li2, li3, li4, li5, li6, li7, li8, li11, li12, li16, li24, li25, li26, li31, li32, li36, li40, li48, li52, li58, li59, li60, li63, li64, li88, li96, li130, li192, li255, li2208, li2304, li9999, li9, li13, li14, li30, li35, li44, li45, li46, li47, li97, li98, li100, li101, li104, li105, li108, li110, li111, li112, li114, li117, li122, li999999, li1000000, li2147483647, cmp0, cmpl, cmpg, cmple, cmpge, nI_leI, nI_ltI, nI_eq, rL, rI, wL, wI, ob, aLet, nI_add, pk_mul, ↓reduceIte, if_true, if_false, eq_self, Nat.reduceEqDiff, Nat.reduceLeDiff, Nat.reduceLT, Nat.one_ne_zero, Nat.zero_ne_one, Nat.add_zero, Bool.false_eq_true, nI_neq]
    · simp (disch := omega) only [X9_marry, f, b, y, li0, li1, li2, li3, li4, li5, li6, li7, li8, li11, li12, li16, li24, li25, li26, li31, li32, li36, li40, li48, li52, li58, li59, li60, li63, li64, li88, li96, li130, li192, li255, li2208, li2304, li9999, li9, li13, li14, li30, li35, li44, li45, li46, li47, li97, li98, li100, li101, li104, li105, li108, li110, li111, li112, li114, li117, li122, li999999, li1000000, li2147483647, cmp0, cmpl, cmpg, cmple, cmpge, nI_leI, nI_ltI, nI_eq, rL, rI, wL, wI, ob, aLet, nI_add, pk_mul, ↓reduceIte, if_true, if_false, eq_self, Nat.reduceEqDiff, Nat.reduceLeDiff, Nat.reduceLT, Nat.one_ne_zero, Nat.zero_ne_one, Nat.add_zero, Bool.false_eq_true, nI_neq]
  · have h0 : ¬ lH d = 0 := by omega
    rw [if_neg h0] at st th
    obtain ⟨R', c1, c2, c3⟩ := c_arrange (R := R) ok hS ht
    obtain ⟨Z, z1, z2, z3, z4⟩ := r_talks ok hf ht
    obtain ⟨Y, y1, y2, y3, y4, y5⟩ := r_pairs (t := t) (Z := sA Z 17 (upd (Z.2.1 17) 0 (nI 0))) ok hf (Fr_A z2 (by omega)) z3 (by show upd (Z.2.1 17) 0 (nI 0) 0 = _; rw [pk_us])
    obtain ⟨W, w1, w2, w3, w4⟩ := r_left (t := t) (Z := Y) ok hf y2 (fun a ha => by rw [y3]; exact z3 a ha) (fun a ha => by rw [y4]; exact z4 a ha) y5
    have ga := g_all (lH d) (by omega)
    have f0 : RowOf d (Z.2.1 0) := by
      rw [z2.2.2.1]
      exact hf
    have g0 : ∀ f, (sA Z 17 f).2.1 0 = Z.2.1 0 := fun f => rfl
    have late := pst_late (hal t) (6 - lH d)
    rw [show lH d + (6 - lH d) = 6 by omega] at late
    have c4 := c3 i (by omega)
    rw [late] at c4
    have w5 := w4 i hi
    have i0 : ¬ i < 0 := by omega
    have i6 : ¬ 6 ≤ i := by omega
    refine ⟨(pst (adjD d t) (lH d)).2 i, R', W, ?_, ?_, w2⟩
    · have : X3_mateOf R' (nI i) = some ((pst (adjD d t) (lH d)).2 i) := by
        simp (disch := omega) only [X3_mateOf, c4, i0, i6, li0, li1, li2, li3, li4, li5, li6, li7, li8, li11, li12, li16, li24, li25, li26, li31, li32, li36, li40, li48, li52, li58, li59, li60, li63, li64, li88, li96, li130, li192, li255, li2208, li2304, li9999, li9, li13, li14, li30, li35, li44, li45, li46, li47, li97, li98, li100, li101, li104, li105, li108, li110, li111, li112, li114, li117, li122, li999999, li1000000, li2147483647, cmp0, cmpl, cmpg, cmple, cmpge, nI_leI, nI_ltI, nI_eq, rL, rI, wL, wI, ob, aLet, nI_add, pk_mul, ↓reduceIte, if_true, if_false, eq_self, Nat.reduceEqDiff, Nat.reduceLeDiff, Nat.reduceLT, Nat.one_ne_zero, Nat.zero_ne_one, Nat.add_zero, Bool.false_eq_true, nI_neq]
      simp (disch := omega) only [X8_marry, X8_marry_J17, a, e, st, c1, this, li0, li1, li2, li3, li4, li5, li6, li7, li8, li11, li12, li16, li24, li25, li26, li31, li32, li36, li40, li48, li52, li58, li59, li60, li63, li64, li88, li96, li130, li192, li255, li2208, li2304, li9999, li9, li13, li14, li30, li35, li44, li45, li46, li47, li97, li98, li100, li101, li104, li105, li108, li110, li111, li112, li114, li117, li122, li999999, li1000000, li2147483647, cmp0, cmpl, cmpg, cmple, cmpge, nI_leI, nI_ltI, nI_eq, rL, rI, wL, wI, ob, aLet, nI_add, pk_mul, ↓reduceIte, if_true, if_false, eq_self, Nat.reduceEqDiff, Nat.reduceLeDiff, Nat.reduceLT, Nat.one_ne_zero, Nat.zero_ne_one, Nat.add_zero, Bool.false_eq_true, nI_neq]
    · simp (disch := omega) only [X9_marry, X9_marry_J28, f, b, th, z1, g0, f0.1, ga.1, y1, w1, w5, li0, li1, li2, li3, li4, li5, li6, li7, li8, li11, li12, li16, li24, li25, li26, li31, li32, li36, li40, li48, li52, li58, li59, li60, li63, li64, li88, li96, li130, li192, li255, li2208, li2304, li9999, li9, li13, li14, li30, li35, li44, li45, li46, li47, li97, li98, li100, li101, li104, li105, li108, li110, li111, li112, li114, li117, li122, li999999, li1000000, li2147483647, cmp0, cmpl, cmpg, cmple, cmpge, nI_leI, nI_ltI, nI_eq, rL, rI, wL, wI, ob, aLet, nI_add, pk_mul, ↓reduceIte, if_true, if_false, eq_self, Nat.reduceEqDiff, Nat.reduceLeDiff, Nat.reduceLT, Nat.one_ne_zero, Nat.zero_ne_one, Nat.add_zero, Bool.false_eq_true, nI_neq]
theorem eq_marry {c : CSt} {m : Rec} (hI : Inv c m) (x1 : Int32) (x2 : Int32) : ∃ (r : Int32) (c1 : CSt) (m1 : Rec), stC_marry c x1 x2 = some (r, c1) ∧ stM_marry m x1 x2 = some (r, m1) ∧ Inv c1 m1 := by
  obtain ⟨d, ok, hy, hS, hf⟩ := hI.1
  obtain ⟨r, R', m', a, b, hF⟩ := q_marry (R := c_marriages c) ok hS hf x1 x2
  exact ⟨r, _, m', by unfold stC_marry; rw [a]; rfl, by unfold stM_marry; rw [b]; rfl, inv_fr hI hF (c_trial c) (c_earlier c) (c_sets c) (c_survey c) R' (c_finder c)⟩
