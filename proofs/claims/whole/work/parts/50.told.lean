/-! the calls that only look -/
theorem eq_holder {c : CSt} {m : Rec} (hI : Inv c m) (x1 : Int32) (x2 : Int32) : ∃ (r : Int32) (c1 : CSt) (m1 : Rec), stC_holder c x1 x2 = some (r, c1) ∧ stM_holder m x1 x2 = some (r, m1) ∧ Inv c1 m1 := by
  obtain ⟨d, ok, hy, hS, hf⟩ := hI.1
  obtain ⟨r, a, b⟩ := q_holder ok hS hf x1 x2
  exact ⟨r, c, m, by unfold stC_holder; rw [a]; rfl, by unfold stM_holder; rw [b]; rfl, hI⟩
theorem eq_cell {c : CSt} {m : Rec} (hI : Inv c m) (x1 : Int32) (x2 : Int32) : ∃ (r : Int32) (c1 : CSt) (m1 : Rec), stC_cell c x1 x2 = some (r, c1) ∧ stM_cell m x1 x2 = some (r, m1) ∧ Inv c1 m1 := by
  obtain ⟨d, ok, hy, hS, hf⟩ := hI.1
  obtain ⟨r, a, b⟩ := q_cell ok hS hf x1 x2
  exact ⟨r, c, m, by unfold stC_cell; rw [a]; rfl, by unfold stM_cell; rw [b]; rfl, hI⟩
theorem eq_word {c : CSt} {m : Rec} (hI : Inv c m) (x1 : Int32) (x2 : Int32) : ∃ (r : Int32) (c1 : CSt) (m1 : Rec), stC_word c x1 x2 = some (r, c1) ∧ stM_word m x1 x2 = some (r, m1) ∧ Inv c1 m1 := by
  obtain ⟨d, ok, hy, hS, hf⟩ := hI.1
  obtain ⟨r, a, b⟩ := q_word ok hS hf x1 x2
  exact ⟨r, c, m, by unfold stC_word; rw [a]; rfl, by unfold stM_word; rw [b]; rfl, hI⟩
theorem eq_as {c : CSt} {m : Rec} (hI : Inv c m) (x1 : Int32) (x2 : Int32) : ∃ (r : Int32) (c1 : CSt) (m1 : Rec), stC_as c x1 x2 = some (r, c1) ∧ stM_as m x1 x2 = some (r, m1) ∧ Inv c1 m1 := by
  obtain ⟨d, ok, hy, hS, hf⟩ := hI.1
  obtain ⟨r, a, b⟩ := q_as ok hS hf x1 x2
  exact ⟨r, c, m, by unfold stC_as; rw [a]; rfl, by unfold stM_as; rw [b]; rfl, hI⟩
theorem eq_talk {c : CSt} {m : Rec} (hI : Inv c m) (x1 : Int32) (x2 : Int32) : ∃ (r : Int32) (c1 : CSt) (m1 : Rec), stC_talk c x1 x2 = some (r, c1) ∧ stM_talk m x1 x2 = some (r, m1) ∧ Inv c1 m1 := by
  obtain ⟨d, ok, hy, hS, hf⟩ := hI.1
  obtain ⟨r, a, b⟩ := q_talk ok hS hf x1 x2
  exact ⟨r, c, m, by unfold stC_talk; rw [a]; rfl, by unfold stM_talk; rw [b]; rfl, hI⟩
theorem eq_letters {c : CSt} {m : Rec} (hI : Inv c m) (x1 : Int32) (x2 : Int32) (x3 : Int32) : ∃ (r : Int32) (c1 : CSt) (m1 : Rec), stC_letters c x1 x2 x3 = some (r, c1) ∧ stM_letters m x1 x2 x3 = some (r, m1) ∧ Inv c1 m1 := by
  obtain ⟨d, ok, hy, hS, hf⟩ := hI.1
  obtain ⟨r, a, b⟩ := q_letters ok hS hf x1 x2 x3
  exact ⟨r, c, m, by unfold stC_letters; rw [a]; rfl, by unfold stM_letters; rw [b]; rfl, hI⟩
theorem eq_count {c : CSt} {m : Rec} (hI : Inv c m) (x1 : Int32) : ∃ (r : Int32) (c1 : CSt) (m1 : Rec), stC_count c x1 = some (r, c1) ∧ stM_count m x1 = some (r, m1) ∧ Inv c1 m1 := by
  obtain ⟨d, ok, hy, hS, hf⟩ := hI.1
  obtain ⟨k, -, t1, t2, -⟩ := hI.2.1
  obtain ⟨a', k', -, -, -, p1, p2, -⟩ := hI.2.2.1
  obtain ⟨r, a, b⟩ := q_count (lf := (c_D c).1) ok hS hf (p1.trans p2.symm) (t1.trans t2.symm) x1
  exact ⟨r, c, m, by unfold stC_count; rw [a]; rfl, by unfold stM_count; rw [b]; rfl, hI⟩
/-! a byte comes -/
theorem eq_feed {c : CSt} {m : Rec} (hI : Inv c m) (x1 : Int32) : ∃ (r : Int32) (c1 : CSt) (m1 : Rec), stC_feed c x1 = some (r, c1) ∧ stM_feed m x1 = some (r, m1) ∧ Inv c1 m1 := by
  obtain ⟨k, hk, t1, t2, tb⟩ := hI.2.1
  have e0 : (m.1 6) = nI k := t2
  rcases rg_0_255 x1 with ⟨e, f, g⟩ | ⟨b, -, hb, rfl, e, f⟩
  · refine ⟨-nI 1, c, m, ?_, ?_, hI⟩
    · have : X8_feed (c_tape c) x1 = some (-nI 1, c_tape c) := by simp (disch := omega) only [X8_feed, e, li0, li1, li2, li3, li4, li5, li6, li7, li8, li11, li12, li16, li24, li25, li26, li31, li32, li36, li40, li48, li52, li58, li59, li60, li63, li64, li88, li96, li130, li192, li255, li2208, li2304, li9999, li9, li13, li14, li30, li35, li44, li45, li46, li47, li97, li98, li100, li101, li104, li105, li108, li110, li111, li112, li114, li117, li122, li999999, li1000000, li2147483647, cmp0, cmpl, cmpg, cmple, cmpge, nI_leI, nI_ltI, nI_eq, rL, rI, wL, wI, ob, aLet, nI_add, pk_mul, ↓reduceIte, if_true, if_false, eq_self, Nat.reduceEqDiff, Nat.reduceLeDiff, Nat.reduceLT, Nat.one_ne_zero, Nat.zero_ne_one, Nat.add_zero, Bool.false_eq_true, nI_neq]
      unfold stC_feed
      rw [this]
      rfl
    · have : X9_feed m x1 = some (-nI 1, m) := by simp (disch := omega) only [X9_feed, f, li0, li1, li2, li3, li4, li5, li6, li7, li8, li11, li12, li16, li24, li25, li26, li31, li32, li36, li40, li48, li52, li58, li59, li60, li63, li64, li88, li96, li130, li192, li255, li2208, li2304, li9999, li9, li13, li14, li30, li35, li44, li45, li46, li47, li97, li98, li100, li101, li104, li105, li108, li110, li111, li112, li114, li117, li122, li999999, li1000000, li2147483647, cmp0, cmpl, cmpg, cmple, cmpge, nI_leI, nI_ltI, nI_eq, rL, rI, wL, wI, ob, aLet, nI_add, pk_mul, ↓reduceIte, if_true, if_false, eq_self, Nat.reduceEqDiff, Nat.reduceLeDiff, Nat.reduceLT, Nat.one_ne_zero, Nat.zero_ne_one, Nat.add_zero, Bool.false_eq_true, nI_neq]
      unfold stM_feed
      rw [this]
      rfl
  · by_cases h : k = 130
    · refine ⟨-nI 3, c, m, ?_, ?_, hI⟩
      · have : X8_feed (c_tape c) (nI b) = some (-nI 3, c_tape c) := by
          have h1 : X7_append (c_tape c) (nI b) = some (nI 0, c_tape c) := by
            subst h
            unfold X7_append
            simp (disch := omega) only [t1, show (Int32.ofNat 130) = nI 130 from rfl, li0, li1, li2, li3, li4, li5, li6, li7, li8, li11, li12, li16, li24, li25, li26, li31, li32, li36, li40, li48, li52, li58, li59, li60, li63, li64, li88, li96, li130, li192, li255, li2208, li2304, li9999, li9, li13, li14, li30, li35, li44, li45, li46, li47, li97, li98, li100, li101, li104, li105, li108, li110, li111, li112, li114, li117, li122, li999999, li1000000, li2147483647, cmp0, cmpl, cmpg, cmple, cmpge, nI_leI, nI_ltI, nI_eq, rL, rI, wL, wI, ob, aLet, nI_add, pk_mul, ↓reduceIte, if_true, if_false, eq_self, Nat.reduceEqDiff, Nat.reduceLeDiff, Nat.reduceLT, Nat.one_ne_zero, Nat.zero_ne_one, Nat.add_zero, Bool.false_eq_true, nI_neq]
          simp (disch := omega) only [X8_feed, e, h1, li0, li1, li2, li3, li4, li5, li6, li7, li8, li11, li12, li16, li24, li25, li26, li31, li32, li36, li40, li48, li52, li58, li59, li60, li63, li64, li88, li96, li130, li192, li255, li2208, li2304, li9999, li9, li13, li14, li30, li35, li44, li45, li46, li47, li97, li98, li100, li101, li104, li105, li108, li110, li111, li112, li114, li117, li122, li999999, li1000000, li2147483647, cmp0, cmpl, cmpg, cmple, cmpge, nI_leI, nI_ltI, nI_eq, rL, rI, wL, wI, ob, aLet, nI_add, pk_mul, ↓reduceIte, if_true, if_false, eq_self, Nat.reduceEqDiff, Nat.reduceLeDiff, Nat.reduceLT, Nat.one_ne_zero, Nat.zero_ne_one, Nat.add_zero, Bool.false_eq_true, nI_neq]
        unfold stC_feed
        rw [this]
        rfl
      · have : X9_feed m (nI b) = some (-nI 3, m) := by simp (disch := omega) only [X9_feed, f, e0, h, li0, li1, li2, li3, li4, li5, li6, li7, li8, li11, li12, li16, li24, li25, li26, li31, li32, li36, li40, li48, li52, li58, li59, li60, li63, li64, li88, li96, li130, li192, li255, li2208, li2304, li9999, li9, li13, li14, li30, li35, li44, li45, li46, li47, li97, li98, li100, li101, li104, li105, li108, li110, li111, li112, li114, li117, li122, li999999, li1000000, li2147483647, cmp0, cmpl, cmpg, cmple, cmpge, nI_leI, nI_ltI, nI_eq, rL, rI, wL, wI, ob, aLet, nI_add, pk_mul, ↓reduceIte, if_true, if_false, eq_self, Nat.reduceEqDiff, Nat.reduceLeDiff, Nat.reduceLT, Nat.one_ne_zero, Nat.zero_ne_one, Nat.add_zero, Bool.false_eq_true, nI_neq]
        unfold stM_feed
        rw [this]
        rfl
    · have tape2 : TapeOf (sI (sA (c_tape c) 0 (upd ((c_tape c).2.1 0) k (nI b))) 1 (nI (k + 1))) (nI (k + 1)) (upd (m.2.1 5) k (nI b)) := by
        refine ⟨k + 1, by omega, rfl, rfl, fun i hi => ?_⟩
        show ∃ b', b' < 256 ∧ upd ((c_tape c).2.1 0) k (nI b) i = nI b' ∧ upd (m.2.1 5) k (nI b) i = nI b'
        by_cases z : i = k
        · subst z
          rw [pk_us, pk_us]
          exact ⟨b, by omega, rfl, rfl⟩
        · rw [pk_un z, pk_un z]
          exact tb i (by omega)
      refine ⟨nI (k + 1), (sI (sA (c_tape c) 0 (upd ((c_tape c).2.1 0) k (nI b))) 1 (nI (k + 1)), c_now c, c_past c, c_D c, c_trial c, c_earlier c, c_sets c, c_survey c, c_marriages c, c_finder c), sI (sA m 5 (upd (m.2.1 5) k (nI b))) 6 (nI (k + 1)), ?_, ?_, hI.1, tape2, hI.2.2⟩
      · have : X8_feed (c_tape c) (nI b) = some (nI (k + 1), sI (sA (c_tape c) 0 (upd ((c_tape c).2.1 0) k (nI b))) 1 (nI (k + 1))) := by
          have h1 : X7_append (c_tape c) (nI b) = some (nI 1, sI (sA (c_tape c) 0 (upd ((c_tape c).2.1 0) k (nI b))) 1 (nI (k + 1))) := by
            have h2 : ¬ nI k < nI 0 := nI_pos (by omega)
            have h3 : k < 130 := by omega
            have h4 : ∀ f, (sA (c_tape c) 0 f).1 1 = nI k := fun f => t1
            unfold X7_append
            simp (disch := omega) only [t1, show (Int32.ofNat 130) = nI 130 from rfl, li0, li1, li2, li3, li4, li5, li6, li7, li8, li11, li12, li16, li24, li25, li26, li31, li32, li36, li40, li48, li52, li58, li59, li60, li63, li64, li88, li96, li130, li192, li255, li2208, li2304, li9999, li9, li13, li14, li30, li35, li44, li45, li46, li47, li97, li98, li100, li101, li104, li105, li108, li110, li111, li112, li114, li117, li122, li999999, li1000000, li2147483647, cmp0, cmpl, cmpg, cmple, cmpge, nI_leI, nI_ltI, nI_eq, rL, rI, wL, wI, ob, aLet, nI_add, pk_mul, ↓reduceIte, if_true, if_false, eq_self, Nat.reduceEqDiff, Nat.reduceLeDiff, Nat.reduceLT, Nat.one_ne_zero, Nat.zero_ne_one, Nat.add_zero, Bool.false_eq_true, nI_neq, h2, h3, h4]
          simp (disch := omega) only [X8_feed, e, h1, li0, li1, li2, li3, li4, li5, li6, li7, li8, li11, li12, li16, li24, li25, li26, li31, li32, li36, li40, li48, li52, li58, li59, li60, li63, li64, li88, li96, li130, li192, li255, li2208, li2304, li9999, li9, li13, li14, li30, li35, li44, li45, li46, li47, li97, li98, li100, li101, li104, li105, li108, li110, li111, li112, li114, li117, li122, li999999, li1000000, li2147483647, cmp0, cmpl, cmpg, cmple, cmpge, nI_leI, nI_ltI, nI_eq, rL, rI, wL, wI, ob, aLet, nI_add, pk_mul, ↓reduceIte, if_true, if_false, eq_self, Nat.reduceEqDiff, Nat.reduceLeDiff, Nat.reduceLT, Nat.one_ne_zero, Nat.zero_ne_one, Nat.add_zero, Bool.false_eq_true, nI_neq]
          rfl
        unfold stC_feed
        rw [this]
        rfl
      · have : X9_feed m (nI b) = some (nI (k + 1), sI (sA m 5 (upd (m.2.1 5) k (nI b))) 6 (nI (k + 1))) := by
          have h4 : ∀ f, (sA m 5 f).1 6 = nI k := fun f => e0
          simp (disch := omega) only [X9_feed, f, e0, h, h4, li0, li1, li2, li3, li4, li5, li6, li7, li8, li11, li12, li16, li24, li25, li26, li31, li32, li36, li40, li48, li52, li58, li59, li60, li63, li64, li88, li96, li130, li192, li255, li2208, li2304, li9999, li9, li13, li14, li30, li35, li44, li45, li46, li47, li97, li98, li100, li101, li104, li105, li108, li110, li111, li112, li114, li117, li122, li999999, li1000000, li2147483647, cmp0, cmpl, cmpg, cmple, cmpge, nI_leI, nI_ltI, nI_eq, rL, rI, wL, wI, ob, aLet, nI_add, pk_mul, ↓reduceIte, if_true, if_false, eq_self, Nat.reduceEqDiff, Nat.reduceLeDiff, Nat.reduceLT, Nat.one_ne_zero, Nat.zero_ne_one, Nat.add_zero, Bool.false_eq_true, nI_neq]
          rfl
        unfold stM_feed
        rw [this]
        rfl
