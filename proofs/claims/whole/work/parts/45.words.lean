/-! words, speakers, talkers -/
def canD (d : LD) (i w : Nat) : Bool := decide (w < lW d) && decide (lE d w &&& sy d i = lE d w)
theorem c_wordsOf {d : LD} {S : Rec} (ok : okL d) (hS : LandOf d S) {i : Nat} (hi : i < lH d) : X2_wordsOf S (nI i) = some (nI (ms (canD d i) 4)) := by
  have h4 := ok.2.2.2.2.1
  have := forUp (fun n j s => X2_wordsOf_L11 S (nI (sy d i)) n s j) 4 (fun k => nI (ms (canD d i) k)) (some (nI (ms (canD d i) 4))) (fun n k hk => ?_) (fun n => ?_) 4 0 aFu rfl (by decide)
  · have h : X2_wordsOf_L11 S (nI (sy d i)) aFu 0 0 = some (nI (ms (canD d i) 4)) := this
    unfold X2_wordsOf
    rw [c_says ok hS hi, Option.bind_some, h]
    rfl
  · have h : ¬ 4 ≤ k := by omega
    by_cases q : k < lW d
    · have e := (hS.2.2.2.2.2.2.2.2.2 k q).2
      have hE := (ok.2.2.2.2.2.2.2.2.2.1 k q).1
      have cv := c_covers (sy_lt d i) hE
      have w1 := cW1 ok hS q
      simp (disch := omega) only [X2_wordsOf_L11, w1, li0, li1, li2, li3, li4, li5, li6, li7, li8, li11, li12, li16, li24, li25, li26, li31, li32, li36, li40, li48, li52, li58, li59, li60, li63, li64, li88, li96, li130, li192, li255, li2208, li2304, li9999, cmp0, cmpl, cmpg, cmple, cmpge, nI_leI, nI_ltI, nI_eq, rL, rI, wL, wI, Option.bind_some, aLet, nI_add, pk_mul, ↓reduceIte, if_true, if_false, eq_self, Nat.reduceEqDiff, Nat.reduceLeDiff, Nat.reduceLT, Nat.one_ne_zero, Nat.zero_ne_one, Nat.add_zero, Bool.false_eq_true, h, e, cv, sh1]
      by_cases z : lE d k &&& sy d i = lE d k
      · simp (disch := omega) only [z, li0, li1, li2, li3, li4, li5, li6, li7, li8, li11, li12, li16, li24, li25, li26, li31, li32, li36, li40, li48, li52, li58, li59, li60, li63, li64, li88, li96, li130, li192, li255, li2208, li2304, li9999, cmp0, cmpl, cmpg, cmple, cmpge, nI_leI, nI_ltI, nI_eq, rL, rI, wL, wI, Option.bind_some, aLet, nI_add, pk_mul, ↓reduceIte, if_true, if_false, eq_self, Nat.reduceEqDiff, Nat.reduceLeDiff, Nat.reduceLT, Nat.one_ne_zero, Nat.zero_ne_one, Nat.add_zero, Bool.false_eq_true]
        rw [fa_or, ms_yes (by simp [canD, q, z])]
      · simp (disch := omega) only [z, li0, li1, li2, li3, li4, li5, li6, li7, li8, li11, li12, li16, li24, li25, li26, li31, li32, li36, li40, li48, li52, li58, li59, li60, li63, li64, li88, li96, li130, li192, li255, li2208, li2304, li9999, cmp0, cmpl, cmpg, cmple, cmpge, nI_leI, nI_ltI, nI_eq, rL, rI, wL, wI, Option.bind_some, aLet, nI_add, pk_mul, ↓reduceIte, if_true, if_false, eq_self, Nat.reduceEqDiff, Nat.reduceLeDiff, Nat.reduceLT, Nat.one_ne_zero, Nat.zero_ne_one, Nat.add_zero, Bool.false_eq_true]
        rw [ms_no (by simp [canD, z])]
    · have w0 := cW0 hS (x := nI k) (Or.inr (nI_le (by omega) (by omega)))
      simp (disch := omega) only [X2_wordsOf_L11, w0, li0, li1, li2, li3, li4, li5, li6, li7, li8, li11, li12, li16, li24, li25, li26, li31, li32, li36, li40, li48, li52, li58, li59, li60, li63, li64, li88, li96, li130, li192, li255, li2208, li2304, li9999, cmp0, cmpl, cmpg, cmple, cmpge, nI_leI, nI_ltI, nI_eq, rL, rI, wL, wI, Option.bind_some, aLet, nI_add, pk_mul, ↓reduceIte, if_true, if_false, eq_self, Nat.reduceEqDiff, Nat.reduceLeDiff, Nat.reduceLT, Nat.one_ne_zero, Nat.zero_ne_one, Nat.add_zero, Bool.false_eq_true, h]
      rw [ms_no (by simp [canD, q])]
  · simp (disch := omega) only [X2_wordsOf_L11, li0, li1, li2, li3, li4, li5, li6, li7, li8, li11, li12, li16, li24, li25, li26, li31, li32, li36, li40, li48, li52, li58, li59, li60, li63, li64, li88, li96, li130, li192, li255, li2208, li2304, li9999, cmp0, cmpl, cmpg, cmple, cmpge, nI_leI, nI_ltI, nI_eq, rL, rI, wL, wI, Option.bind_some, aLet, nI_add, pk_mul, ↓reduceIte, if_true, if_false, eq_self, Nat.reduceEqDiff, Nat.reduceLeDiff, Nat.reduceLT, Nat.one_ne_zero, Nat.zero_ne_one, Nat.add_zero, Bool.false_eq_true, Nat.le_refl]
