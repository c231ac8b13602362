/-! a year -/
def nextD (d : LD) : LD := (lH d, lC d, lR d, lY d + 1, lW d, lK d, lG d, fun p => if inP d p = true ∧ lS d p < 5 then lG d (lS d p) else lS d p, lO d, lL d, lE d)
def chg (d : LD) (p : Nat) : Bool := inP d p && decide (lS d p < 5) && !decide (lG d (lS d p) = lS d p)
theorem inP_next (d : LD) (p : Nat) : inP (nextD d) p = inP d p := rfl
theorem inC_next (d : LD) (c : Nat) : inC (nextD d) c = inC d c := rfl
theorem ok_next {d : LD} (ok : okL d) (hy : lY d + 1 ≤ 20000) : okL (nextD d) := by
  obtain ⟨a1, a2, a3, a4, a5, a6, a7, a8, a9, a10, a11, a12⟩ := ok
  refine ⟨a1, a2, a3, hy, a5, a6, a7, fun p hp => ?_, a9, a10, a11, a12⟩
  show (if inP d p = true ∧ lS d p < 5 then lG d (lS d p) else lS d p) < 6
  split
  · rename_i h
    have := a7 _ h.2
    omega
  · exact a8 p hp
/-- the row behind k places of a year -/
def goRow (d : LD) (f : Nat → Int32) (k : Nat) : Nat → Int32 := fun j => if 16 ≤ j ∧ j < 16 + k then nI (lS (nextD d) (j - 16)) else f j
theorem goRow_up {d : LD} {f : Nat → Int32} {k : Nat} : upd (goRow d f k) (16 + k) (nI (lS (nextD d) k)) = goRow d f (k + 1) := by
  funext j
  unfold upd goRow
  by_cases h : j = 16 + k
  · subst h
    rw [if_pos rfl, if_pos (by omega), show 16 + k - 16 = k by omega]
  · rw [if_neg h]
    by_cases q : 16 ≤ j ∧ j < 16 + k
    · rw [if_pos q, if_pos (by omega)]
    · rw [if_neg q, if_neg (by omega)]
theorem goRow_same {d : LD} {f : Nat → Int32} (hf : RowOf d f) {k : Nat} (hk : k < 36) (h : lS (nextD d) k = lS d k) : goRow d f k = goRow d f (k + 1) := by
  rw [← goRow_up, h]
  funext j
  unfold upd
  by_cases q : j = 16 + k
  · subst q
    rw [if_pos rfl]
    unfold goRow
    rw [if_neg (by omega)]
    exact hf.2.2.2.2.2.2.2.1 k hk
  · rw [if_neg q]
theorem goRow_of {d : LD} {f : Nat → Int32} (ok : okL d) (hf : RowOf d f) : RowOf (nextD d) (upd (goRow d f 36) 3 (nI (lY d + 1))) := by
  obtain ⟨b1, b2, b3, b4, b5, b6, b7, b8, b9, b10⟩ := hf
  have o : ∀ j, ¬ (16 ≤ j ∧ j < 52) → j ≠ 3 → upd (goRow d f 36) 3 (nI (lY d + 1)) j = f j := fun j h1 h2 => by
    unfold upd goRow
    rw [if_neg h2, if_neg h1]
  refine ⟨(o 0 (by omega) (by omega)).trans b1, (o 1 (by omega) (by omega)).trans b2, (o 2 (by omega) (by omega)).trans b3, ?_, (o 4 (by omega) (by omega)).trans b5, fun i hi => ?_, fun v hv => (o _ (by omega) (by omega)).trans (b7 v hv), fun p hp => ?_, fun p hp => (o _ (by omega) (by omega)).trans (b9 p hp), fun w hw => ⟨(o _ (by omega) (by omega)).trans (b10 w hw).1, (o _ (by omega) (by omega)).trans (b10 w hw).2⟩⟩
  · unfold upd
    rw [if_pos rfl]
    rfl
  · have h6 := ok.1
    have hi : i < lH d := hi
    exact (o _ (by omega) (by omega)).trans (b6 i hi)
  · unfold upd goRow
    rw [if_neg (by omega), if_pos (by omega), show 16 + p - 16 = p by omega]
theorem r_isIn2 {d : LD} {f : Nat → Int32} (ok : okL d) (g1 : f 1 = nI (lC d)) (g2 : f 2 = nI (lR d)) {p : Nat} (hp : p < 2 ^ 31) : X9_isIn f (nI p) = some (if inP d p then 1 else 0) := by
  obtain ⟨-, h1, h2, -⟩ := ok
  unfold X9_isIn
  simp (disch := omega) only [li0, li1, li2, li3, li4, li5, li6, li7, li8, li11, li12, li16, li24, li25, li26, li31, li32, li36, li40, li48, li52, li58, li59, li60, li63, li64, li88, li96, li130, li192, li255, li2208, li2304, li9999, cmp0, cmpl, cmpg, cmple, cmpge, nI_leI, nI_ltI, nI_eq, rL, rI, wL, wI, Option.bind_some, aLet, nI_add, pk_mul, ↓reduceIte, if_true, if_false, eq_self, Nat.reduceEqDiff, Nat.reduceLeDiff, Nat.reduceLT, Nat.one_ne_zero, Nat.zero_ne_one, Nat.add_zero, Bool.false_eq_true, pk_div, pk_sub, g1, g2]
  rw [show p - p / 6 * 6 = p % 6 by omega]
  unfold inP
  by_cases q1 : lR d ≤ p / 6
  · have : ¬ p / 6 < lR d := by omega
    simp [q1, this]
  · have e1 : p / 6 < lR d := by omega
    by_cases q2 : lC d ≤ p % 6
    · have : ¬ p % 6 < lC d := by omega
      simp [q1, q2, this]
    · have e2 : p % 6 < lC d := by omega
      simp [q1, q2, e1, e2]
theorem r_goOn {d : LD} {f : Nat → Int32} (ok : okL d) (hf : RowOf d f) : X9_goOn f = some (nI (cn (chg d) 36), upd (goRow d f 36) 3 (nI (lY d + 1))) := by
  have hy := ok.2.2.2.1
  have := forUp (fun n i (s : Int32 × (Nat → Int32)) => X9_goOn_L4 n s.1 i s.2) 36 (fun k => (nI (cn (chg d) k), goRow d f k)) (some (nI (cn (chg d) 36), goRow d f 36)) (fun n k hk => ?_) (fun n => ?_) 36 0 aFu rfl (by decide)
  · have e : goRow d f 0 = f := by
      funext j
      unfold goRow
      rw [if_neg (by omega)]
    have h : X9_goOn_L4 aFu 0 0 (goRow d f 0) = some (nI (cn (chg d) 36), goRow d f 36) := this
    rw [e] at h
    unfold X9_goOn
    have e3 : goRow d f 36 3 = nI (lY d) := by
      unfold goRow
      rw [if_neg (by omega)]
      exact hf.2.2.2.1
    rw [h, Option.bind_some]
    simp (disch := omega) only [li0, li1, li2, li3, li4, li5, li6, li7, li8, li11, li12, li16, li24, li25, li26, li31, li32, li36, li40, li48, li52, li58, li59, li60, li63, li64, li88, li96, li130, li192, li255, li2208, li2304, li9999, cmp0, cmpl, cmpg, cmple, cmpge, nI_leI, nI_ltI, nI_eq, rL, rI, wL, wI, Option.bind_some, aLet, nI_add, pk_mul, ↓reduceIte, if_true, if_false, eq_self, Nat.reduceEqDiff, Nat.reduceLeDiff, Nat.reduceLT, Nat.one_ne_zero, Nat.zero_ne_one, Nat.add_zero, Bool.false_eq_true, e3]
  · have h : ¬ 36 ≤ k := by omega
    have o : ∀ j, j < 16 → goRow d f k j = f j := fun j hj => by
      unfold goRow
      rw [if_neg (by omega)]
    have a := r_isIn2 (f := goRow d f k) ok ((o 1 (by omega)).trans hf.2.1) ((o 2 (by omega)).trans hf.2.2.1) (p := k) (by omega)
    have e : goRow d f k (16 + k) = nI (lS d k) := by
      unfold goRow
      rw [if_neg (by omega)]
      exact hf.2.2.2.2.2.2.2.1 k hk
    have hs := ok.2.2.2.2.2.2.2.1 k hk
    simp (disch := omega) only [X9_goOn_L4, a, li0, li1, li2, li3, li4, li5, li6, li7, li8, li11, li12, li16, li24, li25, li26, li31, li32, li36, li40, li48, li52, li58, li59, li60, li63, li64, li88, li96, li130, li192, li255, li2208, li2304, li9999, cmp0, cmpl, cmpg, cmple, cmpge, nI_leI, nI_ltI, nI_eq, rL, rI, wL, wI, Option.bind_some, aLet, nI_add, pk_mul, ↓reduceIte, if_true, if_false, eq_self, Nat.reduceEqDiff, Nat.reduceLeDiff, Nat.reduceLT, Nat.one_ne_zero, Nat.zero_ne_one, Nat.add_zero, Bool.false_eq_true, h, e]
    cases q : inP d k
    · simp (disch := omega) only [li0, li1, li2, li3, li4, li5, li6, li7, li8, li11, li12, li16, li24, li25, li26, li31, li32, li36, li40, li48, li52, li58, li59, li60, li63, li64, li88, li96, li130, li192, li255, li2208, li2304, li9999, cmp0, cmpl, cmpg, cmple, cmpge, nI_leI, nI_ltI, nI_eq, rL, rI, wL, wI, Option.bind_some, aLet, nI_add, pk_mul, ↓reduceIte, if_true, if_false, eq_self, Nat.reduceEqDiff, Nat.reduceLeDiff, Nat.reduceLT, Nat.one_ne_zero, Nat.zero_ne_one, Nat.add_zero, Bool.false_eq_true]
      rw [cn_no (by simp [chg, q]), goRow_same hf hk (if_neg (by rw [q]; simp))]
    · simp (disch := omega) only [li0, li1, li2, li3, li4, li5, li6, li7, li8, li11, li12, li16, li24, li25, li26, li31, li32, li36, li40, li48, li52, li58, li59, li60, li63, li64, li88, li96, li130, li192, li255, li2208, li2304, li9999, cmp0, cmpl, cmpg, cmple, cmpge, nI_leI, nI_ltI, nI_eq, rL, rI, wL, wI, Option.bind_some, aLet, nI_add, pk_mul, ↓reduceIte, if_true, if_false, eq_self, Nat.reduceEqDiff, Nat.reduceLeDiff, Nat.reduceLT, Nat.one_ne_zero, Nat.zero_ne_one, Nat.add_zero, Bool.false_eq_true]
      by_cases z : lS d k = 5
      · simp (disch := omega) only [li0, li1, li2, li3, li4, li5, li6, li7, li8, li11, li12, li16, li24, li25, li26, li31, li32, li36, li40, li48, li52, li58, li59, li60, li63, li64, li88, li96, li130, li192, li255, li2208, li2304, li9999, cmp0, cmpl, cmpg, cmple, cmpge, nI_leI, nI_ltI, nI_eq, rL, rI, wL, wI, Option.bind_some, aLet, nI_add, pk_mul, ↓reduceIte, if_true, if_false, eq_self, Nat.reduceEqDiff, Nat.reduceLeDiff, Nat.reduceLT, Nat.one_ne_zero, Nat.zero_ne_one, Nat.add_zero, Bool.false_eq_true, z]
        rw [cn_no (by simp [chg, z]), goRow_same hf hk (if_neg (by rw [z]; simp))]
      · have hg := ok.2.2.2.2.2.2.1 (lS d k) (by omega)
        have e2 : goRow d f k (11 + lS d k) = nI (lG d (lS d k)) := (o _ (by omega)).trans (hf.2.2.2.2.2.2.1 _ (by omega))
        simp (disch := omega) only [li0, li1, li2, li3, li4, li5, li6, li7, li8, li11, li12, li16, li24, li25, li26, li31, li32, li36, li40, li48, li52, li58, li59, li60, li63, li64, li88, li96, li130, li192, li255, li2208, li2304, li9999, cmp0, cmpl, cmpg, cmple, cmpge, nI_leI, nI_ltI, nI_eq, rL, rI, wL, wI, Option.bind_some, aLet, nI_add, pk_mul, ↓reduceIte, if_true, if_false, eq_self, Nat.reduceEqDiff, Nat.reduceLeDiff, Nat.reduceLT, Nat.one_ne_zero, Nat.zero_ne_one, Nat.add_zero, Bool.false_eq_true, z, e2]
        have en : lS (nextD d) k = lG d (lS d k) := by
          show (if inP d k = true ∧ lS d k < 5 then lG d (lS d k) else lS d k) = _
          rw [if_pos ⟨q, by omega⟩]
        by_cases y : lG d (lS d k) = lS d k
        · simp (disch := omega) only [li0, li1, li2, li3, li4, li5, li6, li7, li8, li11, li12, li16, li24, li25, li26, li31, li32, li36, li40, li48, li52, li58, li59, li60, li63, li64, li88, li96, li130, li192, li255, li2208, li2304, li9999, cmp0, cmpl, cmpg, cmple, cmpge, nI_leI, nI_ltI, nI_eq, rL, rI, wL, wI, Option.bind_some, aLet, nI_add, pk_mul, ↓reduceIte, if_true, if_false, eq_self, Nat.reduceEqDiff, Nat.reduceLeDiff, Nat.reduceLT, Nat.one_ne_zero, Nat.zero_ne_one, Nat.add_zero, Bool.false_eq_true, y]
          rw [← goRow_up, en, y, cn_no (by simp [chg, y])]
        · simp (disch := omega) only [li0, li1, li2, li3, li4, li5, li6, li7, li8, li11, li12, li16, li24, li25, li26, li31, li32, li36, li40, li48, li52, li58, li59, li60, li63, li64, li88, li96, li130, li192, li255, li2208, li2304, li9999, cmp0, cmpl, cmpg, cmple, cmpge, nI_leI, nI_ltI, nI_eq, rL, rI, wL, wI, Option.bind_some, aLet, nI_add, pk_mul, ↓reduceIte, if_true, if_false, eq_self, Nat.reduceEqDiff, Nat.reduceLeDiff, Nat.reduceLT, Nat.one_ne_zero, Nat.zero_ne_one, Nat.add_zero, Bool.false_eq_true, y]
          rw [← goRow_up, en, cn_yes (by simp [chg, y, q]; omega)]
  · simp (disch := omega) only [X9_goOn_L4, li0, li1, li2, li3, li4, li5, li6, li7, li8, li11, li12, li16, li24, li25, li26, li31, li32, li36, li40, li48, li52, li58, li59, li60, li63, li64, li88, li96, li130, li192, li255, li2208, li2304, li9999, cmp0, cmpl, cmpg, cmple, cmpge, nI_leI, nI_ltI, nI_eq, rL, rI, wL, wI, Option.bind_some, aLet, nI_add, pk_mul, ↓reduceIte, if_true, if_false, eq_self, Nat.reduceEqDiff, Nat.reduceLeDiff, Nat.reduceLT, Nat.one_ne_zero, Nat.zero_ne_one, Nat.add_zero, Bool.false_eq_true, Nat.le_refl]
