/-! the reference's row: what is counted, what lies beside -/
theorem r_isIn {d : LD} {f : Nat → Int32} (ok : okL d) (hf : RowOf d f) {p : Nat} (hp : p < 2 ^ 31) : X9_isIn f (nI p) = some (if inP d p then 1 else 0) := by
  obtain ⟨-, h1, h2, -⟩ := ok
  unfold X9_isIn
  simp (disch := omega) only [li0, li1, li2, li3, li4, li5, li6, li7, li8, li11, li12, li16, li24, li25, li26, li31, li32, li36, li40, li48, li52, li58, li59, li60, li63, li64, li88, li96, li130, li192, li255, li2208, li2304, li9999, cmp0, cmpl, cmpg, cmple, cmpge, nI_leI, nI_ltI, nI_eq, rL, rI, wL, wI, Option.bind_some, aLet, nI_add, pk_mul, ↓reduceIte, if_true, if_false, eq_self, Nat.reduceEqDiff, Nat.reduceLeDiff, Nat.reduceLT, Nat.one_ne_zero, Nat.zero_ne_one, Nat.add_zero, Bool.false_eq_true, pk_div, pk_sub, hf.2.1, hf.2.2.1]
  rw [show p - p / 6 * 6 = p % 6 by omega]
  unfold inP
  by_cases q1 : lR d ≤ p / 6
  · have : ¬ p / 6 < lR d := by omega
    simp [q1, this]
  · have e1 : p / 6 < lR d := by omega
    by_cases q2 : lC d ≤ p % 6
    · have : ¬ p % 6 < lC d := by omega
      simp [q1, q2, this]
    · have e2 : p % 6 < lC d := by omega
      simp [q1, q2, e1, e2]
theorem vc_p {d : LD} (ok : okL d) (P : Nat → Bool) (v : Nat) : vc d P v = cn (fun p => inP d p && decide (lS d p = v) && P (cl p)) 36 := by
  unfold vc
  rw [cn_cells]
  · refine cn_cong (fun p hp => ?_)
    rw [inC_cl, pl_cl]
  · intro c hc h
    simp only [Bool.and_eq_true] at h
    exact ⟨(inC_b ok h.1.1).1, (inC_b ok h.1.1).2.1⟩
theorem cn_yes {p : Nat → Bool} {n : Nat} (h : p n = true) : cn p (n + 1) = cn p n + 1 := by rw [cn, h]; rfl
theorem cn_no {p : Nat → Bool} {n : Nat} (h : p n = false) : cn p (n + 1) = cn p n := by rw [cn, h]; rfl
theorem r_cells {d : LD} {f : Nat → Int32} (ok : okL d) (hf : RowOf d f) {o v : Nat} (ho : o < 100) (hv : v < 100) : X9_cellsOf f (nI o) (nI v) = some (nI (vc d (fun c => decide (lO d (pl c) = o)) v)) := by
  rw [vc_p ok]
  have hq : ∀ p, p < 36 → lS d p < 6 ∧ lO d p ≤ 6 := fun p hp => ⟨ok.2.2.2.2.2.2.2.1 p hp, Nat.le_trans (ok.2.2.2.2.2.2.2.2.1 p hp) ok.1⟩
  have := forUp (fun n i s => X9_cellsOf_L5 f (nI v) (nI o) n s i) 36 (fun k => nI (cn (fun p => inP d p && decide (lS d p = v) && decide (lO d (pl (cl p)) = o)) k)) (some (nI (cn (fun p => inP d p && decide (lS d p = v) && decide (lO d (pl (cl p)) = o)) 36))) (fun n k hk => ?_) (fun n => ?_) 36 0 aFu rfl (by decide)
  · have h : X9_cellsOf_L5 f (nI v) (nI o) aFu 0 0 = _ := this
    unfold X9_cellsOf
    rw [h]
    rfl
  · have h : ¬ 36 ≤ k := by omega
    obtain ⟨q1, q2⟩ := hq k hk
    have e1 := hf.2.2.2.2.2.2.2.1 k hk
    have e2 := hf.2.2.2.2.2.2.2.2.1 k hk
    have em : ¬ nI o = -nI 1 := fun z => by
      have := nI_pos (n := o) (by omega)
      rw [z] at this
      exact this (by decide)
    have hi := r_isIn ok hf (p := k) (by omega)
    simp (disch := omega) only [X9_cellsOf_L5, hi, li0, li1, li2, li3, li4, li5, li6, li7, li8, li11, li12, li16, li24, li25, li26, li31, li32, li36, li40, li48, li52, li58, li59, li60, li63, li64, li88, li96, li130, li192, li255, li2208, li2304, li9999, cmp0, cmpl, cmpg, cmple, cmpge, nI_leI, nI_ltI, nI_eq, rL, rI, wL, wI, Option.bind_some, aLet, nI_add, pk_mul, ↓reduceIte, if_true, if_false, eq_self, Nat.reduceEqDiff, Nat.reduceLeDiff, Nat.reduceLT, Nat.one_ne_zero, Nat.zero_ne_one, Nat.add_zero, Bool.false_eq_true, h]
    by_cases a : inP d k = true
    · simp (disch := omega) only [a, li0, li1, li2, li3, li4, li5, li6, li7, li8, li11, li12, li16, li24, li25, li26, li31, li32, li36, li40, li48, li52, li58, li59, li60, li63, li64, li88, li96, li130, li192, li255, li2208, li2304, li9999, cmp0, cmpl, cmpg, cmple, cmpge, nI_leI, nI_ltI, nI_eq, rL, rI, wL, wI, Option.bind_some, aLet, nI_add, pk_mul, ↓reduceIte, if_true, if_false, eq_self, Nat.reduceEqDiff, Nat.reduceLeDiff, Nat.reduceLT, Nat.one_ne_zero, Nat.zero_ne_one, Nat.add_zero, Bool.false_eq_true, e1, e2, em]
      by_cases b : lS d k = v
      · by_cases c : lO d k = o
        · simp only [b, c, if_true]
          rw [cn_yes (by simp [a, b, pl_cl, c])]
        · simp only [b, c, if_true, if_false]
          rw [cn_no (by simp [pl_cl, c])]
      · simp only [b, if_false]
        rw [cn_no (by simp [b])]
    · have a : inP d k = false := by simpa using a
      simp (disch := omega) only [a, li0, li1, li2, li3, li4, li5, li6, li7, li8, li11, li12, li16, li24, li25, li26, li31, li32, li36, li40, li48, li52, li58, li59, li60, li63, li64, li88, li96, li130, li192, li255, li2208, li2304, li9999, cmp0, cmpl, cmpg, cmple, cmpge, nI_leI, nI_ltI, nI_eq, rL, rI, wL, wI, Option.bind_some, aLet, nI_add, pk_mul, ↓reduceIte, if_true, if_false, eq_self, Nat.reduceEqDiff, Nat.reduceLeDiff, Nat.reduceLT, Nat.one_ne_zero, Nat.zero_ne_one, Nat.add_zero, Bool.false_eq_true]
      rw [cn_no (by simp [a])]
  · simp (disch := omega) only [X9_cellsOf_L5, li0, li1, li2, li3, li4, li5, li6, li7, li8, li11, li12, li16, li24, li25, li26, li31, li32, li36, li40, li48, li52, li58, li59, li60, li63, li64, li88, li96, li130, li192, li255, li2208, li2304, li9999, cmp0, cmpl, cmpg, cmple, cmpge, nI_leI, nI_ltI, nI_eq, rL, rI, wL, wI, Option.bind_some, aLet, nI_add, pk_mul, ↓reduceIte, if_true, if_false, eq_self, Nat.reduceEqDiff, Nat.reduceLeDiff, Nat.reduceLT, Nat.one_ne_zero, Nat.zero_ne_one, Nat.add_zero, Bool.false_eq_true, Nat.le_refl]
theorem r_cellsAll {d : LD} {f : Nat → Int32} (ok : okL d) (hf : RowOf d f) {v : Nat} (hv : v < 100) : X9_cellsOf f (-1) (nI v) = some (nI (vc d (fun _ => true) v)) := by
  rw [vc_p ok]
  have hq : ∀ p, p < 36 → lS d p < 6 := fun p hp => ok.2.2.2.2.2.2.2.1 p hp
  have := forUp (fun n i s => X9_cellsOf_L5 f (nI v) (-1) n s i) 36 (fun k => nI (cn (fun p => inP d p && decide (lS d p = v) && true) k)) (some (nI (cn (fun p => inP d p && decide (lS d p = v) && true) 36))) (fun n k hk => ?_) (fun n => ?_) 36 0 aFu rfl (by decide)
  · have h : X9_cellsOf_L5 f (nI v) (-1) aFu 0 0 = _ := this
    unfold X9_cellsOf
    rw [h]
    rfl
  · have h : ¬ 36 ≤ k := by omega
    have q1 := hq k hk
    have e1 := hf.2.2.2.2.2.2.2.1 k hk
    have hi := r_isIn ok hf (p := k) (by omega)
    simp (disch := omega) only [X9_cellsOf_L5, hi, li0, li1, li2, li3, li4, li5, li6, li7, li8, li11, li12, li16, li24, li25, li26, li31, li32, li36, li40, li48, li52, li58, li59, li60, li63, li64, li88, li96, li130, li192, li255, li2208, li2304, li9999, cmp0, cmpl, cmpg, cmple, cmpge, nI_leI, nI_ltI, nI_eq, rL, rI, wL, wI, Option.bind_some, aLet, nI_add, pk_mul, ↓reduceIte, if_true, if_false, eq_self, Nat.reduceEqDiff, Nat.reduceLeDiff, Nat.reduceLT, Nat.one_ne_zero, Nat.zero_ne_one, Nat.add_zero, Bool.false_eq_true, h]
    by_cases a : inP d k = true
    · simp (disch := omega) only [a, li0, li1, li2, li3, li4, li5, li6, li7, li8, li11, li12, li16, li24, li25, li26, li31, li32, li36, li40, li48, li52, li58, li59, li60, li63, li64, li88, li96, li130, li192, li255, li2208, li2304, li9999, cmp0, cmpl, cmpg, cmple, cmpge, nI_leI, nI_ltI, nI_eq, rL, rI, wL, wI, Option.bind_some, aLet, nI_add, pk_mul, ↓reduceIte, if_true, if_false, eq_self, Nat.reduceEqDiff, Nat.reduceLeDiff, Nat.reduceLT, Nat.one_ne_zero, Nat.zero_ne_one, Nat.add_zero, Bool.false_eq_true, e1]
      by_cases b : lS d k = v
      · simp only [b, if_true]
        rw [cn_yes (by simp [a, b])]
      · simp only [b, if_false]
        rw [cn_no (by simp [b])]
    · have a : inP d k = false := by simpa using a
      simp (disch := omega) only [a, li0, li1, li2, li3, li4, li5, li6, li7, li8, li11, li12, li16, li24, li25, li26, li31, li32, li36, li40, li48, li52, li58, li59, li60, li63, li64, li88, li96, li130, li192, li255, li2208, li2304, li9999, cmp0, cmpl, cmpg, cmple, cmpge, nI_leI, nI_ltI, nI_eq, rL, rI, wL, wI, Option.bind_some, aLet, nI_add, pk_mul, ↓reduceIte, if_true, if_false, eq_self, Nat.reduceEqDiff, Nat.reduceLeDiff, Nat.reduceLT, Nat.one_ne_zero, Nat.zero_ne_one, Nat.add_zero, Bool.false_eq_true]
      rw [cn_no (by simp [a])]
  · simp (disch := omega) only [X9_cellsOf_L5, li0, li1, li2, li3, li4, li5, li6, li7, li8, li11, li12, li16, li24, li25, li26, li31, li32, li36, li40, li48, li52, li58, li59, li60, li63, li64, li88, li96, li130, li192, li255, li2208, li2304, li9999, cmp0, cmpl, cmpg, cmple, cmpge, nI_leI, nI_ltI, nI_eq, rL, rI, wL, wI, Option.bind_some, aLet, nI_add, pk_mul, ↓reduceIte, if_true, if_false, eq_self, Nat.reduceEqDiff, Nat.reduceLeDiff, Nat.reduceLT, Nat.one_ne_zero, Nat.zero_ne_one, Nat.add_zero, Bool.false_eq_true, Nat.le_refl]
