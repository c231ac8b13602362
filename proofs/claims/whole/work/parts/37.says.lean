/-! what one says, by the reference's row -/
def sy (d : LD) (i : Nat) : Nat := sp d (lK d i) (own d (i + 1)) (own d 0)
theorem vc_own (d : LD) (o v : Nat) : vc d (fun c => decide (lO d (pl c) = o)) v = vc d (own d o) v := by
  refine vc_cong (fun c _ h => ?_) v
  unfold own
  rw [h, Bool.true_and]
theorem ms_set {p : Nat → Bool} {s n : Nat} (hs : s < n) : ms p n ||| 2 ^ s = ms (fun v => p v || decide (v = s)) n := by
  apply Nat.eq_of_testBit_eq
  intro i
  rw [Nat.testBit_or, ms_bit, ms_bit, Nat.testBit_two_pow]
  by_cases q : s = i
  · subst q
    simp [hs]
  · have : ¬ i = s := fun e => q e.symm
    simp [q, this]
def bv (d : LD) (i v : Nat) : Bool := (cm d v || decide (0 < if lK d i < 4 then vc d (own d (i + 1)) v else vc d (own d 0) v)) && !(decide (lK d i = 3) && decide (vc d (own d (i + 1)) v = 1))
theorem r_says11 {d : LD} {f : Nat → Int32} (ok : okL d) (hf : RowOf d f) {i : Nat} (hi : i < lH d) : X9_says_L11 f (nI i) (nI (lK d i)) aFu 0 0 = some (nI (ms (bv d i) 5)) := by
  have h6 := ok.1
  obtain ⟨k1, k5⟩ := ok.2.2.2.2.2.1 i hi
  have := forUp (fun n j s => X9_says_L11 f (nI i) (nI (lK d i)) n s j) 5 (fun k => nI (ms (bv d i) k)) (some (nI (ms (bv d i) 5))) (fun n k hk => ?_) (fun n => ?_) 5 0 aFu rfl (by decide)
  · exact this
  · have h : ¬ 5 ≤ k := by omega
    have a := r_cellsAll ok hf (v := k) (by omega)
    have b := r_cells ok hf (o := i + 1) (v := k) (by omega) (by omega)
    have c := r_cells ok hf (o := 0) (v := k) (by omega) (by omega)
    rw [vc_own] at b c
    have la : vc d (fun _ => true) k ≤ 64 := cn_le _ _
    have lb : vc d (own d (i + 1)) k ≤ 64 := cn_le _ _
    have lc : vc d (own d 0) k ≤ 64 := cn_le _ _
    rw [show (-1 : Int32) = -nI 1 from rfl] at a
    have eb : bv d i k = true ↔ ((12 ≤ vc d (fun _ => true) k ∨ (lK d i < 4 ∧ 0 < vc d (own d (i + 1)) k) ∨ (4 ≤ lK d i ∧ 0 < vc d (own d 0) k)) ∧ ¬ (lK d i = 3 ∧ vc d (own d (i + 1)) k = 1)) := by
      unfold bv cm
      simp only [Bool.and_eq_true, Bool.or_eq_true, decide_eq_true_eq, Bool.not_eq_true', Bool.and_eq_false_iff, decide_eq_false_iff_not]
      by_cases q : lK d i < 4
      · rw [if_pos q]
        omega
      · rw [if_neg q]
        omega
    simp (disch := omega) only [X9_says_L11, X9_says_J34, X9_says_J92, X9_says_J67, X9_says_J87, X9_says_J62, X9_says_J94, X9_says_J114, X9_says_J110, X9_says_J115, li0, li1, li2, li3, li4, li5, li6, li7, li8, li11, li12, li16, li24, li25, li26, li31, li32, li36, li40, li48, li52, li58, li59, li60, li63, li64, li88, li96, li130, li192, li255, li2208, li2304, li9999, cmp0, cmpl, cmpg, cmple, cmpge, nI_leI, nI_ltI, nI_eq, rL, rI, wL, wI, Option.bind_some, aLet, nI_add, pk_mul, ↓reduceIte, if_true, if_false, eq_self, Nat.reduceEqDiff, Nat.reduceLeDiff, Nat.reduceLT, Nat.one_ne_zero, Nat.zero_ne_one, Nat.add_zero, Bool.false_eq_true, h, a, b, c, sh1, fa_or, Nat.or_zero]
    generalize vc d (fun _ => true) k = A at *
    generalize vc d (own d (i + 1)) k = B at *
    generalize vc d (own d 0) k = E at *
    generalize lK d i = K at *
    cases hb : bv d i k
    · rw [ms_no hb]
      rw [hb] at eb
      simp only [Bool.false_eq_true, false_iff] at eb
      repeat' split
      all_goals first | rfl | (exfalso; omega)
    · rw [← ms_yes hb]
      rw [hb] at eb
      simp only [true_iff] at eb
      repeat' split
      all_goals first | rfl | (exfalso; omega)
  · simp (disch := omega) only [X9_says_L11, li0, li1, li2, li3, li4, li5, li6, li7, li8, li11, li12, li16, li24, li25, li26, li31, li32, li36, li40, li48, li52, li58, li59, li60, li63, li64, li88, li96, li130, li192, li255, li2208, li2304, li9999, cmp0, cmpl, cmpg, cmple, cmpge, nI_leI, nI_ltI, nI_eq, rL, rI, wL, wI, Option.bind_some, aLet, nI_add, pk_mul, ↓reduceIte, if_true, if_false, eq_self, Nat.reduceEqDiff, Nat.reduceLeDiff, Nat.reduceLT, Nat.one_ne_zero, Nat.zero_ne_one, Nat.add_zero, Bool.false_eq_true, Nat.le_refl]
theorem cn_or {p q : Nat → Bool} : ∀ {n : Nat}, 0 < cn (fun k => p k || q k) n ↔ 0 < cn p n ∨ 0 < cn q n
  | 0 => by simp [cn]
  | n + 1 => by
    simp only [cn]
    have := cn_or (p := p) (q := q) (n := n)
    cases p n <;> cases q n <;> simp <;> omega
theorem vc_or {d : LD} {P Q : Nat → Bool} {v : Nat} : 0 < vc d (fun c => P c || Q c) v ↔ 0 < vc d P v ∨ 0 < vc d Q v := by
  unfold vc
  rw [← cn_or]
  have : ∀ c, c < 64 → (inC d c && decide (lS d (pl c) = v) && (P c || Q c)) = ((inC d c && decide (lS d (pl c) = v) && P c) || (inC d c && decide (lS d (pl c) = v) && Q c)) := fun c _ => by
    cases inC d c <;> cases decide (lS d (pl c) = v) <;> cases P c <;> cases Q c <;> rfl
  rw [cn_cong this]
def bc (d : LD) (i k v : Nat) : Nat := cn (fun p => inP d p && decide (lS d p = v) && bes (own d (i + 1)) (cl p)) k
theorem r_says156 {d : LD} {f : Nat → Int32} (ok : okL d) (hf : RowOf d f) {i : Nat} (hi : i < lH d) (B : Nat → Bool) : X9_says_L156 (nI 5) f (nI i) aFu (nI (ms B 5)) 0 = some (nI (ms (fun v => B v || decide (0 < bc d i 36 v)) 5)) := by
  have h6 := ok.1
  have := forUp (fun n j s => X9_says_L156 (nI 5) f (nI i) n s j) 36 (fun k => nI (ms (fun v => B v || decide (0 < bc d i k v)) 5)) (some (nI (ms (fun v => B v || decide (0 < bc d i 36 v)) 5))) (fun n k hk => ?_) (fun n => ?_) 36 0 aFu rfl (by decide)
  · have e : ms (fun v => B v || decide (0 < bc d i 0 v)) 5 = ms B 5 := ms_cong (fun v _ => by simp [bc, cn])
    rw [e] at this
    exact this
  · have h : ¬ 36 ≤ k := by omega
    have a := r_isIn ok hf (p := k) (by omega)
    have e := hf.2.2.2.2.2.2.2.1 k hk
    have hs := ok.2.2.2.2.2.2.2.1 k hk
    simp (disch := omega) only [X9_says_L156, X9_says_J204, X9_says_J205, a, li0, li1, li2, li3, li4, li5, li6, li7, li8, li11, li12, li16, li24, li25, li26, li31, li32, li36, li40, li48, li52, li58, li59, li60, li63, li64, li88, li96, li130, li192, li255, li2208, li2304, li9999, cmp0, cmpl, cmpg, cmple, cmpge, nI_leI, nI_ltI, nI_eq, rL, rI, wL, wI, Option.bind_some, aLet, nI_add, pk_mul, ↓reduceIte, if_true, if_false, eq_self, Nat.reduceEqDiff, Nat.reduceLeDiff, Nat.reduceLT, Nat.one_ne_zero, Nat.zero_ne_one, Nat.add_zero, Bool.false_eq_true, h, e, sh1]
    cases q : inP d k
    · simp (disch := omega) only [li0, li1, li2, li3, li4, li5, li6, li7, li8, li11, li12, li16, li24, li25, li26, li31, li32, li36, li40, li48, li52, li58, li59, li60, li63, li64, li88, li96, li130, li192, li255, li2208, li2304, li9999, cmp0, cmpl, cmpg, cmple, cmpge, nI_leI, nI_ltI, nI_eq, rL, rI, wL, wI, Option.bind_some, aLet, nI_add, pk_mul, ↓reduceIte, if_true, if_false, eq_self, Nat.reduceEqDiff, Nat.reduceLeDiff, Nat.reduceLT, Nat.one_ne_zero, Nat.zero_ne_one, Nat.add_zero, Bool.false_eq_true]
      rw [show nI (ms (fun v => B v || decide (0 < bc d i k v)) 5) ||| nI 0 = nI (ms (fun v => B v || decide (0 < bc d i k v)) 5) by rw [fa_or, Nat.or_zero]]
      rw [ms_cong (q := fun v => B v || decide (0 < bc d i (k + 1) v)) (fun v _ => by unfold bc; rw [cn_no (by simp [q])])]
    · have b := r_beside ok hf hk q (o := i + 1) (by omega)
      simp (disch := omega) only [li0, li1, li2, li3, li4, li5, li6, li7, li8, li11, li12, li16, li24, li25, li26, li31, li32, li36, li40, li48, li52, li58, li59, li60, li63, li64, li88, li96, li130, li192, li255, li2208, li2304, li9999, cmp0, cmpl, cmpg, cmple, cmpge, nI_leI, nI_ltI, nI_eq, rL, rI, wL, wI, Option.bind_some, aLet, nI_add, pk_mul, ↓reduceIte, if_true, if_false, eq_self, Nat.reduceEqDiff, Nat.reduceLeDiff, Nat.reduceLT, Nat.one_ne_zero, Nat.zero_ne_one, Nat.add_zero, Bool.false_eq_true, b]
      by_cases z : lS d k = 5
      · simp (disch := omega) only [li0, li1, li2, li3, li4, li5, li6, li7, li8, li11, li12, li16, li24, li25, li26, li31, li32, li36, li40, li48, li52, li58, li59, li60, li63, li64, li88, li96, li130, li192, li255, li2208, li2304, li9999, cmp0, cmpl, cmpg, cmple, cmpge, nI_leI, nI_ltI, nI_eq, rL, rI, wL, wI, Option.bind_some, aLet, nI_add, pk_mul, ↓reduceIte, if_true, if_false, eq_self, Nat.reduceEqDiff, Nat.reduceLeDiff, Nat.reduceLT, Nat.one_ne_zero, Nat.zero_ne_one, Nat.add_zero, Bool.false_eq_true, z]
        rw [show nI (ms (fun v => B v || decide (0 < bc d i k v)) 5) ||| nI 0 = nI (ms (fun v => B v || decide (0 < bc d i k v)) 5) by rw [fa_or, Nat.or_zero]]
        rw [ms_cong (q := fun v => B v || decide (0 < bc d i (k + 1) v)) (fun v hv => by unfold bc; rw [cn_no (by simp [z]; omega)])]
      · simp (disch := omega) only [li0, li1, li2, li3, li4, li5, li6, li7, li8, li11, li12, li16, li24, li25, li26, li31, li32, li36, li40, li48, li52, li58, li59, li60, li63, li64, li88, li96, li130, li192, li255, li2208, li2304, li9999, cmp0, cmpl, cmpg, cmple, cmpge, nI_leI, nI_ltI, nI_eq, rL, rI, wL, wI, Option.bind_some, aLet, nI_add, pk_mul, ↓reduceIte, if_true, if_false, eq_self, Nat.reduceEqDiff, Nat.reduceLeDiff, Nat.reduceLT, Nat.one_ne_zero, Nat.zero_ne_one, Nat.add_zero, Bool.false_eq_true, z]
        cases y : bes (own d (i + 1)) (cl k)
        · simp (disch := omega) only [li0, li1, li2, li3, li4, li5, li6, li7, li8, li11, li12, li16, li24, li25, li26, li31, li32, li36, li40, li48, li52, li58, li59, li60, li63, li64, li88, li96, li130, li192, li255, li2208, li2304, li9999, cmp0, cmpl, cmpg, cmple, cmpge, nI_leI, nI_ltI, nI_eq, rL, rI, wL, wI, Option.bind_some, aLet, nI_add, pk_mul, ↓reduceIte, if_true, if_false, eq_self, Nat.reduceEqDiff, Nat.reduceLeDiff, Nat.reduceLT, Nat.one_ne_zero, Nat.zero_ne_one, Nat.add_zero, Bool.false_eq_true]
          rw [show nI (ms (fun v => B v || decide (0 < bc d i k v)) 5) ||| nI 0 = nI (ms (fun v => B v || decide (0 < bc d i k v)) 5) by rw [fa_or, Nat.or_zero]]
          rw [ms_cong (q := fun v => B v || decide (0 < bc d i (k + 1) v)) (fun v _ => by unfold bc; rw [cn_no (by simp [y])])]
        · simp (disch := omega) only [li0, li1, li2, li3, li4, li5, li6, li7, li8, li11, li12, li16, li24, li25, li26, li31, li32, li36, li40, li48, li52, li58, li59, li60, li63, li64, li88, li96, li130, li192, li255, li2208, li2304, li9999, cmp0, cmpl, cmpg, cmple, cmpge, nI_leI, nI_ltI, nI_eq, rL, rI, wL, wI, Option.bind_some, aLet, nI_add, pk_mul, ↓reduceIte, if_true, if_false, eq_self, Nat.reduceEqDiff, Nat.reduceLeDiff, Nat.reduceLT, Nat.one_ne_zero, Nat.zero_ne_one, Nat.add_zero, Bool.false_eq_true]
          rw [fa_or, ms_set (by omega)]
          rw [ms_cong (q := fun v => B v || decide (0 < bc d i (k + 1) v)) (fun v _ => by
            unfold bc
            by_cases x : lS d k = v
            · rw [cn_yes (n := k) (by simp [q, x, y])]
              simp [x]
            · rw [cn_no (n := k) (by simp [x])]
              have : ¬ v = lS d k := fun t => x t.symm
              simp [this])]
  · simp (disch := omega) only [X9_says_L156, li0, li1, li2, li3, li4, li5, li6, li7, li8, li11, li12, li16, li24, li25, li26, li31, li32, li36, li40, li48, li52, li58, li59, li60, li63, li64, li88, li96, li130, li192, li255, li2208, li2304, li9999, cmp0, cmpl, cmpg, cmple, cmpge, nI_leI, nI_ltI, nI_eq, rL, rI, wL, wI, Option.bind_some, aLet, nI_add, pk_mul, ↓reduceIte, if_true, if_false, eq_self, Nat.reduceEqDiff, Nat.reduceLeDiff, Nat.reduceLT, Nat.one_ne_zero, Nat.zero_ne_one, Nat.add_zero, Bool.false_eq_true, Nat.le_refl]
theorem bc_vc {d : LD} (ok : okL d) (i v : Nat) : bc d i 36 v = vc d (bes (own d (i + 1))) v := by
  rw [vc_p ok]
  rfl
theorem r_says {d : LD} {f : Nat → Int32} (ok : okL d) (hf : RowOf d f) {i : Nat} (hi : i < lH d) : X9_says f (nI i) = some (nI (sy d i)) := by
  have h6 := ok.1
  obtain ⟨k1, k5⟩ := ok.2.2.2.2.2.1 i hi
  have e := hf.2.2.2.2.2.1 i hi
  have hl := r_says11 ok hf hi
  rw [show (0 : Int32) = nI 0 from rfl] at hl
  unfold X9_says X9_says_J153
  simp (disch := omega) only [li0, li1, li2, li3, li4, li5, li6, li7, li8, li11, li12, li16, li24, li25, li26, li31, li32, li36, li40, li48, li52, li58, li59, li60, li63, li64, li88, li96, li130, li192, li255, li2208, li2304, li9999, cmp0, cmpl, cmpg, cmple, cmpge, nI_leI, nI_ltI, nI_eq, rL, rI, wL, wI, Option.bind_some, aLet, nI_add, pk_mul, ↓reduceIte, if_true, if_false, eq_self, Nat.reduceEqDiff, Nat.reduceLeDiff, Nat.reduceLT, Nat.one_ne_zero, Nat.zero_ne_one, Nat.add_zero, Bool.false_eq_true, e, hl]
  have hn : ∀ (x : Int32), ¬ lK d i = 5 → X9_says_L156 (nI (lK d i)) f (nI i) aFu x (nI 0) = some x := fun x q => by
    show X9_says_L156 (nI (lK d i)) f (nI i) (99999 + 1) x (nI 0) = some x
    have : ¬ 36 ≤ 0 := by omega
    simp (disch := omega) only [X9_says_L156, li0, li1, li2, li3, li4, li5, li6, li7, li8, li11, li12, li16, li24, li25, li26, li31, li32, li36, li40, li48, li52, li58, li59, li60, li63, li64, li88, li96, li130, li192, li255, li2208, li2304, li9999, cmp0, cmpl, cmpg, cmple, cmpge, nI_leI, nI_ltI, nI_eq, rL, rI, wL, wI, Option.bind_some, aLet, nI_add, pk_mul, ↓reduceIte, if_true, if_false, eq_self, Nat.reduceEqDiff, Nat.reduceLeDiff, Nat.reduceLT, Nat.one_ne_zero, Nat.zero_ne_one, Nat.add_zero, Bool.false_eq_true, q, this]
  unfold sy sp
  generalize hK : lK d i = K at *
  have ek : ∀ v, bv d i v = ((cm d v || decide (0 < if K < 4 then vc d (own d (i + 1)) v else vc d (own d 0) v)) && !(decide (K = 3) && decide (vc d (own d (i + 1)) v = 1))) := fun v => by unfold bv; rw [hK]
  rcases (show K = 1 ∨ K = 2 ∨ K = 3 ∨ K = 4 ∨ K = 5 by omega) with rfl | rfl | rfl | rfl | rfl
  · simp (disch := omega) only [li0, li1, li2, li3, li4, li5, li6, li7, li8, li11, li12, li16, li24, li25, li26, li31, li32, li36, li40, li48, li52, li58, li59, li60, li63, li64, li88, li96, li130, li192, li255, li2208, li2304, li9999, cmp0, cmpl, cmpg, cmple, cmpge, nI_leI, nI_ltI, nI_eq, rL, rI, wL, wI, Option.bind_some, aLet, nI_add, pk_mul, ↓reduceIte, if_true, if_false, eq_self, Nat.reduceEqDiff, Nat.reduceLeDiff, Nat.reduceLT, Nat.one_ne_zero, Nat.zero_ne_one, Nat.add_zero, Bool.false_eq_true, hn _ (show ¬ 1 = 5 by omega)]
    exact congrArg some (congrArg nI (ms_cong (fun v _ => by rw [ek v]; simp [spv, plv])))
  · simp (disch := omega) only [li0, li1, li2, li3, li4, li5, li6, li7, li8, li11, li12, li16, li24, li25, li26, li31, li32, li36, li40, li48, li52, li58, li59, li60, li63, li64, li88, li96, li130, li192, li255, li2208, li2304, li9999, cmp0, cmpl, cmpg, cmple, cmpge, nI_leI, nI_ltI, nI_eq, rL, rI, wL, wI, Option.bind_some, aLet, nI_add, pk_mul, ↓reduceIte, if_true, if_false, eq_self, Nat.reduceEqDiff, Nat.reduceLeDiff, Nat.reduceLT, Nat.one_ne_zero, Nat.zero_ne_one, Nat.add_zero, Bool.false_eq_true]
    rw [ms_br5', hn _ (show ¬ 2 = 5 by omega), Option.bind_some]
    exact congrArg some (congrArg nI (ms_cong (fun v _ => by rw [ek v, ek (v - 1)]; simp [spv, plv])))
  · simp (disch := omega) only [li0, li1, li2, li3, li4, li5, li6, li7, li8, li11, li12, li16, li24, li25, li26, li31, li32, li36, li40, li48, li52, li58, li59, li60, li63, li64, li88, li96, li130, li192, li255, li2208, li2304, li9999, cmp0, cmpl, cmpg, cmple, cmpge, nI_leI, nI_ltI, nI_eq, rL, rI, wL, wI, Option.bind_some, aLet, nI_add, pk_mul, ↓reduceIte, if_true, if_false, eq_self, Nat.reduceEqDiff, Nat.reduceLeDiff, Nat.reduceLT, Nat.one_ne_zero, Nat.zero_ne_one, Nat.add_zero, Bool.false_eq_true, hn _ (show ¬ 3 = 5 by omega)]
    exact congrArg some (congrArg nI (ms_cong (fun v _ => by rw [ek v]; simp [spv, plv])))
  · simp (disch := omega) only [li0, li1, li2, li3, li4, li5, li6, li7, li8, li11, li12, li16, li24, li25, li26, li31, li32, li36, li40, li48, li52, li58, li59, li60, li63, li64, li88, li96, li130, li192, li255, li2208, li2304, li9999, cmp0, cmpl, cmpg, cmple, cmpge, nI_leI, nI_ltI, nI_eq, rL, rI, wL, wI, Option.bind_some, aLet, nI_add, pk_mul, ↓reduceIte, if_true, if_false, eq_self, Nat.reduceEqDiff, Nat.reduceLeDiff, Nat.reduceLT, Nat.one_ne_zero, Nat.zero_ne_one, Nat.add_zero, Bool.false_eq_true, hn _ (show ¬ 4 = 5 by omega)]
    exact congrArg some (congrArg nI (ms_cong (fun v _ => by rw [ek v]; simp [spv, plv])))
  · have := r_says156 ok hf hi (bv d i)
    rw [show (0 : Int32) = nI 0 from rfl] at this
    simp (disch := omega) only [li0, li1, li2, li3, li4, li5, li6, li7, li8, li11, li12, li16, li24, li25, li26, li31, li32, li36, li40, li48, li52, li58, li59, li60, li63, li64, li88, li96, li130, li192, li255, li2208, li2304, li9999, cmp0, cmpl, cmpg, cmple, cmpge, nI_leI, nI_ltI, nI_eq, rL, rI, wL, wI, Option.bind_some, aLet, nI_add, pk_mul, ↓reduceIte, if_true, if_false, eq_self, Nat.reduceEqDiff, Nat.reduceLeDiff, Nat.reduceLT, Nat.one_ne_zero, Nat.zero_ne_one, Nat.add_zero, Bool.false_eq_true, this]
    exact congrArg some (congrArg nI (ms_cong (fun v _ => by
      rw [ek v, bc_vc ok]
      have := vc_or (d := d) (P := own d 0) (Q := bes (own d (i + 1))) (v := v)
      simp only [spv, plv, li0, li1, li2, li3, li4, li5, li6, li7, li8, li11, li12, li16, li24, li25, li26, li31, li32, li36, li40, li48, li52, li58, li59, li60, li63, li64, li88, li96, li130, li192, li255, li2208, li2304, li9999, cmp0, cmpl, cmpg, cmple, cmpge, nI_leI, nI_ltI, nI_eq, rL, rI, wL, wI, Option.bind_some, aLet, nI_add, pk_mul, ↓reduceIte, if_true, if_false, eq_self, Nat.reduceEqDiff, Nat.reduceLeDiff, Nat.reduceLT, Nat.one_ne_zero, Nat.zero_ne_one, Nat.add_zero, Bool.false_eq_true]
      rw [decide_eq_decide.mpr this, Bool.decide_or]
      simp [Bool.or_assoc])))
