/-! beside one's cells, in the reference's row -/
def own (d : LD) (o : Nat) (c : Nat) : Bool := inC d c && decide (lO d (pl c) = o)
def hisP (d : LD) (r c o : Nat) : Bool := decide (r < lR d) && decide (c < lC d) && decide (lO d (6 * r + c) = o)
theorem own_rc (d : LD) (o r : Nat) {c : Nat} (hc : c < 8) : own d o (8 * r + c) = hisP d r c o := by
  unfold own hisP inC pl
  rw [show (8 * r + c) / 8 = r by omega, show (8 * r + c) % 8 = c by omega]
theorem r_lessN {n j : Nat} (hn : n ≤ 1000) (hj : j < 2 ^ 31) : X9_in (nI j).toInt64 (0 : Int64) ((nI n - nI 1).toInt64) = if j < n then 1 else 0 := by
  have := r_less hn (nI j)
  rw [show (1 : Int32) = nI 1 from rfl] at this
  rw [this]
  by_cases h : j < n
  · rw [if_pos h, if_pos ⟨nI_pos' hj, nI_lt h (by omega)⟩]
    rfl
  · rw [if_neg h, if_neg (fun q => nI_nlt (by omega) hj q.2)]
theorem r_lessM (y : Int64) : X9_in (nI 0 - nI 1).toInt64 (0 : Int64) y = 0 := by
  unfold X9_in
  rw [if_pos]
  decide +kernel
theorem r_his {d : LD} {f : Nat → Int32} (ok : okL d) (hf : RowOf d f) {r c o : Nat} (hr : r ≤ 10) (hc : c ≤ 10) (ho : o ≤ 10) : X9_isHis f (nI r) (nI c) (nI o) = some (if hisP d r c o then 1 else 0) := by
  have hC := ok.2.1
  have hR := ok.2.2.1
  unfold X9_isHis
  simp (disch := omega) only [li0, li1, li2, li3, li4, li5, li6, li7, li8, li11, li12, li16, li24, li25, li26, li31, li32, li36, li40, li48, li52, li58, li59, li60, li63, li64, li88, li96, li130, li192, li255, li2208, li2304, li9999, cmp0, cmpl, cmpg, cmple, cmpge, nI_leI, nI_ltI, nI_eq, rL, rI, wL, wI, Option.bind_some, aLet, nI_add, pk_mul, ↓reduceIte, if_true, if_false, eq_self, Nat.reduceEqDiff, Nat.reduceLeDiff, Nat.reduceLT, Nat.one_ne_zero, Nat.zero_ne_one, Nat.add_zero, Bool.false_eq_true, hf.2.1, hf.2.2.1, r_lessN]
  unfold hisP
  by_cases a : r < lR d
  · by_cases b : c < lC d
    · have e := hf.2.2.2.2.2.2.2.2.1 (6 * r + c) (by omega)
      have hq : lO d (6 * r + c) ≤ 6 := Nat.le_trans (ok.2.2.2.2.2.2.2.2.1 _ (by omega)) ok.1
      rw [← Nat.add_assoc] at e
      simp (disch := omega) only [a, b, li0, li1, li2, li3, li4, li5, li6, li7, li8, li11, li12, li16, li24, li25, li26, li31, li32, li36, li40, li48, li52, li58, li59, li60, li63, li64, li88, li96, li130, li192, li255, li2208, li2304, li9999, cmp0, cmpl, cmpg, cmple, cmpge, nI_leI, nI_ltI, nI_eq, rL, rI, wL, wI, Option.bind_some, aLet, nI_add, pk_mul, ↓reduceIte, if_true, if_false, eq_self, Nat.reduceEqDiff, Nat.reduceLeDiff, Nat.reduceLT, Nat.one_ne_zero, Nat.zero_ne_one, Nat.add_zero, Bool.false_eq_true, e]
      by_cases z : lO d (6 * r + c) = o
      · simp [z]
      · simp [z]
    · simp (disch := omega) only [a, b, li0, li1, li2, li3, li4, li5, li6, li7, li8, li11, li12, li16, li24, li25, li26, li31, li32, li36, li40, li48, li52, li58, li59, li60, li63, li64, li88, li96, li130, li192, li255, li2208, li2304, li9999, cmp0, cmpl, cmpg, cmple, cmpge, nI_leI, nI_ltI, nI_eq, rL, rI, wL, wI, Option.bind_some, aLet, nI_add, pk_mul, ↓reduceIte, if_true, if_false, eq_self, Nat.reduceEqDiff, Nat.reduceLeDiff, Nat.reduceLT, Nat.one_ne_zero, Nat.zero_ne_one, Nat.add_zero, Bool.false_eq_true]
      simp
  · simp (disch := omega) only [a, li0, li1, li2, li3, li4, li5, li6, li7, li8, li11, li12, li16, li24, li25, li26, li31, li32, li36, li40, li48, li52, li58, li59, li60, li63, li64, li88, li96, li130, li192, li255, li2208, li2304, li9999, cmp0, cmpl, cmpg, cmple, cmpge, nI_leI, nI_ltI, nI_eq, rL, rI, wL, wI, Option.bind_some, aLet, nI_add, pk_mul, ↓reduceIte, if_true, if_false, eq_self, Nat.reduceEqDiff, Nat.reduceLeDiff, Nat.reduceLT, Nat.one_ne_zero, Nat.zero_ne_one, Nat.add_zero, Bool.false_eq_true]
    simp
theorem r_hisU {d : LD} {f : Nat → Int32} (hf : RowOf d f) (x y : Int32) : X9_isHis f (nI 0 - nI 1) x y = some 0 := by
  unfold X9_isHis
  simp (disch := omega) only [li0, li1, li2, li3, li4, li5, li6, li7, li8, li11, li12, li16, li24, li25, li26, li31, li32, li36, li40, li48, li52, li58, li59, li60, li63, li64, li88, li96, li130, li192, li255, li2208, li2304, li9999, cmp0, cmpl, cmpg, cmple, cmpge, nI_leI, nI_ltI, nI_eq, rL, rI, wL, wI, Option.bind_some, aLet, nI_add, pk_mul, ↓reduceIte, if_true, if_false, eq_self, Nat.reduceEqDiff, Nat.reduceLeDiff, Nat.reduceLT, Nat.one_ne_zero, Nat.zero_ne_one, Nat.add_zero, Bool.false_eq_true, hf.2.1, hf.2.2.1, r_lessM]
theorem r_hisL {d : LD} {f : Nat → Int32} (ok : okL d) (hf : RowOf d f) {r : Nat} (hr : r ≤ 10) (y : Int32) : X9_isHis f (nI r) (nI 0 - nI 1) y = some 0 := by
  have hR := ok.2.2.1
  unfold X9_isHis
  simp (disch := omega) only [li0, li1, li2, li3, li4, li5, li6, li7, li8, li11, li12, li16, li24, li25, li26, li31, li32, li36, li40, li48, li52, li58, li59, li60, li63, li64, li88, li96, li130, li192, li255, li2208, li2304, li9999, cmp0, cmpl, cmpg, cmple, cmpge, nI_leI, nI_ltI, nI_eq, rL, rI, wL, wI, Option.bind_some, aLet, nI_add, pk_mul, ↓reduceIte, if_true, if_false, eq_self, Nat.reduceEqDiff, Nat.reduceLeDiff, Nat.reduceLT, Nat.one_ne_zero, Nat.zero_ne_one, Nat.add_zero, Bool.false_eq_true, hf.2.1, hf.2.2.1, r_lessN, r_lessM]
  by_cases a : r < lR d
  · simp (disch := omega) only [a, li0, li1, li2, li3, li4, li5, li6, li7, li8, li11, li12, li16, li24, li25, li26, li31, li32, li36, li40, li48, li52, li58, li59, li60, li63, li64, li88, li96, li130, li192, li255, li2208, li2304, li9999, cmp0, cmpl, cmpg, cmple, cmpge, nI_leI, nI_ltI, nI_eq, rL, rI, wL, wI, Option.bind_some, aLet, nI_add, pk_mul, ↓reduceIte, if_true, if_false, eq_self, Nat.reduceEqDiff, Nat.reduceLeDiff, Nat.reduceLT, Nat.one_ne_zero, Nat.zero_ne_one, Nat.add_zero, Bool.false_eq_true]
  · simp (disch := omega) only [a, li0, li1, li2, li3, li4, li5, li6, li7, li8, li11, li12, li16, li24, li25, li26, li31, li32, li36, li40, li48, li52, li58, li59, li60, li63, li64, li88, li96, li130, li192, li255, li2208, li2304, li9999, cmp0, cmpl, cmpg, cmple, cmpge, nI_leI, nI_ltI, nI_eq, rL, rI, wL, wI, Option.bind_some, aLet, nI_add, pk_mul, ↓reduceIte, if_true, if_false, eq_self, Nat.reduceEqDiff, Nat.reduceLeDiff, Nat.reduceLT, Nat.one_ne_zero, Nat.zero_ne_one, Nat.add_zero, Bool.false_eq_true]
theorem bes_p {d : LD} (ok : okL d) (o : Nat) {p : Nat} (hp : p < 36) (hi : inP d p = true) : bes (own d o) (cl p) = (!decide (lO d p = o) && ((decide (1 ≤ p / 6) && hisP d (p / 6 - 1) (p % 6) o) || hisP d (p / 6 + 1) (p % 6) o || (decide (1 ≤ p % 6) && hisP d (p / 6) (p % 6 - 1) o) || hisP d (p / 6) (p % 6 + 1) o)) := by
  have hC := ok.2.1
  have h7 : ∀ r, hisP d r 7 o = false := fun r => by
    unfold hisP
    have : ¬ 7 < lC d := by omega
    simp [this]
  have e0 : own d o (cl p) = decide (lO d p = o) := by
    unfold own
    rw [inC_cl, hi, pl_cl, Bool.true_and]
  have e1 : (decide (1 ≤ cl p) && own d o (cl p - 1)) = (decide (1 ≤ p % 6) && hisP d (p / 6) (p % 6 - 1) o) := by
    unfold cl
    by_cases q : 1 ≤ p % 6
    · rw [show 8 * (p / 6) + p % 6 - 1 = 8 * (p / 6) + (p % 6 - 1) by omega, own_rc d o _ (by omega)]
      simp [q, show 1 ≤ 8 * (p / 6) + p % 6 by omega]
    · by_cases q2 : 1 ≤ p / 6
      · rw [show 8 * (p / 6) + p % 6 - 1 = 8 * (p / 6 - 1) + 7 by omega, own_rc d o _ (by omega), h7]
        simp [q]
      · simp [q, show ¬ 1 ≤ 8 * (p / 6) + p % 6 by omega]
  have e2 : own d o (1 + cl p) = hisP d (p / 6) (p % 6 + 1) o := by
    unfold cl
    rw [show 1 + (8 * (p / 6) + p % 6) = 8 * (p / 6) + (p % 6 + 1) by omega, own_rc d o _ (by omega)]
  have e3 : (decide (8 ≤ cl p) && own d o (cl p - 8)) = (decide (1 ≤ p / 6) && hisP d (p / 6 - 1) (p % 6) o) := by
    unfold cl
    by_cases q : 1 ≤ p / 6
    · rw [show 8 * (p / 6) + p % 6 - 8 = 8 * (p / 6 - 1) + p % 6 by omega, own_rc d o _ (by omega)]
      simp [q, show 8 ≤ 8 * (p / 6) + p % 6 by omega]
    · simp [q, show ¬ 8 ≤ 8 * (p / 6) + p % 6 by omega]
  have e4 : own d o (8 + cl p) = hisP d (p / 6 + 1) (p % 6) o := by
    unfold cl
    rw [show 8 + (8 * (p / 6) + p % 6) = 8 * (p / 6 + 1) + p % 6 by omega, own_rc d o _ (by omega)]
  unfold bes
  rw [e0, e1, e2, e3, e4]
  generalize (decide (1 ≤ p % 6) && hisP d (p / 6) (p % 6 - 1) o) = b1
  generalize (decide (1 ≤ p / 6) && hisP d (p / 6 - 1) (p % 6) o) = b2
  generalize hisP d (p / 6 + 1) (p % 6) o = b3
  generalize hisP d (p / 6) (p % 6 + 1) o = b4
  generalize decide (lO d p = o) = b5
  revert b1 b2 b3 b4 b5
  decide
theorem r_beside {d : LD} {f : Nat → Int32} (ok : okL d) (hf : RowOf d f) {p o : Nat} (hp : p < 36) (hi : inP d p = true) (ho : o ≤ 10) : X9_isBeside f (nI p) (nI o) = some (if bes (own d o) (cl p) then 1 else 0) := by
  have e := hf.2.2.2.2.2.2.2.2.1 p hp
  have hq : lO d p ≤ 6 := Nat.le_trans (ok.2.2.2.2.2.2.2.2.1 _ hp) ok.1
  rw [bes_p ok o hp hi]
  have hU : X9_isHis f (nI (p / 6) - nI 1) (nI (p % 6)) (nI o) = some (if decide (1 ≤ p / 6) && hisP d (p / 6 - 1) (p % 6) o then 1 else 0) := by
    by_cases q : 1 ≤ p / 6
    · rw [pk_sub q, r_his ok hf (by omega) (by omega) ho]
      simp [q]
    · rw [show p / 6 = 0 by omega, r_hisU hf]
      simp
  have hL : X9_isHis f (nI (p / 6)) (nI (p % 6) - nI 1) (nI o) = some (if decide (1 ≤ p % 6) && hisP d (p / 6) (p % 6 - 1) o then 1 else 0) := by
    by_cases q : 1 ≤ p % 6
    · rw [pk_sub q, r_his ok hf (by omega) (by omega) ho]
      simp [q]
    · rw [show p % 6 = 0 by omega, r_hisL ok hf (by omega)]
      simp
  have hD := r_his ok hf (r := p / 6 + 1) (c := p % 6) (o := o) (by omega) (by omega) ho
  have hR := r_his ok hf (r := p / 6) (c := p % 6 + 1) (o := o) (by omega) (by omega) ho
  have e6 : p - p / 6 * 6 = p % 6 := by omega
  unfold X9_isBeside
  simp (disch := omega) only [li0, li1, li2, li3, li4, li5, li6, li7, li8, li11, li12, li16, li24, li25, li26, li31, li32, li36, li40, li48, li52, li58, li59, li60, li63, li64, li88, li96, li130, li192, li255, li2208, li2304, li9999, cmp0, cmpl, cmpg, cmple, cmpge, nI_leI, nI_ltI, nI_eq, rL, rI, wL, wI, Option.bind_some, aLet, nI_add, pk_mul, ↓reduceIte, if_true, if_false, eq_self, Nat.reduceEqDiff, Nat.reduceLeDiff, Nat.reduceLT, Nat.one_ne_zero, Nat.zero_ne_one, Nat.add_zero, Bool.false_eq_true, pk_div]
  simp only [pk_sub (show p / 6 * 6 ≤ p by omega), e6, nI_add, hU, hL, hD, hR, e, Option.bind_some]
  generalize (decide (1 ≤ p / 6) && hisP d (p / 6 - 1) (p % 6) o) = b1
  generalize (decide (1 ≤ p % 6) && hisP d (p / 6) (p % 6 - 1) o) = b2
  generalize hisP d (p / 6 + 1) (p % 6) o = b3
  generalize hisP d (p / 6) (p % 6 + 1) o = b4
  by_cases z : lO d p = o
  · simp (disch := omega) only [z, li0, li1, li2, li3, li4, li5, li6, li7, li8, li11, li12, li16, li24, li25, li26, li31, li32, li36, li40, li48, li52, li58, li59, li60, li63, li64, li88, li96, li130, li192, li255, li2208, li2304, li9999, cmp0, cmpl, cmpg, cmple, cmpge, nI_leI, nI_ltI, nI_eq, rL, rI, wL, wI, Option.bind_some, aLet, nI_add, pk_mul, ↓reduceIte, if_true, if_false, eq_self, Nat.reduceEqDiff, Nat.reduceLeDiff, Nat.reduceLT, Nat.one_ne_zero, Nat.zero_ne_one, Nat.add_zero, Bool.false_eq_true]
    simp
  · simp (disch := omega) only [z, li0, li1, li2, li3, li4, li5, li6, li7, li8, li11, li12, li16, li24, li25, li26, li31, li32, li36, li40, li48, li52, li58, li59, li60, li63, li64, li88, li96, li130, li192, li255, li2208, li2304, li9999, cmp0, cmpl, cmpg, cmple, cmpge, nI_leI, nI_ltI, nI_eq, rL, rI, wL, wI, Option.bind_some, aLet, nI_add, pk_mul, ↓reduceIte, if_true, if_false, eq_self, Nat.reduceEqDiff, Nat.reduceLeDiff, Nat.reduceLT, Nat.one_ne_zero, Nat.zero_ne_one, Nat.add_zero, Bool.false_eq_true]
    revert b1 b2 b3 b4
    decide
