/-! who is there: holders, words, cells, in the program and in the reference -/
theorem c_within (x a b : Int32) : X8_within x a b = if a ≤ x ∧ x ≤ b then 1 else 0 := by
  unfold X8_within
  by_cases h1 : x < a
  · have : ¬ a ≤ x := fun q => by rw [fa_le] at q; rw [fa_lt] at h1; omega
    simp [h1, this]
  · have h2 : a ≤ x := fa_of_nlt h1
    by_cases h3 : x ≤ b
    · simp [h1, h2, h3]
    · simp [h1, h2, h3]
theorem r_in (x a b : Int32) : X9_in x.toInt64 a.toInt64 b.toInt64 = if a ≤ x ∧ x ≤ b then 1 else 0 := by
  unfold X9_in
  simp only [lg_cmp_lt, lg_cmp_gt, fa_wide_lt]
  by_cases h1 : x < a
  · have : ¬ a ≤ x := fun q => by rw [fa_le] at q; rw [fa_lt] at h1; omega
    simp [h1, this]
  · have h2 : a ≤ x := fa_of_nlt h1
    by_cases h3 : b < x
    · have : ¬ x ≤ b := fun q => by rw [fa_le] at q; rw [fa_lt] at h3; omega
      simp [h1, h3, this]
    · have : x ≤ b := fa_of_nlt h3
      simp [h1, h2, h3, this]
theorem cH0 {d : LD} {S : Rec} (hS : LandOf d S) {x : Int32} (hx : x < 0 ∨ nI (lH d) ≤ x) : X2_hasHolder S x = 0 := by
  unfold X2_hasHolder
  rw [hS.1]
  rcases hx with h | h
  · simp [h]
  · simp [h]
theorem cH1 {d : LD} {S : Rec} (ok : okL d) (hS : LandOf d S) {i : Nat} (hi : i < lH d) : X2_hasHolder S (nI i) = 1 := by
  have h6 := ok.1
  unfold X2_hasHolder
  rw [hS.1, if_neg (nI_pos (by omega))]
  have h1 : ¬ lH d ≤ i := by omega
  have h2 : ¬ 6 ≤ i := by omega
  simp (disch := omega) only [li0, li1, li2, li3, li4, li5, li6, li7, li8, li11, li12, li16, li24, li25, li26, li31, li32, li36, li40, li48, li52, li58, li59, li60, li63, li64, li88, li96, li130, li192, li255, li2208, li2304, li9999, cmp0, cmpl, cmpg, cmple, cmpge, nI_leI, nI_ltI, nI_eq, rL, rI, wL, wI, Option.bind_some, aLet, nI_add, pk_mul, ↓reduceIte, if_true, if_false, eq_self, Nat.reduceEqDiff, Nat.reduceLeDiff, Nat.reduceLT, Nat.one_ne_zero, Nat.zero_ne_one, Nat.add_zero, Bool.false_eq_true, h1, h2]
theorem cW0 {d : LD} {S : Rec} (hS : LandOf d S) {x : Int32} (hx : x < 0 ∨ nI (lW d) ≤ x) : X2_hasWord S x = 0 := by
  unfold X2_hasWord
  rw [hS.2.2.2.2.1]
  rcases hx with h | h
  · simp [h]
  · simp [h]
theorem cW1 {d : LD} {S : Rec} (ok : okL d) (hS : LandOf d S) {i : Nat} (hi : i < lW d) : X2_hasWord S (nI i) = 1 := by
  have h6 := ok.2.2.2.2.1
  unfold X2_hasWord
  rw [hS.2.2.2.2.1, if_neg (nI_pos (by omega))]
  have h1 : ¬ lW d ≤ i := by omega
  have h2 : ¬ 4 ≤ i := by omega
  simp (disch := omega) only [li0, li1, li2, li3, li4, li5, li6, li7, li8, li11, li12, li16, li24, li25, li26, li31, li32, li36, li40, li48, li52, li58, li59, li60, li63, li64, li88, li96, li130, li192, li255, li2208, li2304, li9999, cmp0, cmpl, cmpg, cmple, cmpge, nI_leI, nI_ltI, nI_eq, rL, rI, wL, wI, Option.bind_some, aLet, nI_add, pk_mul, ↓reduceIte, if_true, if_false, eq_self, Nat.reduceEqDiff, Nat.reduceLeDiff, Nat.reduceLT, Nat.one_ne_zero, Nat.zero_ne_one, Nat.add_zero, Bool.false_eq_true, h1, h2]
theorem r_less {n : Nat} (hn : n ≤ 1000) (x : Int32) : X9_in x.toInt64 (0 : Int64) ((nI n - (1 : Int32)).toInt64) = if 0 ≤ x ∧ x < nI n then 1 else 0 := by
  rw [show (0 : Int64) = (0 : Int32).toInt64 from by decide, r_in]
  have e : (nI n - (1 : Int32)).toInt = (n : Int) - 1 := pk_sub_toInt (b := 1) (by omega) (by omega)
  have e2 : (x ≤ nI n - 1) = (x < nI n) := by
    rw [fa_le, fa_lt, e, nI_toInt (by omega)]
    apply propext
    omega
  simp only [e2]
theorem rH0 {d : LD} {m : Rec} (ok : okL d) (hf : RowOf d (m.2.1 0)) {x : Int32} (hx : x < 0 ∨ nI (lH d) ≤ x) : X9_isHolder m x = some 0 := by
  have h6 := ok.1
  unfold X9_isHolder
  simp (disch := omega) only [li0, li1, li2, li3, li4, li5, li6, li7, li8, li11, li12, li16, li24, li25, li26, li31, li32, li36, li40, li48, li52, li58, li59, li60, li63, li64, li88, li96, li130, li192, li255, li2208, li2304, li9999, cmp0, cmpl, cmpg, cmple, cmpge, nI_leI, nI_ltI, nI_eq, rL, rI, wL, wI, Option.bind_some, aLet, nI_add, pk_mul, ↓reduceIte, if_true, if_false, eq_self, Nat.reduceEqDiff, Nat.reduceLeDiff, Nat.reduceLT, Nat.one_ne_zero, Nat.zero_ne_one, Nat.add_zero, Bool.false_eq_true, hf.1]
  rw [show nI 0 = 0 from rfl, show nI 1 = 1 from rfl, r_less (by omega), if_neg]
  rintro ⟨h1, h2⟩
  rw [fa_le] at h1
  rw [fa_lt, nI_toInt (by omega)] at h2
  rcases hx with h | h
  · rw [fa_lt] at h
    have : (0 : Int32).toInt = 0 := rfl
    omega
  · rw [fa_le, nI_toInt (by omega)] at h
    omega
theorem rH1 {d : LD} {m : Rec} (ok : okL d) (hf : RowOf d (m.2.1 0)) {i : Nat} (hi : i < lH d) : X9_isHolder m (nI i) = some 1 := by
  have h6 := ok.1
  unfold X9_isHolder
  simp (disch := omega) only [li0, li1, li2, li3, li4, li5, li6, li7, li8, li11, li12, li16, li24, li25, li26, li31, li32, li36, li40, li48, li52, li58, li59, li60, li63, li64, li88, li96, li130, li192, li255, li2208, li2304, li9999, cmp0, cmpl, cmpg, cmple, cmpge, nI_leI, nI_ltI, nI_eq, rL, rI, wL, wI, Option.bind_some, aLet, nI_add, pk_mul, ↓reduceIte, if_true, if_false, eq_self, Nat.reduceEqDiff, Nat.reduceLeDiff, Nat.reduceLT, Nat.one_ne_zero, Nat.zero_ne_one, Nat.add_zero, Bool.false_eq_true, hf.1]
  rw [show nI 1 = 1 from rfl, r_less (by omega), if_pos]
  exact ⟨nI_pos' (by omega), nI_lt hi (by omega)⟩
theorem rW0 {d : LD} {m : Rec} (ok : okL d) (hf : RowOf d (m.2.1 0)) {x : Int32} (hx : x < 0 ∨ nI (lW d) ≤ x) : X9_isWord m x = some 0 := by
  have h6 := ok.2.2.2.2.1
  unfold X9_isWord
  simp (disch := omega) only [li0, li1, li2, li3, li4, li5, li6, li7, li8, li11, li12, li16, li24, li25, li26, li31, li32, li36, li40, li48, li52, li58, li59, li60, li63, li64, li88, li96, li130, li192, li255, li2208, li2304, li9999, cmp0, cmpl, cmpg, cmple, cmpge, nI_leI, nI_ltI, nI_eq, rL, rI, wL, wI, Option.bind_some, aLet, nI_add, pk_mul, ↓reduceIte, if_true, if_false, eq_self, Nat.reduceEqDiff, Nat.reduceLeDiff, Nat.reduceLT, Nat.one_ne_zero, Nat.zero_ne_one, Nat.add_zero, Bool.false_eq_true, hf.2.2.2.2.1]
  rw [show nI 0 = 0 from rfl, show nI 1 = 1 from rfl, r_less (by omega), if_neg]
  rintro ⟨h1, h2⟩
  rw [fa_le] at h1
  rw [fa_lt, nI_toInt (by omega)] at h2
  rcases hx with h | h
  · rw [fa_lt] at h
    have : (0 : Int32).toInt = 0 := rfl
    omega
  · rw [fa_le, nI_toInt (by omega)] at h
    omega
theorem rW1 {d : LD} {m : Rec} (ok : okL d) (hf : RowOf d (m.2.1 0)) {i : Nat} (hi : i < lW d) : X9_isWord m (nI i) = some 1 := by
  have h6 := ok.2.2.2.2.1
  unfold X9_isWord
  simp (disch := omega) only [li0, li1, li2, li3, li4, li5, li6, li7, li8, li11, li12, li16, li24, li25, li26, li31, li32, li36, li40, li48, li52, li58, li59, li60, li63, li64, li88, li96, li130, li192, li255, li2208, li2304, li9999, cmp0, cmpl, cmpg, cmple, cmpge, nI_leI, nI_ltI, nI_eq, rL, rI, wL, wI, Option.bind_some, aLet, nI_add, pk_mul, ↓reduceIte, if_true, if_false, eq_self, Nat.reduceEqDiff, Nat.reduceLeDiff, Nat.reduceLT, Nat.one_ne_zero, Nat.zero_ne_one, Nat.add_zero, Bool.false_eq_true, hf.2.2.2.2.1]
  rw [show nI 1 = 1 from rfl, r_less (by omega), if_pos]
  exact ⟨nI_pos' (by omega), nI_lt hi (by omega)⟩
theorem cC1 {d : LD} {S : Rec} (ok : okL d) (hS : LandOf d S) {c : Nat} (hc : c < 64) : X2_hasCell S (nI c) = some (if inC d c then 1 else 0) := by
  obtain ⟨x, hx, hb⟩ := c_every ok hS
  have h1 : ¬ 64 ≤ c := by omega
  unfold X2_hasCell
  rw [if_neg (nI_pos (by omega)), if_neg (show ¬ (64 : Int32) ≤ nI c from nI_ge (b := 64) hc (by decide)), hx, Option.bind_some]
  cases q : inC d c
  · rw [if_pos ((tb_at x hc).mpr ((hb c hc).trans q))]
    rfl
  · rw [if_neg (fun z => by rw [tb_at x hc, hb c hc, q] at z; cases z)]
    rfl
theorem cC0 {S : Rec} {x : Int32} (hx : x < 0 ∨ nI 64 ≤ x) : X2_hasCell S x = some 0 := by
  unfold X2_hasCell
  rcases hx with h | h
  · simp [h]
  · have h : (64 : Int32) ≤ x := h
    simp [h]
theorem rC1 {d : LD} {m : Rec} (ok : okL d) (hf : RowOf d (m.2.1 0)) {c : Nat} (hc : c < 2 ^ 31) : X9_isCell m (nI c) = some (if inC d c then 1 else 0) := by
  obtain ⟨-, h1, h2, -⟩ := ok
  unfold X9_isCell
  rw [if_neg (nI_pos hc)]
  simp (disch := omega) only [li0, li1, li2, li3, li4, li5, li6, li7, li8, li11, li12, li16, li24, li25, li26, li31, li32, li36, li40, li48, li52, li58, li59, li60, li63, li64, li88, li96, li130, li192, li255, li2208, li2304, li9999, cmp0, cmpl, cmpg, cmple, cmpge, nI_leI, nI_ltI, nI_eq, rL, rI, wL, wI, Option.bind_some, aLet, nI_add, pk_mul, ↓reduceIte, if_true, if_false, eq_self, Nat.reduceEqDiff, Nat.reduceLeDiff, Nat.reduceLT, Nat.one_ne_zero, Nat.zero_ne_one, Nat.add_zero, Bool.false_eq_true, pk_div, pk_sub, hf.2.1, hf.2.2.1]
  rw [show c - c / 8 * 8 = c % 8 by omega]
  unfold inC
  by_cases q1 : lR d ≤ c / 8
  · have : ¬ c / 8 < lR d := by omega
    simp [q1, this]
  · have e1 : c / 8 < lR d := by omega
    by_cases q2 : lC d ≤ c % 8
    · have : ¬ c % 8 < lC d := by omega
      simp [q1, q2, this]
    · have e2 : c % 8 < lC d := by omega
      simp [q1, q2, e1, e2]
theorem rC0 {m : Rec} {x : Int32} (hx : x < 0) : X9_isCell m x = some 0 := by
  unfold X9_isCell
  simp [hx]
theorem inC_64 {d : LD} (ok : okL d) {c : Nat} (h : 64 ≤ c) : inC d c = false := by
  obtain ⟨-, -, h2, -⟩ := ok
  unfold inC
  have : ¬ c / 8 < lR d := by omega
  simp [this]
