/-! drawn -/
theorem row_sold {d : LD} {f : Nat → Int32} (ok : okL d) (hf : RowOf d f) {q to : Nat} (hq : q < 36) : RowOf (soldD d q to) (upd f (52 + q) (nI to)) := by
  obtain ⟨b1, b2, b3, b4, b5, b6, b7, b8, b9, b10⟩ := hf
  have h6 := ok.1
  have o : ∀ j, j ≠ 52 + q → upd f (52 + q) (nI to) j = f j := fun j h => pk_un h
  refine ⟨(o _ (by omega)).trans b1, (o _ (by omega)).trans b2, (o _ (by omega)).trans b3, (o _ (by omega)).trans b4, (o _ (by omega)).trans b5, fun i hi => (o _ ?_).trans (b6 i hi), fun v hv => (o _ (by omega)).trans (b7 v hv), fun p hp => (o _ (by omega)).trans (b8 p hp), fun p hp => ?_, fun w hw => ⟨(o _ (by omega)).trans (b10 w hw).1, (o _ (by omega)).trans (b10 w hw).2⟩⟩
  · have hi : i < lH d := hi
    omega
  · show upd f (52 + q) (nI to) (52 + p) = nI (if p = q then to else lO d p)
    by_cases z : p = q
    · subst z
      rw [pk_us, if_pos rfl]
    · rw [o _ (by omega), if_neg z, b9 p hp]
theorem row_tuned {d : LD} {f : Nat → Int32} (ok : okL d) (hf : RowOf d f) {q to : Nat} (hq : q < 36) : RowOf (tunedD d q to) (upd f (16 + q) (nI to)) := by
  obtain ⟨b1, b2, b3, b4, b5, b6, b7, b8, b9, b10⟩ := hf
  have h6 := ok.1
  have o : ∀ j, j ≠ 16 + q → upd f (16 + q) (nI to) j = f j := fun j h => pk_un h
  refine ⟨(o _ (by omega)).trans b1, (o _ (by omega)).trans b2, (o _ (by omega)).trans b3, (o _ (by omega)).trans b4, (o _ (by omega)).trans b5, fun i hi => (o _ ?_).trans (b6 i hi), fun v hv => (o _ (by omega)).trans (b7 v hv), fun p hp => ?_, fun p hp => (o _ (by omega)).trans (b9 p hp), fun w hw => ⟨(o _ (by omega)).trans (b10 w hw).1, (o _ (by omega)).trans (b10 w hw).2⟩⟩
  · have hi : i < lH d := hi
    omega
  · show upd f (16 + q) (nI to) (16 + p) = nI (if p = q then to else lS d p)
    by_cases z : p = q
    · subst z
      rw [pk_us, if_pos rfl]
    · rw [o _ (by omega), if_neg z, b8 p hp]
/-- the k-th cell, row by row -/
def kth (d : LD) (k : Nat) : Nat := 8 * (k / lC d) + k % lC d
theorem kth_in {d : LD} (ok : okL d) {k : Nat} (hk : k < lR d * lC d) : inC d (kth d k) = true ∧ kth d k < 64 ∧ pl (kth d k) = 6 * (k / lC d) + k % lC d := by
  obtain ⟨-, h1, h2, -⟩ := ok
  have h0 : 0 < lC d := by
    rcases Nat.eq_zero_or_pos (lC d) with z | z
    · rw [z] at hk
      omega
    · exact z
  have m := Nat.mod_lt k h0
  have q : k / lC d < lR d := (Nat.div_lt_iff_lt_mul h0).mpr hk
  have e1 : kth d k / 8 = k / lC d := by unfold kth; omega
  have e2 : kth d k % 8 = k % lC d := by unfold kth; omega
  refine ⟨?_, by unfold kth; omega, by unfold pl; rw [e1, e2]⟩
  unfold inC
  rw [e1, e2]
  simp [q, m]
theorem r_cellsN {d : LD} {m : Rec} (ok : okL d) (hf : RowOf d (m.2.1 0)) : X9_cells m = some (nI (lR d * lC d)) := by
  obtain ⟨-, h1, h2, -⟩ := ok
  unfold X9_cells
  simp (disch := omega) only [li0, li1, li2, li3, li4, li5, li6, li7, li8, li11, li12, li16, li24, li25, li26, li31, li32, li36, li40, li48, li52, li58, li59, li60, li63, li64, li88, li96, li130, li192, li255, li2208, li2304, li9999, li9, li13, li14, li30, li35, li44, li45, li46, li47, li97, li98, li100, li101, li104, li105, li108, li110, li111, li112, li114, li117, li122, li999999, li1000000, li2147483647, cmp0, cmpl, cmpg, cmple, cmpge, nI_leI, nI_ltI, nI_eq, rL, rI, wL, wI, ob, aLet, nI_add, pk_mul, ↓reduceIte, if_true, if_false, eq_self, Nat.reduceEqDiff, Nat.reduceLeDiff, Nat.reduceLT, Nat.one_ne_zero, Nat.zero_ne_one, Nat.add_zero, Bool.false_eq_true, nI_neq, hf.2.1, hf.2.2.1]
theorem c_cellsN {d : LD} {S : Rec} (hS : LandOf d S) : X2_cells S = nI (lR d * lC d) := by
  unfold X2_cells
  rw [hS.2.2.1, hS.2.1, pk_mul]
theorem r_placeBy {d : LD} {m : Rec} (ok : okL d) (hf : RowOf d (m.2.1 0)) {k : Nat} (hk : k < lR d * lC d) : X9_placeBy m (nI k) = some (nI (pl (kth d k))) := by
  have hh := kth_in ok hk
  obtain ⟨-, h1, h2, -⟩ := ok
  have h0 : 0 < lC d := by
    rcases Nat.eq_zero_or_pos (lC d) with z | z
    · rw [z] at hk
      omega
    · exact z
  have hm : lR d * lC d ≤ 6 * 6 := Nat.mul_le_mul h2 h1
  have z : ¬ lC d = 0 := by omega
  unfold X9_placeBy
  simp (disch := omega) only [li0, li1, li2, li3, li4, li5, li6, li7, li8, li11, li12, li16, li24, li25, li26, li31, li32, li36, li40, li48, li52, li58, li59, li60, li63, li64, li88, li96, li130, li192, li255, li2208, li2304, li9999, li9, li13, li14, li30, li35, li44, li45, li46, li47, li97, li98, li100, li101, li104, li105, li108, li110, li111, li112, li114, li117, li122, li999999, li1000000, li2147483647, cmp0, cmpl, cmpg, cmple, cmpge, nI_leI, nI_ltI, nI_eq, rL, rI, wL, wI, ob, aLet, nI_add, pk_mul, ↓reduceIte, if_true, if_false, eq_self, Nat.reduceEqDiff, Nat.reduceLeDiff, Nat.reduceLT, Nat.one_ne_zero, Nat.zero_ne_one, Nat.add_zero, Bool.false_eq_true, nI_neq, hf.2.1, z, pk_rem, pk_div]
  have e := Nat.div_add_mod k (lC d)
  rw [Nat.mul_comm] at e
  rw [hh.2.2, pk_sub (Nat.div_mul_le_self _ _), nI_add, show k - k / lC d * lC d = k % lC d by omega]
theorem area {d : LD} (ok : okL d) (h : 0 < lH d) : 0 < lC d ∧ 0 < lR d * lC d ∧ lR d * lC d ≤ 36 := by
  have h3 := ok.2.2.2.2.2.2.2.2.2.2.2 h
  have hm : lR d * lC d ≤ 6 * 6 := Nat.mul_le_mul ok.2.2.1 ok.2.1
  exact ⟨h3.1, Nat.mul_pos h3.2.1 h3.1, by omega⟩
theorem nI_l64 {n : Nat} (h : n < 2 ^ 31) : ((nI n).toInt64 = (0 : Int64)) ↔ n = 0 := by
  rw [nI_l h, show (0 : Int64) = lN 0 from rfl, lN_eq h (by decide)]
theorem c_sellDrawn {d : LD} {S : Rec} (ok : okL d) (h0 : 0 < lH d) (hS : LandOf d S) {x : Nat} (hx : x < 2147483647) : ∃ S', X2_sellDrawn S (lN x) = some S' ∧ LandOf (soldD d (pl (kth d (x % (lR d * lC d)))) (x / 8 % lH d + 1)) S' := by
  have h6 := ok.1
  obtain ⟨a1, a2, a3⟩ := area ok h0
  have hC := ok.2.1
  have hk : x % (lR d * lC d) < lR d * lC d := Nat.mod_lt _ a2
  have hh := kth_in ok hk
  have hw : x / 8 % lH d < lH d := Nat.mod_lt _ h0
  obtain ⟨S', p1, p2⟩ := c_hand ok hS hh.2.1 hh.1 (w := x / 8 % lH d) (by omega)
  rw [hw_i (by omega)] at p2
  refine ⟨S', ?_, p2⟩
  have z1 : ¬ lH d ≤ 0 := by omega
  have z2 : ¬ lC d ≤ 0 := by omega
  have z3 : ¬ lC d = 0 := by omega
  have z4 : ¬ lR d * lC d = 0 := by omega
  have z5 : ¬ lH d = 0 := by omega
  have e8 : (8 : Int64) = lN 8 := rfl
  have g1 : lN x - lN x / lN (lR d * lC d) * lN (lR d * lC d) = lN (x % (lR d * lC d)) := pk_lRem (by omega) a2 (by omega)
  have g2 : lN x / lN 8 = lN (x / 8) := pk_lDiv (by omega) (by decide) (by decide)
  have g3 : lN (x / 8) - lN (x / 8) / lN (lH d) * lN (lH d) = lN (x / 8 % lH d) := pk_lRem (by omega) h0 (by omega)
  have g4 : nI (x % (lR d * lC d)) - nI (x % (lR d * lC d)) / nI (lC d) * nI (lC d) = nI (x % (lR d * lC d) % lC d) := pk_rem (by omega) (by omega) (by omega)
  have g5 : nI (x % (lR d * lC d)) / nI (lC d) = nI (x % (lR d * lC d) / lC d) := pk_div (by omega) (by omega) (by omega)
  have g6 : nI 8 * nI (x % (lR d * lC d) / lC d) + nI (x % (lR d * lC d) % lC d) = nI (kth d (x % (lR d * lC d))) := by
    rw [pk_mul, nI_add]
    rfl
  have l1 : (nI (lR d * lC d)).toInt64 = lN (lR d * lC d) := nI_l (by omega)
  have l2 : (nI (lH d)).toInt64 = lN (lH d) := nI_l (by omega)
  have l3 : ¬ (lN (lR d * lC d) = (0 : Int64)) := by
    rw [show (0 : Int64) = lN 0 from rfl, lN_eq (by omega) (by decide)]
    exact z4
  have l4 : ¬ (lN (lH d) = (0 : Int64)) := by
    rw [show (0 : Int64) = lN 0 from rfl, lN_eq (by omega) (by decide)]
    exact z5
  unfold X2_sellDrawn
  simp (disch := omega) only [c_cellsN hS, hS.1, hS.2.1, li0, li1, li2, li3, li4, li5, li6, li7, li8, li11, li12, li16, li24, li25, li26, li31, li32, li36, li40, li48, li52, li58, li59, li60, li63, li64, li88, li96, li130, li192, li255, li2208, li2304, li9999, li9, li13, li14, li30, li35, li44, li45, li46, li47, li97, li98, li100, li101, li104, li105, li108, li110, li111, li112, li114, li117, li122, li999999, li1000000, li2147483647, cmp0, cmpl, cmpg, cmple, cmpge, nI_leI, nI_ltI, nI_eq, rL, rI, wL, wI, ob, aLet, nI_add, pk_mul, ↓reduceIte, if_true, if_false, eq_self, Nat.reduceEqDiff, Nat.reduceLeDiff, Nat.reduceLT, Nat.one_ne_zero, Nat.zero_ne_one, Nat.add_zero, Bool.false_eq_true, nI_neq, z1, z2, z3, a2, l1, l2, l3, l4, g1, e8, g2, g3, lN_i]
  rw [g4, g5, g6, p1]
  rfl
def bs (d : LD) : Nat → Nat
  | 0 => 0
  | n + 1 => if nb (sy d n) ≤ nb (sy d (bs d n)) then bs d n else n
theorem bs_le (d : LD) : ∀ n, bs d n ≤ n - 1
  | 0 => Nat.le_refl _
  | n + 1 => by
    have := bs_le d n
    rw [bs]
    split <;> omega
theorem c_best {d : LD} {S : Rec} (ok : okL d) (h0 : 0 < lH d) (hS : LandOf d S) : X2_bestSpeaker S = some (nI (bs d (lH d))) := by
  have h6 := ok.1
  have := forUp (fun n j s => X2_bestSpeaker_L4 S n s j) (lH d) (fun k => nI (bs d k)) (some (nI (bs d (lH d)))) (fun n k hk => ?_) (fun n => ?_) (lH d - 1) 1 aFu (by omega) (by show _ < 100000; omega)
  · have l : X2_bestSpeaker_L4 S aFu (nI (bs d 1)) (nI 1) = some (nI (bs d (lH d))) := this
    have e : bs d 1 = 0 := by
      have := bs_le d 1
      omega
    rw [e] at l
    unfold X2_bestSpeaker
    rw [show (0 : Int32) = nI 0 from rfl, show (1 : Int32) = nI 1 from rfl, l]
    rfl
  · have h : ¬ lH d ≤ k := by omega
    have hb := bs_le d k
    have s1 := c_says ok hS hk
    have s2 := c_says ok hS (i := bs d k) (by omega)
    have t1 := sy_lt d k
    have t2 := sy_lt d (bs d k)
    have b1 := c_bits (n := sy d k) (by omega)
    have b2 := c_bits (n := sy d (bs d k)) (by omega)
    have n1 := nb_le (sy d k)
    have n2 := nb_le (sy d (bs d k))
    simp (disch := omega) only [X2_bestSpeaker_L4, hS.1, s1, s2, b1, b2, li0, li1, li2, li3, li4, li5, li6, li7, li8, li11, li12, li16, li24, li25, li26, li31, li32, li36, li40, li48, li52, li58, li59, li60, li63, li64, li88, li96, li130, li192, li255, li2208, li2304, li9999, li9, li13, li14, li30, li35, li44, li45, li46, li47, li97, li98, li100, li101, li104, li105, li108, li110, li111, li112, li114, li117, li122, li999999, li1000000, li2147483647, cmp0, cmpl, cmpg, cmple, cmpge, nI_leI, nI_ltI, nI_eq, rL, rI, wL, wI, ob, aLet, nI_add, pk_mul, ↓reduceIte, if_true, if_false, eq_self, Nat.reduceEqDiff, Nat.reduceLeDiff, Nat.reduceLT, Nat.one_ne_zero, Nat.zero_ne_one, Nat.add_zero, Bool.false_eq_true, nI_neq, h, bs]
    by_cases z : nb (sy d k) ≤ nb (sy d (bs d k))
    · simp only [z, if_true]
    · simp only [z, if_false]
  · simp (disch := omega) only [X2_bestSpeaker_L4, hS.1, li0, li1, li2, li3, li4, li5, li6, li7, li8, li11, li12, li16, li24, li25, li26, li31, li32, li36, li40, li48, li52, li58, li59, li60, li63, li64, li88, li96, li130, li192, li255, li2208, li2304, li9999, li9, li13, li14, li30, li35, li44, li45, li46, li47, li97, li98, li100, li101, li104, li105, li108, li110, li111, li112, li114, li117, li122, li999999, li1000000, li2147483647, cmp0, cmpl, cmpg, cmple, cmpge, nI_leI, nI_ltI, nI_eq, rL, rI, wL, wI, ob, aLet, nI_add, pk_mul, ↓reduceIte, if_true, if_false, eq_self, Nat.reduceEqDiff, Nat.reduceLeDiff, Nat.reduceLT, Nat.one_ne_zero, Nat.zero_ne_one, Nat.add_zero, Bool.false_eq_true, nI_neq, Nat.le_refl]
theorem r_best {d : LD} {m : Rec} (ok : okL d) (h0 : 0 < lH d) (hf : RowOf d (m.2.1 2)) : X9_drawn_L134 m aFu (nI 0) (nI 1) = some (nI (bs d (lH d))) := by
  have h6 := ok.1
  have := forUp (fun n j s => X9_drawn_L134 m n s j) (lH d) (fun k => nI (bs d k)) (some (nI (bs d (lH d)))) (fun n k hk => ?_) (fun n => ?_) (lH d - 1) 1 aFu (by omega) (by show _ < 100000; omega)
  · have l : X9_drawn_L134 m aFu (nI (bs d 1)) (nI 1) = some (nI (bs d (lH d))) := this
    have e : bs d 1 = 0 := by
      have := bs_le d 1
      omega
    rw [e] at l
    exact l
  · have h : ¬ lH d ≤ k := by omega
    have hb := bs_le d k
    have s1 := r_says ok hf hk
    have s2 := r_says ok hf (i := bs d k) (by omega)
    have t1 := sy_lt d k
    have t2 := sy_lt d (bs d k)
    have b1 := r_bitsF (n := sy d k) (by omega)
    have b2 := r_bitsF (n := sy d (bs d k)) (by omega)
    have n1 := nb_le (sy d k)
    have n2 := nb_le (sy d (bs d k))
    simp (disch := omega) only [X9_drawn_L134, hf.1, s1, s2, b1, b2, li0, li1, li2, li3, li4, li5, li6, li7, li8, li11, li12, li16, li24, li25, li26, li31, li32, li36, li40, li48, li52, li58, li59, li60, li63, li64, li88, li96, li130, li192, li255, li2208, li2304, li9999, li9, li13, li14, li30, li35, li44, li45, li46, li47, li97, li98, li100, li101, li104, li105, li108, li110, li111, li112, li114, li117, li122, li999999, li1000000, li2147483647, cmp0, cmpl, cmpg, cmple, cmpge, nI_leI, nI_ltI, nI_eq, rL, rI, wL, wI, ob, aLet, nI_add, pk_mul, ↓reduceIte, if_true, if_false, eq_self, Nat.reduceEqDiff, Nat.reduceLeDiff, Nat.reduceLT, Nat.one_ne_zero, Nat.zero_ne_one, Nat.add_zero, Bool.false_eq_true, nI_neq, h, bs]
    by_cases z : nb (sy d k) ≤ nb (sy d (bs d k))
    · simp only [z, if_true]
    · simp only [z, if_false]
  · simp (disch := omega) only [X9_drawn_L134, hf.1, li0, li1, li2, li3, li4, li5, li6, li7, li8, li11, li12, li16, li24, li25, li26, li31, li32, li36, li40, li48, li52, li58, li59, li60, li63, li64, li88, li96, li130, li192, li255, li2208, li2304, li9999, li9, li13, li14, li30, li35, li44, li45, li46, li47, li97, li98, li100, li101, li104, li105, li108, li110, li111, li112, li114, li117, li122, li999999, li1000000, li2147483647, cmp0, cmpl, cmpg, cmple, cmpge, nI_leI, nI_ltI, nI_eq, rL, rI, wL, wI, ob, aLet, nI_add, pk_mul, ↓reduceIte, if_true, if_false, eq_self, Nat.reduceEqDiff, Nat.reduceLeDiff, Nat.reduceLT, Nat.one_ne_zero, Nat.zero_ne_one, Nat.add_zero, Bool.false_eq_true, nI_neq, Nat.le_refl]
theorem q_drawn {d : LD} {S T m : Rec} (ok : okL d) (hy : lY d ≤ 9999) (hS : LandOf d S) (hf : RowOf d (m.2.1 0)) (x1 x2 x3 : Int32) : ∃ r T' m', X8_drawn S T x1 x2 x3 = some (r, T') ∧ X9_drawn m x1 x2 x3 = some (r, m') ∧ Fr m m' := by
  have h6 := ok.1
  rcases rg_0_40 x1 with ⟨a, b, -⟩ | ⟨N, -, hN, rfl, a, b⟩
  · refine ⟨-nI 1, T, m, ?_, ?_, Fr_refl m⟩
    · simp (disch := omega) only [X8_drawn, a, li0, li1, li2, li3, li4, li5, li6, li7, li8, li11, li12, li16, li24, li25, li26, li31, li32, li36, li40, li48, li52, li58, li59, li60, li63, li64, li88, li96, li130, li192, li255, li2208, li2304, li9999, li9, li13, li14, li30, li35, li44, li45, li46, li47, li97, li98, li100, li101, li104, li105, li108, li110, li111, li112, li114, li117, li122, li999999, li1000000, li2147483647, cmp0, cmpl, cmpg, cmple, cmpge, nI_leI, nI_ltI, nI_eq, rL, rI, wL, wI, ob, aLet, nI_add, pk_mul, ↓reduceIte, if_true, if_false, eq_self, Nat.reduceEqDiff, Nat.reduceLeDiff, Nat.reduceLT, Nat.one_ne_zero, Nat.zero_ne_one, Nat.add_zero, Bool.false_eq_true, nI_neq]
    · simp (disch := omega) only [X9_drawn, b, li0, li1, li2, li3, li4, li5, li6, li7, li8, li11, li12, li16, li24, li25, li26, li31, li32, li36, li40, li48, li52, li58, li59, li60, li63, li64, li88, li96, li130, li192, li255, li2208, li2304, li9999, li9, li13, li14, li30, li35, li44, li45, li46, li47, li97, li98, li100, li101, li104, li105, li108, li110, li111, li112, li114, li117, li122, li999999, li1000000, li2147483647, cmp0, cmpl, cmpg, cmple, cmpge, nI_leI, nI_ltI, nI_eq, rL, rI, wL, wI, ob, aLet, nI_add, pk_mul, ↓reduceIte, if_true, if_false, eq_self, Nat.reduceEqDiff, Nat.reduceLeDiff, Nat.reduceLT, Nat.one_ne_zero, Nat.zero_ne_one, Nat.add_zero, Bool.false_eq_true, nI_neq]
  rcases rg_1_999999 x2 with ⟨e, f, -⟩ | ⟨x, hx1, hx, rfl, e, f⟩
  · refine ⟨-nI 1, T, m, ?_, ?_, Fr_refl m⟩
    · simp (disch := omega) only [X8_drawn, a, e, li0, li1, li2, li3, li4, li5, li6, li7, li8, li11, li12, li16, li24, li25, li26, li31, li32, li36, li40, li48, li52, li58, li59, li60, li63, li64, li88, li96, li130, li192, li255, li2208, li2304, li9999, li9, li13, li14, li30, li35, li44, li45, li46, li47, li97, li98, li100, li101, li104, li105, li108, li110, li111, li112, li114, li117, li122, li999999, li1000000, li2147483647, cmp0, cmpl, cmpg, cmple, cmpge, nI_leI, nI_ltI, nI_eq, rL, rI, wL, wI, ob, aLet, nI_add, pk_mul, ↓reduceIte, if_true, if_false, eq_self, Nat.reduceEqDiff, Nat.reduceLeDiff, Nat.reduceLT, Nat.one_ne_zero, Nat.zero_ne_one, Nat.add_zero, Bool.false_eq_true, nI_neq]
    · simp (disch := omega) only [X9_drawn, b, f, li0, li1, li2, li3, li4, li5, li6, li7, li8, li11, li12, li16, li24, li25, li26, li31, li32, li36, li40, li48, li52, li58, li59, li60, li63, li64, li88, li96, li130, li192, li255, li2208, li2304, li9999, li9, li13, li14, li30, li35, li44, li45, li46, li47, li97, li98, li100, li101, li104, li105, li108, li110, li111, li112, li114, li117, li122, li999999, li1000000, li2147483647, cmp0, cmpl, cmpg, cmple, cmpge, nI_leI, nI_ltI, nI_eq, rL, rI, wL, wI, ob, aLet, nI_add, pk_mul, ↓reduceIte, if_true, if_false, eq_self, Nat.reduceEqDiff, Nat.reduceLeDiff, Nat.reduceLT, Nat.one_ne_zero, Nat.zero_ne_one, Nat.add_zero, Bool.false_eq_true, nI_neq]
  rcases rg_0_1 x3 with ⟨g, h, -⟩ | ⟨w, -, hw, rfl, g, h⟩
  · refine ⟨-nI 1, T, m, ?_, ?_, Fr_refl m⟩
    · simp (disch := omega) only [X8_drawn, a, e, g, li0, li1, li2, li3, li4, li5, li6, li7, li8, li11, li12, li16, li24, li25, li26, li31, li32, li36, li40, li48, li52, li58, li59, li60, li63, li64, li88, li96, li130, li192, li255, li2208, li2304, li9999, li9, li13, li14, li30, li35, li44, li45, li46, li47, li97, li98, li100, li101, li104, li105, li108, li110, li111, li112, li114, li117, li122, li999999, li1000000, li2147483647, cmp0, cmpl, cmpg, cmple, cmpge, nI_leI, nI_ltI, nI_eq, rL, rI, wL, wI, ob, aLet, nI_add, pk_mul, ↓reduceIte, if_true, if_false, eq_self, Nat.reduceEqDiff, Nat.reduceLeDiff, Nat.reduceLT, Nat.one_ne_zero, Nat.zero_ne_one, Nat.add_zero, Bool.false_eq_true, nI_neq]
    · simp (disch := omega) only [X9_drawn, b, f, h, li0, li1, li2, li3, li4, li5, li6, li7, li8, li11, li12, li16, li24, li25, li26, li31, li32, li36, li40, li48, li52, li58, li59, li60, li63, li64, li88, li96, li130, li192, li255, li2208, li2304, li9999, li9, li13, li14, li30, li35, li44, li45, li46, li47, li97, li98, li100, li101, li104, li105, li108, li110, li111, li112, li114, li117, li122, li999999, li1000000, li2147483647, cmp0, cmpl, cmpg, cmple, cmpge, nI_leI, nI_ltI, nI_eq, rL, rI, wL, wI, ob, aLet, nI_add, pk_mul, ↓reduceIte, if_true, if_false, eq_self, Nat.reduceEqDiff, Nat.reduceLeDiff, Nat.reduceLT, Nat.one_ne_zero, Nat.zero_ne_one, Nat.add_zero, Bool.false_eq_true, nI_neq]
  have st := c_stands ok hS
  have th := r_there ok hf
  by_cases h0 : lH d = 0
  · rw [if_pos h0] at st th
    refine ⟨-nI 2, T, m, ?_, ?_, Fr_refl m⟩
    · simp (disch := omega) only [X8_drawn, a, e, g, st, li0, li1, li2, li3, li4, li5, li6, li7, li8, li11, li12, li16, li24, li25, li26, li31, li32, li36, li40, li48, li52, li58, li59, li60, li63, li64, li88, li96, li130, li192, li255, li2208, li2304, li9999, li9, li13, li14, li30, li35, li44, li45, li46, li47, li97, li98, li100, li101, li104, li105, li108, li110, li111, li112, li114, li117, li122, li999999, li1000000, li2147483647, cmp0, cmpl, cmpg, cmple, cmpge, nI_leI, nI_ltI, nI_eq, rL, rI, wL, wI, ob, aLet, nI_add, pk_mul, ↓reduceIte, if_true, if_false, eq_self, Nat.reduceEqDiff, Nat.reduceLeDiff, Nat.reduceLT, Nat.one_ne_zero, Nat.zero_ne_one, Nat.add_zero, Bool.false_eq_true, nI_neq]
    · simp (disch := omega) only [X9_drawn, b, f, h, th, li0, li1, li2, li3, li4, li5, li6, li7, li8, li11, li12, li16, li24, li25, li26, li31, li32, li36, li40, li48, li52, li58, li59, li60, li63, li64, li88, li96, li130, li192, li255, li2208, li2304, li9999, li9, li13, li14, li30, li35, li44, li45, li46, li47, li97, li98, li100, li101, li104, li105, li108, li110, li111, li112, li114, li117, li122, li999999, li1000000, li2147483647, cmp0, cmpl, cmpg, cmple, cmpge, nI_leI, nI_ltI, nI_eq, rL, rI, wL, wI, ob, aLet, nI_add, pk_mul, ↓reduceIte, if_true, if_false, eq_self, Nat.reduceEqDiff, Nat.reduceLeDiff, Nat.reduceLT, Nat.one_ne_zero, Nat.zero_ne_one, Nat.add_zero, Bool.false_eq_true, nI_neq]
  rw [if_neg h0] at st th
  have ex : (nI x).toInt64 = lN x := nI_l (by omega)
  have f' := f
  rw [ex] at f'
  obtain ⟨r, r', c1, r1, hr⟩ := forUp2 (fun n j (s : Int64 × Rec) => X8_drawn_L63 (nI N) n s.1 j s.2) (fun n j (s : Int64 × Rec) => X9_drawn_L57 (nI N) n s.1 j s.2) N
    (fun k Z R => ∃ dk y, okL dk ∧ lY dk = lY d + k ∧ lH dk = lH d ∧ lC dk = lC d ∧ lR dk = lR d ∧ y < 2147483647 ∧ Z.1 = lN y ∧ R.1 = lN y ∧ LandOf dk Z.2 ∧ RowOf dk (R.2.2.1 2) ∧ Fr m R.2)
    (fun r r' => ∃ dk, okL dk ∧ lH dk = lH d ∧ LandOf dk r ∧ RowOf dk (r'.2.1 2) ∧ Fr m r')
    (fun n n' k Z R hk hI => by
      obtain ⟨dk, y, ok1, hY, hH, hC, hR, hy2, e1, e2, hZ, hW, hF⟩ := hI
      have ⟨f1, f2, f3⟩ := area ok1 (by omega)
      have e7 : (16807 : Int64) = lN 16807 := rfl
      have e9 : (2147483647 : Int64) = lN 2147483647 := rfl
      have g0 : lN (y * 16807) - lN (y * 16807) / lN 2147483647 * lN 2147483647 = lN (y * 16807 % 2147483647) := pk_lRem (by omega) (by decide) (by decide)
      have hz : y * 16807 % 2147483647 < 2147483647 := Nat.mod_lt _ (by decide)
      generalize y * 16807 % 2147483647 = z at *
      obtain ⟨Z', p1, p2⟩ := c_sellDrawn ok1 (by omega) hZ hz
      have hk2 : z % (lR dk * lC dk) < lR dk * lC dk := Nat.mod_lt _ f2
      have hh := kth_in ok1 hk2
      have hb := inC_b ok1 hh.1
      have hwh : z / 8 % lH dk < lH dk := Nat.mod_lt _ (by omega)
      have ok2 := ok_sold ok1 (q := pl (kth dk (z % (lR dk * lC dk)))) (to := z / 8 % lH dk + 1) (by omega)
      obtain ⟨Z2, q1, q2⟩ := c_pass ok2 p2
      have rs := row_sold (to := z / 8 % lH dk + 1) ok1 hW hb.2.2.1
      obtain ⟨f', s1, s2⟩ := r_year ok2 rs
      have hm0 : (R.2.2.1 0) = m.2.1 0 := hF.2.2.1
      have cN := r_cellsN ok (m := R.2) (by rw [hm0]; exact hf)
      have pB := r_placeBy ok (m := R.2) (by rw [hm0]; exact hf) (k := z % (lR dk * lC dk)) (by rw [← hR, ← hC]; exact hk2)
      have eqk : kth d (z % (lR dk * lC dk)) = kth dk (z % (lR dk * lC dk)) := by unfold kth; rw [hC]
      rw [eqk] at pB
      rw [← hR, ← hC] at cN
      have hlt : ¬ N ≤ k := by omega
      have l1 : (nI (lR dk * lC dk)).toInt64 = lN (lR dk * lC dk) := nI_l (by omega)
      have l2 : (nI (lH dk)).toInt64 = lN (lH dk) := nI_l (by omega)
      have l3 : ¬ (lN (lR dk * lC dk) = (0 : Int64)) := by
        rw [show (0 : Int64) = lN 0 from rfl, lN_eq (by omega) (by decide)]
        omega
      have l4 : ¬ (lN (lH dk) = (0 : Int64)) := by
        rw [show (0 : Int64) = lN 0 from rfl, lN_eq (by omega) (by decide)]
        omega
      have e8 : (8 : Int64) = lN 8 := rfl
      have g1 : lN z - lN z / lN (lR dk * lC dk) * lN (lR dk * lC dk) = lN (z % (lR dk * lC dk)) := pk_lRem (by omega) f2 (by omega)
      have g2 : lN z / lN 8 = lN (z / 8) := pk_lDiv (by omega) (by decide) (by decide)
      have g3 : lN (z / 8) - lN (z / 8) / lN (lH dk) * lN (lH dk) = lN (z / 8 % lH dk) := pk_lRem (by omega) (by omega) (by omega)
      refine Or.inr ⟨(lN z, Z2), (lN z, sA (sA R.2 2 (upd (R.2.2.1 2) (52 + pl (kth dk (z % (lR dk * lC dk)))) (nI (z / 8 % lH dk + 1)))) 2 f'), ?_, ?_, nextD (soldD dk (pl (kth dk (z % (lR dk * lC dk)))) (z / 8 % lH dk + 1)), z, ok_next ok2 (by show lY dk + 1 ≤ 20000; omega), by show lY dk + 1 = lY d + (k + 1); omega, hH, hC, hR, hz, rfl, rfl, q2, s2, Fr_A (Fr_A hF (by omega)) (by omega)⟩
      · simp (disch := omega) only [X8_drawn_L63, e1, e7, e9, lN_mul, g0, p1, q1, li0, li1, li2, li3, li4, li5, li6, li7, li8, li11, li12, li16, li24, li25, li26, li31, li32, li36, li40, li48, li52, li58, li59, li60, li63, li64, li88, li96, li130, li192, li255, li2208, li2304, li9999, li9, li13, li14, li30, li35, li44, li45, li46, li47, li97, li98, li100, li101, li104, li105, li108, li110, li111, li112, li114, li117, li122, li999999, li1000000, li2147483647, cmp0, cmpl, cmpg, cmple, cmpge, nI_leI, nI_ltI, nI_eq, rL, rI, wL, wI, ob, aLet, nI_add, pk_mul, ↓reduceIte, if_true, if_false, eq_self, Nat.reduceEqDiff, Nat.reduceLeDiff, Nat.reduceLT, Nat.one_ne_zero, Nat.zero_ne_one, Nat.add_zero, Bool.false_eq_true, nI_neq, hlt]
      · have s1' : X9_goOn ((sA R.2 2 (upd (R.2.2.1 2) (52 + pl (kth dk (z % (lR dk * lC dk)))) (nI (z / 8 % lH dk + 1)))).2.1 2) = _ := s1
        simp (disch := omega) only [X9_drawn_L57, e2, e7, e9, lN_mul, g0, cN, l1, l3, g1, lN_i, pB, hW.1, l2, l4, e8, g2, g3, s1', li0, li1, li2, li3, li4, li5, li6, li7, li8, li11, li12, li16, li24, li25, li26, li31, li32, li36, li40, li48, li52, li58, li59, li60, li63, li64, li88, li96, li130, li192, li255, li2208, li2304, li9999, li9, li13, li14, li30, li35, li44, li45, li46, li47, li97, li98, li100, li101, li104, li105, li108, li110, li111, li112, li114, li117, li122, li999999, li1000000, li2147483647, cmp0, cmpl, cmpg, cmple, cmpge, nI_leI, nI_ltI, nI_eq, rL, rI, wL, wI, ob, aLet, nI_add, pk_mul, ↓reduceIte, if_true, if_false, eq_self, Nat.reduceEqDiff, Nat.reduceLeDiff, Nat.reduceLT, Nat.one_ne_zero, Nat.zero_ne_one, Nat.add_zero, Bool.false_eq_true, nI_neq, hlt])
    (fun n n' Z R hI => by
      obtain ⟨dk, y, ok1, hY, hH, hC, hR, hy2, e1, e2, hZ, hW, hF⟩ := hI
      exact ⟨Z.2, R.2, by simp (disch := omega) only [X8_drawn_L63, li0, li1, li2, li3, li4, li5, li6, li7, li8, li11, li12, li16, li24, li25, li26, li31, li32, li36, li40, li48, li52, li58, li59, li60, li63, li64, li88, li96, li130, li192, li255, li2208, li2304, li9999, li9, li13, li14, li30, li35, li44, li45, li46, li47, li97, li98, li100, li101, li104, li105, li108, li110, li111, li112, li114, li117, li122, li999999, li1000000, li2147483647, cmp0, cmpl, cmpg, cmple, cmpge, nI_leI, nI_ltI, nI_eq, rL, rI, wL, wI, ob, aLet, nI_add, pk_mul, ↓reduceIte, if_true, if_false, eq_self, Nat.reduceEqDiff, Nat.reduceLeDiff, Nat.reduceLT, Nat.one_ne_zero, Nat.zero_ne_one, Nat.add_zero, Bool.false_eq_true, nI_neq, Nat.le_refl], by simp (disch := omega) only [X9_drawn_L57, li0, li1, li2, li3, li4, li5, li6, li7, li8, li11, li12, li16, li24, li25, li26, li31, li32, li36, li40, li48, li52, li58, li59, li60, li63, li64, li88, li96, li130, li192, li255, li2208, li2304, li9999, li9, li13, li14, li30, li35, li44, li45, li46, li47, li97, li98, li100, li101, li104, li105, li108, li110, li111, li112, li114, li117, li122, li999999, li1000000, li2147483647, cmp0, cmpl, cmpg, cmple, cmpge, nI_leI, nI_ltI, nI_eq, rL, rI, wL, wI, ob, aLet, nI_add, pk_mul, ↓reduceIte, if_true, if_false, eq_self, Nat.reduceEqDiff, Nat.reduceLeDiff, Nat.reduceLT, Nat.one_ne_zero, Nat.zero_ne_one, Nat.add_zero, Bool.false_eq_true, nI_neq, Nat.le_refl], dk, ok1, hH, hZ, hW, hF⟩)
    N 0 aFu aFu (lN x, X2_become T S) (lN x, sA m 2 (laid (m.2.1 0) (m.2.1 2) 96)) (by omega) (by show _ < 100000; omega) (by show _ < 100000; omega) ⟨d, x, ok, rfl, rfl, rfl, rfl, by omega, rfl, rfl, c_become ok hS, row_laid ok hf, fr_lay m⟩
  obtain ⟨dk, ok1, hH, hZ, hW, hF⟩ := hr
  have c1 : X8_drawn_L63 (nI N) aFu (lN x) (nI 0) (X2_become T S) = some r := c1
  have r1 : X9_drawn_L57 (nI N) aFu (lN x) (nI 0) (sA m 2 (laid (m.2.1 0) (m.2.1 2) 96)) = some r' := r1
  have b1 := c_best ok1 (by omega) hZ
  have b2 := r_best ok1 (by omega) hW
  have n1 := c_nobodys ok1 hZ
  have n2 := r_nobodys ok1 hW
  rcases (show w = 0 ∨ w = 1 by omega) with rfl | rfl
  · refine ⟨nI (bs dk (lH dk)), r, r', ?_, ?_, hF⟩
    · simp (disch := omega) only [X8_drawn, a, e, g, st, ex, c1, b1, li0, li1, li2, li3, li4, li5, li6, li7, li8, li11, li12, li16, li24, li25, li26, li31, li32, li36, li40, li48, li52, li58, li59, li60, li63, li64, li88, li96, li130, li192, li255, li2208, li2304, li9999, li9, li13, li14, li30, li35, li44, li45, li46, li47, li97, li98, li100, li101, li104, li105, li108, li110, li111, li112, li114, li117, li122, li999999, li1000000, li2147483647, cmp0, cmpl, cmpg, cmple, cmpge, nI_leI, nI_ltI, nI_eq, rL, rI, wL, wI, ob, aLet, nI_add, pk_mul, ↓reduceIte, if_true, if_false, eq_self, Nat.reduceEqDiff, Nat.reduceLeDiff, Nat.reduceLT, Nat.one_ne_zero, Nat.zero_ne_one, Nat.add_zero, Bool.false_eq_true, nI_neq]
    · simp (disch := omega) only [X9_drawn, b, f', h, th, ex, r_lay, r1, b2, li0, li1, li2, li3, li4, li5, li6, li7, li8, li11, li12, li16, li24, li25, li26, li31, li32, li36, li40, li48, li52, li58, li59, li60, li63, li64, li88, li96, li130, li192, li255, li2208, li2304, li9999, li9, li13, li14, li30, li35, li44, li45, li46, li47, li97, li98, li100, li101, li104, li105, li108, li110, li111, li112, li114, li117, li122, li999999, li1000000, li2147483647, cmp0, cmpl, cmpg, cmple, cmpge, nI_leI, nI_ltI, nI_eq, rL, rI, wL, wI, ob, aLet, nI_add, pk_mul, ↓reduceIte, if_true, if_false, eq_self, Nat.reduceEqDiff, Nat.reduceLeDiff, Nat.reduceLT, Nat.one_ne_zero, Nat.zero_ne_one, Nat.add_zero, Bool.false_eq_true, nI_neq]
  · refine ⟨nI (cn (hosP dk 0) 36), r, r', ?_, ?_, hF⟩
    · simp (disch := omega) only [X8_drawn, a, e, g, st, ex, c1, n1, li0, li1, li2, li3, li4, li5, li6, li7, li8, li11, li12, li16, li24, li25, li26, li31, li32, li36, li40, li48, li52, li58, li59, li60, li63, li64, li88, li96, li130, li192, li255, li2208, li2304, li9999, li9, li13, li14, li30, li35, li44, li45, li46, li47, li97, li98, li100, li101, li104, li105, li108, li110, li111, li112, li114, li117, li122, li999999, li1000000, li2147483647, cmp0, cmpl, cmpg, cmple, cmpge, nI_leI, nI_ltI, nI_eq, rL, rI, wL, wI, ob, aLet, nI_add, pk_mul, ↓reduceIte, if_true, if_false, eq_self, Nat.reduceEqDiff, Nat.reduceLeDiff, Nat.reduceLT, Nat.one_ne_zero, Nat.zero_ne_one, Nat.add_zero, Bool.false_eq_true, nI_neq]
    · simp (disch := omega) only [X9_drawn, b, f', h, th, ex, r_lay, r1, b2, n2, li0, li1, li2, li3, li4, li5, li6, li7, li8, li11, li12, li16, li24, li25, li26, li31, li32, li36, li40, li48, li52, li58, li59, li60, li63, li64, li88, li96, li130, li192, li255, li2208, li2304, li9999, li9, li13, li14, li30, li35, li44, li45, li46, li47, li97, li98, li100, li101, li104, li105, li108, li110, li111, li112, li114, li117, li122, li999999, li1000000, li2147483647, cmp0, cmpl, cmpg, cmple, cmpge, nI_leI, nI_ltI, nI_eq, rL, rI, wL, wI, ob, aLet, nI_add, pk_mul, ↓reduceIte, if_true, if_false, eq_self, Nat.reduceEqDiff, Nat.reduceLeDiff, Nat.reduceLT, Nat.one_ne_zero, Nat.zero_ne_one, Nat.add_zero, Bool.false_eq_true, nI_neq]
theorem eq_drawn {c : CSt} {m : Rec} (hI : Inv c m) (x1 : Int32) (x2 : Int32) (x3 : Int32) : ∃ (r : Int32) (c1 : CSt) (m1 : Rec), stC_drawn c x1 x2 x3 = some (r, c1) ∧ stM_drawn m x1 x2 x3 = some (r, m1) ∧ Inv c1 m1 := by
  obtain ⟨d, ok, hy, hS, hf⟩ := hI.1
  obtain ⟨r, T', m', a, b, hF⟩ := q_drawn (T := c_trial c) ok hy hS hf x1 x2 x3
  exact ⟨r, _, m', by unfold stC_drawn; rw [a]; rfl, by unfold stM_drawn; rw [b]; rfl, inv_fr hI hF T' (c_earlier c) (c_sets c) (c_survey c) (c_marriages c) (c_finder c)⟩
