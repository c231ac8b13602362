/-! land: the rows of cells -/
def rg (r n w c : Nat) : Bool := decide ((c / 8 < r ∧ c % 8 < w) ∨ (c / 8 = r ∧ c % 8 < n))
/-- a family of sets of cells that tells a number of each place of a region -/
def BitsOf (N : Nat) (f : Nat → Int64) (rs : Nat → Bool) (V : Nat → Nat) (e : Nat → Nat) : Prop := ∀ s, s < N → ∀ c, c < 64 → tb (f s) c = (rs c && decide (V (pl c) = e s))
theorem bits_up {N : Nat} {f : Nat → Int64} {V e : Nat → Nat} {r n w v : Nat} (h : BitsOf N f (rg r n w) V e) (hr : r < 6) (hn : n < w) (hw : w ≤ 6) (hv : v < N) (he : ∀ s, s < N → e s = e v → s = v) : BitsOf N (vp_updL f v (f v ||| oneC (8 * r + n))) (rg r (n + 1) w) (setw V (6 * r + n) (e v)) e := by
  intro s hs c hc
  have hold := h s hs c hc
  have new : c = 8 * r + n → pl c = 6 * r + n ∧ rg r n w c = false ∧ rg r (n + 1) w c = true := fun q => by
    refine ⟨by unfold pl; omega, ?_, ?_⟩
    · unfold rg
      rw [decide_eq_false (by omega)]
    · unfold rg
      rw [decide_eq_true (by omega)]
  have same : c ≠ 8 * r + n → rg r (n + 1) w c = rg r n w c ∧ (rg r n w c = true → pl c ≠ 6 * r + n) := fun q => by
    refine ⟨?_, fun g => ?_⟩
    · unfold rg
      rw [decide_eq_decide]
      omega
    · unfold rg at g
      rw [decide_eq_true_eq] at g
      unfold pl
      omega
  unfold setw
  by_cases q : c = 8 * r + n
  · obtain ⟨g1, g2, g3⟩ := new q
    rw [g2, Bool.false_and] at hold
    rw [g1, if_pos rfl, g3, Bool.true_and]
    unfold vp_updL
    by_cases y : s = v
    · rw [if_pos y, tb_or, tb_oneC (by omega), decide_eq_true q, Bool.or_true, y, decide_eq_true rfl]
    · rw [if_neg y, hold, decide_eq_false (fun z => y (he s hs z.symm))]
  · obtain ⟨g1, g2⟩ := same q
    have e1 : tb (vp_updL f v (f v ||| oneC (8 * r + n)) s) c = tb (f s) c := by
      unfold vp_updL
      by_cases y : s = v
      · rw [if_pos y, tb_or, tb_oneC (by omega), decide_eq_false q, Bool.or_false, y]
      · rw [if_neg y]
    rw [e1, hold, g1]
    cases z : rg r n w c
    · rfl
    · rw [if_neg (g2 z)]
theorem at_lt {T : Nat} {b : Nat → Nat} {a : Nat} (h : sd (cA T b a) ≠ 9) : a < T := by
  rcases Nat.lt_or_ge a T with w | w
  · exact w
  · exfalso
    apply h
    unfold cA
    rw [if_neg (by omega)]
    rfl
theorem l_row {T : Nat} {b : Nat → Nat} {m0 : Rec} {r w : Nat} (hr : r < 6) (hw : w ≤ 6) : ∀ (e n a f f' : Nat) (Z D M : Rec) (S : Nat → Nat), n + e = w → e < f → e < f' → TP T b Z a → RM T b m0 M a → M.2.1 1 2 = nI r → BitsOf 6 (D.2.2 9) (rg r n w) S (fun s => s) → (∀ p, p < 36 → M.2.1 1 (16 + p) = nI (S p) ∧ S p < 6) →
    ∃ (n' a' : Nat) (Z' D' M' : Rec) (S' : Nat → Nat), n' ≤ w ∧ X7_readRow_L17 (nI w) (nI r) f (nI n) Z D = some (nI n', Z', D') ∧ X9_readSounds_L29 (nI w) f' (nI n) M = some (nI n', M') ∧ TP T b Z' a' ∧ RM T b m0 M' a' ∧ BitsOf 6 (D'.2.2 9) (rg r n' w) S' (fun s => s) ∧ (∀ p, p < 36 → M'.2.1 1 (16 + p) = nI (S' p) ∧ S' p < 6) ∧ D'.1 = D.1 ∧ D'.2.1 = D.2.1 ∧ (∀ s, s ≠ 9 → D'.2.2 s = D.2.2 s) ∧ ∀ j, (j < 16 ∨ 52 ≤ j) → M'.2.1 1 j = M.2.1 1 j := by
  intro e
  induction e with
  | zero =>
    intro n a f f' Z D M S h1 h2 h3 hT hM hL hB hS
    obtain ⟨f, rfl⟩ : ∃ z, f = z + 1 := ⟨f - 1, by omega⟩
    obtain ⟨f', rfl⟩ : ∃ z, f' = z + 1 := ⟨f' - 1, by omega⟩
    obtain rfl : n = w := h1
    have nw := r_now hM
    have sa := r_soundAtP (cA_r hT.2.1 a)
    refine ⟨n, a, Z, D, M, S, Nat.le_refl n, ?_, ?_, hT, hM, hB, hS, rfl, rfl, fun s _ => rfl, fun j _ => rfl⟩
    · simp (disch := omega) only [X7_readRow_L17, li0, li1, li2, li3, li4, li5, li6, li7, li8, li11, li12, li16, li24, li25, li26, li31, li32, li36, li40, li48, li52, li58, li59, li60, li63, li64, li88, li96, li130, li192, li255, li2208, li2304, li9999, li9, li13, li14, li30, li35, li44, li45, li46, li47, li97, li98, li100, li101, li104, li105, li108, li110, li111, li112, li114, li117, li122, li999999, li1000000, li2147483647, cmp0, cmpl, cmpg, cmple, cmpge, nI_leI, nI_ltI, nI_eq, rL, rI, wL, wI, ob, aLet, nI_add, pk_mul, ↓reduceIte, if_true, if_false, eq_self, Nat.reduceEqDiff, Nat.reduceLeDiff, Nat.reduceLT, Nat.one_ne_zero, Nat.zero_ne_one, Nat.add_zero, Bool.false_eq_true, nI_neq, Nat.le_refl]
    · rw [X9_readSounds_L29, nw, ob, sa.1]
      unfold en9
      by_cases q : sd (cA T b a) = 9
      · rw [if_pos q, if_pos (show -nI 4 = (-4 : Int32) from rfl)]
      · rw [if_neg q, if_neg (n4l (by omega)), if_pos (nI_le (Nat.le_refl n) (by omega))]
  | succ e ih =>
    intro n a f f' Z D M S h1 h2 h3 hT hM hL hB hS
    obtain ⟨f, rfl⟩ : ∃ z, f = z + 1 := ⟨f - 1, by omega⟩
    obtain ⟨f', rfl⟩ : ∃ z, f' = z + 1 := ⟨f' - 1, by omega⟩
    have hn : ¬ w ≤ n := by omega
    have nw := r_now hM
    have ca := c_soundAtP hT
    have sa := r_soundAtP (cA_r hT.2.1 a)
    by_cases q : sd (cA T b a) = 9
    · refine ⟨n, a, Z, D, M, S, by omega, ?_, ?_, hT, hM, hB, hS, rfl, rfl, fun s _ => rfl, fun j _ => rfl⟩
      · unfold en9 at ca
        rw [if_pos q] at ca
        simp (disch := omega) only [X7_readRow_L17, ca, neg2, li0, li1, li2, li3, li4, li5, li6, li7, li8, li11, li12, li16, li24, li25, li26, li31, li32, li36, li40, li48, li52, li58, li59, li60, li63, li64, li88, li96, li130, li192, li255, li2208, li2304, li9999, li9, li13, li14, li30, li35, li44, li45, li46, li47, li97, li98, li100, li101, li104, li105, li108, li110, li111, li112, li114, li117, li122, li999999, li1000000, li2147483647, cmp0, cmpl, cmpg, cmple, cmpge, nI_leI, nI_ltI, nI_eq, rL, rI, wL, wI, ob, aLet, nI_add, pk_mul, ↓reduceIte, if_true, if_false, eq_self, Nat.reduceEqDiff, Nat.reduceLeDiff, Nat.reduceLT, Nat.one_ne_zero, Nat.zero_ne_one, Nat.add_zero, Bool.false_eq_true, nI_neq, hn]
      · rw [X9_readSounds_L29, nw, ob, sa.1]
        unfold en9
        rw [if_pos q, if_pos (show -nI 4 = (-4 : Int32) from rfl)]
    · have s6 : sd (cA T b a) < 6 := by omega
      have aT := at_lt q
      have sb := sa.1
      unfold en9 at ca sb
      rw [if_neg q] at ca sb
      have h5 := hT.2.2.2.2.1
      have h7 := hM.2.2.2.2.2.1
      have g7 : ∀ w, (sA M 1 w).1 7 = nI a := fun w => h7
      have s0 : ¬ sd (cA T b a) < 0 := by omega
      have hB2 := bits_up hB hr (by omega) hw s6 (fun s _ z => z)
      obtain ⟨n', a', Z', D', M', S', i1, i2, i3, i4, i5, i6, i7, i8, i9, i10, i11⟩ := ih (n + 1) (a + 1) f f' (sI Z 2 (nI (a + 1))) (sL D 9 (vp_updL (D.2.2 9) (sd (cA T b a)) (D.2.2 9 (sd (cA T b a)) ||| oneC (8 * r + n)))) (sI (sA M 1 (upd (M.2.1 1) (16 + 6 * r + n) (nI (sd (cA T b a))))) 7 (nI (a + 1))) (setw S (6 * r + n) (sd (cA T b a))) (by omega) (by omega) (by omega) (TP_up hT aT) (RM_up (RM_A hM _) aT) (by
        show upd (M.2.1 1) (16 + 6 * r + n) _ 2 = nI r
        rw [pk_un (by omega)]
        exact hL) hB2 (fun p hp => by
        show upd (M.2.1 1) (16 + 6 * r + n) _ (16 + p) = nI (setw S (6 * r + n) (sd (cA T b a)) p) ∧ setw S (6 * r + n) (sd (cA T b a)) p < 6
        unfold setw
        by_cases y : p = 6 * r + n
        · rw [if_pos y, y, show 16 + (6 * r + n) = 16 + 6 * r + n by omega, pk_us]
          exact ⟨rfl, s6⟩
        · rw [if_neg y, pk_un (by omega)]
          exact hS p hp)
      refine ⟨n', a', Z', D', M', S', i1, ?_, ?_, i4, i5, i6, i7, i8, i9, fun s hs => ?_, fun j hj => ?_⟩
      · rw [← i2]
        simp (disch := omega) only [X7_readRow_L17, ca, s0, s6, h5, li0, li1, li2, li3, li4, li5, li6, li7, li8, li11, li12, li16, li24, li25, li26, li31, li32, li36, li40, li48, li52, li58, li59, li60, li63, li64, li88, li96, li130, li192, li255, li2208, li2304, li9999, li9, li13, li14, li30, li35, li44, li45, li46, li47, li97, li98, li100, li101, li104, li105, li108, li110, li111, li112, li114, li117, li122, li999999, li1000000, li2147483647, cmp0, cmpl, cmpg, cmple, cmpge, nI_leI, nI_ltI, nI_eq, rL, rI, wL, wI, ob, aLet, nI_add, pk_mul, ↓reduceIte, if_true, if_false, eq_self, Nat.reduceEqDiff, Nat.reduceLeDiff, Nat.reduceLT, Nat.one_ne_zero, Nat.zero_ne_one, Nat.add_zero, Bool.false_eq_true, nI_neq, hn]
        rfl
      · rw [← i3, X9_readSounds_L29, nw, ob, sb, if_neg (n4l (by omega)), if_neg (nI_ge (by omega) (by omega)), show (2 : Int32) = nI 2 from rfl, rI (by decide) (by decide), ob, hL, ob, sb, show (16 : Int32) = nI 16 from rfl, show (6 : Int32) = nI 6 from rfl, pk_mul, nI_add, nI_add, wI (by omega) (by decide), ob, aLet, nI_1, g7, nI_1]
      · rw [i10 s hs]
        exact if_neg hs
      · rw [i11 j hj]
        show upd (M.2.1 1) (16 + 6 * r + n) _ j = _
        rw [pk_un (by omega)]
