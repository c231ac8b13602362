/-! what is foretold year by year: behind, first -/
/-- a loop that counts up, with what holds ahead of each turn -/
theorem forUpE {σ τ : Type} (F : Nat → Int32 → σ → Option τ) (N : Nat) (I : Nat → σ → Prop) (Q : τ → Prop) (hs : ∀ n k s, k < N → I k s → ∃ s', F (n + 1) (nI k) s = F n (nI (k + 1)) s' ∧ I (k + 1) s') (he : ∀ n s, I N s → ∃ r, F (n + 1) (nI N) s = some r ∧ Q r) : ∀ d k n s, k + d = N → d < n → I k s → ∃ r, F n (nI k) s = some r ∧ Q r := by
  intro d
  induction d with
  | zero =>
    intro k n s h1 h2 h3
    obtain ⟨n, rfl⟩ : ∃ z, n = z + 1 := ⟨n - 1, by omega⟩
    obtain rfl : k = N := h1
    exact he n s h3
  | succ d ih =>
    intro k n s h1 h2 h3
    obtain ⟨n, rfl⟩ : ∃ z, n = z + 1 := ⟨n - 1, by omega⟩
    obtain ⟨s', e, h⟩ := hs n k s (by omega) h3
    rw [e]
    exact ih (k + 1) n s' (by omega) (by omega) h
/-- two loops side by side, which may end early, both at once -/
theorem forUp2 {σ τ σ' τ' : Type} (F : Nat → Int32 → σ → Option τ) (G : Nat → Int32 → σ' → Option τ') (N : Nat) (I : Nat → σ → σ' → Prop) (Q : τ → τ' → Prop) (hs : ∀ n n' k s t, k < N → I k s t → (∃ r r', F (n + 1) (nI k) s = some r ∧ G (n' + 1) (nI k) t = some r' ∧ Q r r') ∨ ∃ s' t', F (n + 1) (nI k) s = F n (nI (k + 1)) s' ∧ G (n' + 1) (nI k) t = G n' (nI (k + 1)) t' ∧ I (k + 1) s' t') (he : ∀ n n' s t, I N s t → ∃ r r', F (n + 1) (nI N) s = some r ∧ G (n' + 1) (nI N) t = some r' ∧ Q r r') : ∀ d k n n' s t, k + d = N → d < n → d < n' → I k s t → ∃ r r', F n (nI k) s = some r ∧ G n' (nI k) t = some r' ∧ Q r r' := by
  intro d
  induction d with
  | zero =>
    intro k n n' s t h1 h2 h2' h3
    obtain ⟨n, rfl⟩ : ∃ z, n = z + 1 := ⟨n - 1, by omega⟩
    obtain ⟨n', rfl⟩ : ∃ z, n' = z + 1 := ⟨n' - 1, by omega⟩
    obtain rfl : k = N := h1
    exact he n n' s t h3
  | succ d ih =>
    intro k n n' s t h1 h2 h2' h3
    obtain ⟨n, rfl⟩ : ∃ z, n = z + 1 := ⟨n - 1, by omega⟩
    obtain ⟨n', rfl⟩ : ∃ z, n' = z + 1 := ⟨n' - 1, by omega⟩
    rcases hs n n' k s t (by omega) h3 with h | ⟨s', t', e, e', h⟩
    · exact h
    · rw [e, e']
      exact ih (k + 1) n n' s' t' (by omega) (by omega) (by omega) h
def yrs (d : LD) : Nat → LD
  | 0 => d
  | n + 1 => nextD (yrs d n)
theorem yrs_H (d : LD) : ∀ n, lH (yrs d n) = lH d
  | 0 => rfl
  | n + 1 => yrs_H d n
theorem yrs_W (d : LD) : ∀ n, lW (yrs d n) = lW d
  | 0 => rfl
  | n + 1 => yrs_W d n
theorem yrs_E (d : LD) : ∀ n, lE (yrs d n) = lE d
  | 0 => rfl
  | n + 1 => yrs_E d n
theorem yrs_Y (d : LD) : ∀ n, lY (yrs d n) = lY d + n
  | 0 => rfl
  | n + 1 => by
    show lY (yrs d n) + 1 = lY d + (n + 1)
    rw [yrs_Y d n]
    omega
theorem ok_yrs {d : LD} (ok : okL d) : ∀ {n : Nat}, lY d + n ≤ 20000 → okL (yrs d n)
  | 0, _ => ok
  | n + 1, h => ok_next (ok_yrs ok (by omega)) (by rw [yrs_Y]; omega)
theorem r_year {d : LD} {f : Nat → Int32} (ok : okL d) (hf : RowOf d f) : ∃ f', X9_goOn f = some (nI (cn (chg d) 36), f') ∧ RowOf (nextD d) f' := ⟨_, r_goOn ok hf, goRow_of ok hf⟩
theorem fr_lay (m : Rec) : Fr m (sA m 2 (laid (m.2.1 0) (m.2.1 2) 96)) := Fr_A (Fr_refl m) (by omega)
theorem q_behind {d : LD} {S T m : Rec} (ok : okL d) (hy : lY d ≤ 9999) (hS : LandOf d S) (hf : RowOf d (m.2.1 0)) (x1 x2 : Int32) : ∃ r T' m', X8_behind S T x1 x2 = some (r, T') ∧ X9_behind m x1 x2 = some (r, m') ∧ Fr m m' := by
  have h6 := ok.1
  rcases hcase ok hS hf x1 with ⟨a, b⟩ | ⟨i, hi, rfl, a, b⟩
  · refine ⟨-nI 1, T, m, ?_, ?_, Fr_refl m⟩
    · simp (disch := omega) only [X8_behind, a, li0, li1, li2, li3, li4, li5, li6, li7, li8, li11, li12, li16, li24, li25, li26, li31, li32, li36, li40, li48, li52, li58, li59, li60, li63, li64, li88, li96, li130, li192, li255, li2208, li2304, li9999, li9, li13, li14, li30, li35, li44, li45, li46, li47, li97, li98, li100, li101, li104, li105, li108, li110, li111, li112, li114, li117, li122, li999999, li1000000, li2147483647, cmp0, cmpl, cmpg, cmple, cmpge, nI_leI, nI_ltI, nI_eq, rL, rI, wL, wI, ob, aLet, nI_add, pk_mul, ↓reduceIte, if_true, if_false, eq_self, Nat.reduceEqDiff, Nat.reduceLeDiff, Nat.reduceLT, Nat.one_ne_zero, Nat.zero_ne_one, Nat.add_zero, Bool.false_eq_true, nI_neq]
    · simp (disch := omega) only [X9_behind, b, li0, li1, li2, li3, li4, li5, li6, li7, li8, li11, li12, li16, li24, li25, li26, li31, li32, li36, li40, li48, li52, li58, li59, li60, li63, li64, li88, li96, li130, li192, li255, li2208, li2304, li9999, li9, li13, li14, li30, li35, li44, li45, li46, li47, li97, li98, li100, li101, li104, li105, li108, li110, li111, li112, li114, li117, li122, li999999, li1000000, li2147483647, cmp0, cmpl, cmpg, cmple, cmpge, nI_leI, nI_ltI, nI_eq, rL, rI, wL, wI, ob, aLet, nI_add, pk_mul, ↓reduceIte, if_true, if_false, eq_self, Nat.reduceEqDiff, Nat.reduceLeDiff, Nat.reduceLT, Nat.one_ne_zero, Nat.zero_ne_one, Nat.add_zero, Bool.false_eq_true, nI_neq]
  rcases rg_0_60 x2 with ⟨e, f, g⟩ | ⟨N, -, hN, rfl, e, f⟩
  · refine ⟨-nI 1, T, m, ?_, ?_, Fr_refl m⟩
    · simp (disch := omega) only [X8_behind, a, e, li0, li1, li2, li3, li4, li5, li6, li7, li8, li11, li12, li16, li24, li25, li26, li31, li32, li36, li40, li48, li52, li58, li59, li60, li63, li64, li88, li96, li130, li192, li255, li2208, li2304, li9999, li9, li13, li14, li30, li35, li44, li45, li46, li47, li97, li98, li100, li101, li104, li105, li108, li110, li111, li112, li114, li117, li122, li999999, li1000000, li2147483647, cmp0, cmpl, cmpg, cmple, cmpge, nI_leI, nI_ltI, nI_eq, rL, rI, wL, wI, ob, aLet, nI_add, pk_mul, ↓reduceIte, if_true, if_false, eq_self, Nat.reduceEqDiff, Nat.reduceLeDiff, Nat.reduceLT, Nat.one_ne_zero, Nat.zero_ne_one, Nat.add_zero, Bool.false_eq_true, nI_neq]
    · simp (disch := omega) only [X9_behind, b, f, li0, li1, li2, li3, li4, li5, li6, li7, li8, li11, li12, li16, li24, li25, li26, li31, li32, li36, li40, li48, li52, li58, li59, li60, li63, li64, li88, li96, li130, li192, li255, li2208, li2304, li9999, li9, li13, li14, li30, li35, li44, li45, li46, li47, li97, li98, li100, li101, li104, li105, li108, li110, li111, li112, li114, li117, li122, li999999, li1000000, li2147483647, cmp0, cmpl, cmpg, cmple, cmpge, nI_leI, nI_ltI, nI_eq, rL, rI, wL, wI, ob, aLet, nI_add, pk_mul, ↓reduceIte, if_true, if_false, eq_self, Nat.reduceEqDiff, Nat.reduceLeDiff, Nat.reduceLT, Nat.one_ne_zero, Nat.zero_ne_one, Nat.add_zero, Bool.false_eq_true, nI_neq]
  have okN : okL (yrs d N) := ok_yrs ok (by omega)
  have hiN : i < lH (yrs d N) := by rw [yrs_H]; exact hi
  obtain ⟨Z, c1, c2⟩ := forUpE (fun n j s => X8_behind_L36 (nI N) n j s) N (fun k Z => LandOf (yrs d k) Z) (fun Z => LandOf (yrs d N) Z) (fun n k Z hk hZ => by
      obtain ⟨Z', p1, p2⟩ := c_pass (ok_yrs ok (by omega)) hZ
      have h : ¬ N ≤ k := by omega
      refine ⟨Z', ?_, p2⟩
      simp (disch := omega) only [X8_behind_L36, p1, li0, li1, li2, li3, li4, li5, li6, li7, li8, li11, li12, li16, li24, li25, li26, li31, li32, li36, li40, li48, li52, li58, li59, li60, li63, li64, li88, li96, li130, li192, li255, li2208, li2304, li9999, li9, li13, li14, li30, li35, li44, li45, li46, li47, li97, li98, li100, li101, li104, li105, li108, li110, li111, li112, li114, li117, li122, li999999, li1000000, li2147483647, cmp0, cmpl, cmpg, cmple, cmpge, nI_leI, nI_ltI, nI_eq, rL, rI, wL, wI, ob, aLet, nI_add, pk_mul, ↓reduceIte, if_true, if_false, eq_self, Nat.reduceEqDiff, Nat.reduceLeDiff, Nat.reduceLT, Nat.one_ne_zero, Nat.zero_ne_one, Nat.add_zero, Bool.false_eq_true, nI_neq, h]) (fun n Z hZ => ⟨Z, by simp (disch := omega) only [X8_behind_L36, li0, li1, li2, li3, li4, li5, li6, li7, li8, li11, li12, li16, li24, li25, li26, li31, li32, li36, li40, li48, li52, li58, li59, li60, li63, li64, li88, li96, li130, li192, li255, li2208, li2304, li9999, li9, li13, li14, li30, li35, li44, li45, li46, li47, li97, li98, li100, li101, li104, li105, li108, li110, li111, li112, li114, li117, li122, li999999, li1000000, li2147483647, cmp0, cmpl, cmpg, cmple, cmpge, nI_leI, nI_ltI, nI_eq, rL, rI, wL, wI, ob, aLet, nI_add, pk_mul, ↓reduceIte, if_true, if_false, eq_self, Nat.reduceEqDiff, Nat.reduceLeDiff, Nat.reduceLT, Nat.one_ne_zero, Nat.zero_ne_one, Nat.add_zero, Bool.false_eq_true, nI_neq, Nat.le_refl], hZ⟩) N 0 aFu (X2_become T S) (by omega) (by show _ < 100000; omega) (c_become ok hS)
  obtain ⟨R, r1, r2, r3⟩ := forUpE (fun n j s => X9_behind_L28 (nI N) n j s) N (fun k Z => RowOf (yrs d k) (Z.2.1 2) ∧ Fr m Z) (fun Z => RowOf (yrs d N) (Z.2.1 2) ∧ Fr m Z) (fun n k Z hk hZ => by
      obtain ⟨f', p1, p2⟩ := r_year (ok_yrs ok (by omega)) hZ.1
      have h : ¬ N ≤ k := by omega
      refine ⟨sA Z 2 f', ?_, p2, Fr_A hZ.2 (by omega)⟩
      simp (disch := omega) only [X9_behind_L28, p1, li0, li1, li2, li3, li4, li5, li6, li7, li8, li11, li12, li16, li24, li25, li26, li31, li32, li36, li40, li48, li52, li58, li59, li60, li63, li64, li88, li96, li130, li192, li255, li2208, li2304, li9999, li9, li13, li14, li30, li35, li44, li45, li46, li47, li97, li98, li100, li101, li104, li105, li108, li110, li111, li112, li114, li117, li122, li999999, li1000000, li2147483647, cmp0, cmpl, cmpg, cmple, cmpge, nI_leI, nI_ltI, nI_eq, rL, rI, wL, wI, ob, aLet, nI_add, pk_mul, ↓reduceIte, if_true, if_false, eq_self, Nat.reduceEqDiff, Nat.reduceLeDiff, Nat.reduceLT, Nat.one_ne_zero, Nat.zero_ne_one, Nat.add_zero, Bool.false_eq_true, nI_neq, h]) (fun n Z hZ => ⟨Z, by simp (disch := omega) only [X9_behind_L28, li0, li1, li2, li3, li4, li5, li6, li7, li8, li11, li12, li16, li24, li25, li26, li31, li32, li36, li40, li48, li52, li58, li59, li60, li63, li64, li88, li96, li130, li192, li255, li2208, li2304, li9999, li9, li13, li14, li30, li35, li44, li45, li46, li47, li97, li98, li100, li101, li104, li105, li108, li110, li111, li112, li114, li117, li122, li999999, li1000000, li2147483647, cmp0, cmpl, cmpg, cmple, cmpge, nI_leI, nI_ltI, nI_eq, rL, rI, wL, wI, ob, aLet, nI_add, pk_mul, ↓reduceIte, if_true, if_false, eq_self, Nat.reduceEqDiff, Nat.reduceLeDiff, Nat.reduceLT, Nat.one_ne_zero, Nat.zero_ne_one, Nat.add_zero, Bool.false_eq_true, nI_neq, Nat.le_refl], hZ⟩) N 0 aFu (sA m 2 (laid (m.2.1 0) (m.2.1 2) 96)) (by omega) (by show _ < 100000; omega) ⟨row_laid ok hf, fr_lay m⟩
  have s1 := c_says okN c2 hiN
  have s2 := r_says okN r2 hiN
  refine ⟨nI (sy (yrs d N) i), Z, R, ?_, ?_, r3⟩
  · simp (disch := omega) only [X8_behind, a, e, li0, li1, li2, li3, li4, li5, li6, li7, li8, li11, li12, li16, li24, li25, li26, li31, li32, li36, li40, li48, li52, li58, li59, li60, li63, li64, li88, li96, li130, li192, li255, li2208, li2304, li9999, li9, li13, li14, li30, li35, li44, li45, li46, li47, li97, li98, li100, li101, li104, li105, li108, li110, li111, li112, li114, li117, li122, li999999, li1000000, li2147483647, cmp0, cmpl, cmpg, cmple, cmpge, nI_leI, nI_ltI, nI_eq, rL, rI, wL, wI, ob, aLet, nI_add, pk_mul, ↓reduceIte, if_true, if_false, eq_self, Nat.reduceEqDiff, Nat.reduceLeDiff, Nat.reduceLT, Nat.one_ne_zero, Nat.zero_ne_one, Nat.add_zero, Bool.false_eq_true, nI_neq, c1, s1]
  · simp (disch := omega) only [X9_behind, b, f, r_lay, li0, li1, li2, li3, li4, li5, li6, li7, li8, li11, li12, li16, li24, li25, li26, li31, li32, li36, li40, li48, li52, li58, li59, li60, li63, li64, li88, li96, li130, li192, li255, li2208, li2304, li9999, li9, li13, li14, li30, li35, li44, li45, li46, li47, li97, li98, li100, li101, li104, li105, li108, li110, li111, li112, li114, li117, li122, li999999, li1000000, li2147483647, cmp0, cmpl, cmpg, cmple, cmpge, nI_leI, nI_ltI, nI_eq, rL, rI, wL, wI, ob, aLet, nI_add, pk_mul, ↓reduceIte, if_true, if_false, eq_self, Nat.reduceEqDiff, Nat.reduceLeDiff, Nat.reduceLT, Nat.one_ne_zero, Nat.zero_ne_one, Nat.add_zero, Bool.false_eq_true, nI_neq, r1, s2]
theorem q_first {d : LD} {S T m : Rec} (ok : okL d) (hy : lY d ≤ 9999) (hS : LandOf d S) (hf : RowOf d (m.2.1 0)) (x1 x2 : Int32) : ∃ r T' m', X8_first S T x1 x2 = some (r, T') ∧ X9_first m x1 x2 = some (r, m') ∧ Fr m m' := by
  have h6 := ok.1
  have h4 := ok.2.2.2.2.1
  rcases hcase ok hS hf x1 with ⟨a, b⟩ | ⟨i, hi, rfl, a, b⟩
  · refine ⟨-nI 1, T, m, ?_, ?_, Fr_refl m⟩
    · simp (disch := omega) only [X8_first, a, li0, li1, li2, li3, li4, li5, li6, li7, li8, li11, li12, li16, li24, li25, li26, li31, li32, li36, li40, li48, li52, li58, li59, li60, li63, li64, li88, li96, li130, li192, li255, li2208, li2304, li9999, li9, li13, li14, li30, li35, li44, li45, li46, li47, li97, li98, li100, li101, li104, li105, li108, li110, li111, li112, li114, li117, li122, li999999, li1000000, li2147483647, cmp0, cmpl, cmpg, cmple, cmpge, nI_leI, nI_ltI, nI_eq, rL, rI, wL, wI, ob, aLet, nI_add, pk_mul, ↓reduceIte, if_true, if_false, eq_self, Nat.reduceEqDiff, Nat.reduceLeDiff, Nat.reduceLT, Nat.one_ne_zero, Nat.zero_ne_one, Nat.add_zero, Bool.false_eq_true, nI_neq]
    · simp (disch := omega) only [X9_first, b, li0, li1, li2, li3, li4, li5, li6, li7, li8, li11, li12, li16, li24, li25, li26, li31, li32, li36, li40, li48, li52, li58, li59, li60, li63, li64, li88, li96, li130, li192, li255, li2208, li2304, li9999, li9, li13, li14, li30, li35, li44, li45, li46, li47, li97, li98, li100, li101, li104, li105, li108, li110, li111, li112, li114, li117, li122, li999999, li1000000, li2147483647, cmp0, cmpl, cmpg, cmple, cmpge, nI_leI, nI_ltI, nI_eq, rL, rI, wL, wI, ob, aLet, nI_add, pk_mul, ↓reduceIte, if_true, if_false, eq_self, Nat.reduceEqDiff, Nat.reduceLeDiff, Nat.reduceLT, Nat.one_ne_zero, Nat.zero_ne_one, Nat.add_zero, Bool.false_eq_true, nI_neq]
  rcases wcase ok hS hf x2 with ⟨e, f⟩ | ⟨w, hw, rfl, e, f⟩
  · refine ⟨-nI 1, T, m, ?_, ?_, Fr_refl m⟩
    · simp (disch := omega) only [X8_first, a, e, li0, li1, li2, li3, li4, li5, li6, li7, li8, li11, li12, li16, li24, li25, li26, li31, li32, li36, li40, li48, li52, li58, li59, li60, li63, li64, li88, li96, li130, li192, li255, li2208, li2304, li9999, li9, li13, li14, li30, li35, li44, li45, li46, li47, li97, li98, li100, li101, li104, li105, li108, li110, li111, li112, li114, li117, li122, li999999, li1000000, li2147483647, cmp0, cmpl, cmpg, cmple, cmpge, nI_leI, nI_ltI, nI_eq, rL, rI, wL, wI, ob, aLet, nI_add, pk_mul, ↓reduceIte, if_true, if_false, eq_self, Nat.reduceEqDiff, Nat.reduceLeDiff, Nat.reduceLT, Nat.one_ne_zero, Nat.zero_ne_one, Nat.add_zero, Bool.false_eq_true, nI_neq]
    · simp (disch := omega) only [X9_first, b, f, li0, li1, li2, li3, li4, li5, li6, li7, li8, li11, li12, li16, li24, li25, li26, li31, li32, li36, li40, li48, li52, li58, li59, li60, li63, li64, li88, li96, li130, li192, li255, li2208, li2304, li9999, li9, li13, li14, li30, li35, li44, li45, li46, li47, li97, li98, li100, li101, li104, li105, li108, li110, li111, li112, li114, li117, li122, li999999, li1000000, li2147483647, cmp0, cmpl, cmpg, cmple, cmpge, nI_leI, nI_ltI, nI_eq, rL, rI, wL, wI, ob, aLet, nI_add, pk_mul, ↓reduceIte, if_true, if_false, eq_self, Nat.reduceEqDiff, Nat.reduceLeDiff, Nat.reduceLT, Nat.one_ne_zero, Nat.zero_ne_one, Nat.add_zero, Bool.false_eq_true, nI_neq]
  have hE := (ok.2.2.2.2.2.2.2.2.2.1 w hw).1
  obtain ⟨r, r', c1, r1, hr⟩ := forUp2 (fun n j s => X8_first_L37 (nI i) (nI w) n j s) (fun n j s => X9_first_L24 (nI i) (nI w) n j s) 61 (fun k Z R => LandOf (yrs d k) Z ∧ RowOf (yrs d k) (R.2.1 2) ∧ Fr m R)
    (fun r r' => (∃ v Z R, r = .inl (v, Z) ∧ r' = .inl (v, R) ∧ Fr m R) ∨ ∃ Z R, r = .inr Z ∧ r' = .inr R ∧ Fr m R)
    (fun n n' k Z R hk hI => by
      obtain ⟨hZ, hR, hF⟩ := hI
      have okk : okL (yrs d k) := ok_yrs ok (by omega)
      have hik : i < lH (yrs d k) := by rw [yrs_H]; exact hi
      have hwk : w < lW (yrs d k) := by rw [yrs_W]; exact hw
      have h : ¬ 60 < k := by omega
      have s1 := c_says okk hZ hik
      have s2 := r_can okk hR hik hwk
      have e2 := (hZ.2.2.2.2.2.2.2.2.2 w hwk).2
      have cv := c_covers (sy_lt (yrs d k) i) hE
      rw [yrs_E] at s2 e2
      by_cases z : lE d w &&& sy (yrs d k) i = lE d w
      · refine Or.inl ⟨.inl (nI k, Z), .inl (nI k, R), ?_, ?_, Or.inl ⟨_, _, _, rfl, rfl, hF⟩⟩
        · simp (disch := omega) only [X8_first_L37, s1, e2, cv, z, h, li0, li1, li2, li3, li4, li5, li6, li7, li8, li11, li12, li16, li24, li25, li26, li31, li32, li36, li40, li48, li52, li58, li59, li60, li63, li64, li88, li96, li130, li192, li255, li2208, li2304, li9999, li9, li13, li14, li30, li35, li44, li45, li46, li47, li97, li98, li100, li101, li104, li105, li108, li110, li111, li112, li114, li117, li122, li999999, li1000000, li2147483647, cmp0, cmpl, cmpg, cmple, cmpge, nI_leI, nI_ltI, nI_eq, rL, rI, wL, wI, ob, aLet, nI_add, pk_mul, ↓reduceIte, if_true, if_false, eq_self, Nat.reduceEqDiff, Nat.reduceLeDiff, Nat.reduceLT, Nat.one_ne_zero, Nat.zero_ne_one, Nat.add_zero, Bool.false_eq_true, nI_neq]
        · simp (disch := omega) only [X9_first_L24, s2, z, h, li0, li1, li2, li3, li4, li5, li6, li7, li8, li11, li12, li16, li24, li25, li26, li31, li32, li36, li40, li48, li52, li58, li59, li60, li63, li64, li88, li96, li130, li192, li255, li2208, li2304, li9999, li9, li13, li14, li30, li35, li44, li45, li46, li47, li97, li98, li100, li101, li104, li105, li108, li110, li111, li112, li114, li117, li122, li999999, li1000000, li2147483647, cmp0, cmpl, cmpg, cmple, cmpge, nI_leI, nI_ltI, nI_eq, rL, rI, wL, wI, ob, aLet, nI_add, pk_mul, ↓reduceIte, if_true, if_false, eq_self, Nat.reduceEqDiff, Nat.reduceLeDiff, Nat.reduceLT, Nat.one_ne_zero, Nat.zero_ne_one, Nat.add_zero, Bool.false_eq_true, nI_neq]
      · obtain ⟨Z', p1, p2⟩ := c_pass okk hZ
        obtain ⟨f', q1, q2⟩ := r_year okk hR
        refine Or.inr ⟨Z', sA R 2 f', ?_, ?_, p2, q2, Fr_A hF (by omega)⟩
        · simp (disch := omega) only [X8_first_L37, s1, e2, cv, z, h, p1, li0, li1, li2, li3, li4, li5, li6, li7, li8, li11, li12, li16, li24, li25, li26, li31, li32, li36, li40, li48, li52, li58, li59, li60, li63, li64, li88, li96, li130, li192, li255, li2208, li2304, li9999, li9, li13, li14, li30, li35, li44, li45, li46, li47, li97, li98, li100, li101, li104, li105, li108, li110, li111, li112, li114, li117, li122, li999999, li1000000, li2147483647, cmp0, cmpl, cmpg, cmple, cmpge, nI_leI, nI_ltI, nI_eq, rL, rI, wL, wI, ob, aLet, nI_add, pk_mul, ↓reduceIte, if_true, if_false, eq_self, Nat.reduceEqDiff, Nat.reduceLeDiff, Nat.reduceLT, Nat.one_ne_zero, Nat.zero_ne_one, Nat.add_zero, Bool.false_eq_true, nI_neq]
        · simp (disch := omega) only [X9_first_L24, s2, z, h, q1, li0, li1, li2, li3, li4, li5, li6, li7, li8, li11, li12, li16, li24, li25, li26, li31, li32, li36, li40, li48, li52, li58, li59, li60, li63, li64, li88, li96, li130, li192, li255, li2208, li2304, li9999, li9, li13, li14, li30, li35, li44, li45, li46, li47, li97, li98, li100, li101, li104, li105, li108, li110, li111, li112, li114, li117, li122, li999999, li1000000, li2147483647, cmp0, cmpl, cmpg, cmple, cmpge, nI_leI, nI_ltI, nI_eq, rL, rI, wL, wI, ob, aLet, nI_add, pk_mul, ↓reduceIte, if_true, if_false, eq_self, Nat.reduceEqDiff, Nat.reduceLeDiff, Nat.reduceLT, Nat.one_ne_zero, Nat.zero_ne_one, Nat.add_zero, Bool.false_eq_true, nI_neq])
    (fun n n' Z R hI => ⟨.inr Z, .inr R, by simp (disch := omega) only [X8_first_L37, li0, li1, li2, li3, li4, li5, li6, li7, li8, li11, li12, li16, li24, li25, li26, li31, li32, li36, li40, li48, li52, li58, li59, li60, li63, li64, li88, li96, li130, li192, li255, li2208, li2304, li9999, li9, li13, li14, li30, li35, li44, li45, li46, li47, li97, li98, li100, li101, li104, li105, li108, li110, li111, li112, li114, li117, li122, li999999, li1000000, li2147483647, cmp0, cmpl, cmpg, cmple, cmpge, nI_leI, nI_ltI, nI_eq, rL, rI, wL, wI, ob, aLet, nI_add, pk_mul, ↓reduceIte, if_true, if_false, eq_self, Nat.reduceEqDiff, Nat.reduceLeDiff, Nat.reduceLT, Nat.one_ne_zero, Nat.zero_ne_one, Nat.add_zero, Bool.false_eq_true, nI_neq], by simp (disch := omega) only [X9_first_L24, li0, li1, li2, li3, li4, li5, li6, li7, li8, li11, li12, li16, li24, li25, li26, li31, li32, li36, li40, li48, li52, li58, li59, li60, li63, li64, li88, li96, li130, li192, li255, li2208, li2304, li9999, li9, li13, li14, li30, li35, li44, li45, li46, li47, li97, li98, li100, li101, li104, li105, li108, li110, li111, li112, li114, li117, li122, li999999, li1000000, li2147483647, cmp0, cmpl, cmpg, cmple, cmpge, nI_leI, nI_ltI, nI_eq, rL, rI, wL, wI, ob, aLet, nI_add, pk_mul, ↓reduceIte, if_true, if_false, eq_self, Nat.reduceEqDiff, Nat.reduceLeDiff, Nat.reduceLT, Nat.one_ne_zero, Nat.zero_ne_one, Nat.add_zero, Bool.false_eq_true, nI_neq], Or.inr ⟨_, _, rfl, rfl, hI.2.2⟩⟩)
    61 0 aFu aFu (X2_become T S) (sA m 2 (laid (m.2.1 0) (m.2.1 2) 96)) rfl (by decide) (by decide) ⟨c_become ok hS, row_laid ok hf, fr_lay m⟩
  rcases hr with ⟨v, Z, R, rfl, rfl, hF⟩ | ⟨Z, R, rfl, rfl, hF⟩
  · refine ⟨v, Z, R, ?_, ?_, hF⟩
    · simp (disch := omega) only [X8_first, a, e, c1, aCs, li0, li1, li2, li3, li4, li5, li6, li7, li8, li11, li12, li16, li24, li25, li26, li31, li32, li36, li40, li48, li52, li58, li59, li60, li63, li64, li88, li96, li130, li192, li255, li2208, li2304, li9999, li9, li13, li14, li30, li35, li44, li45, li46, li47, li97, li98, li100, li101, li104, li105, li108, li110, li111, li112, li114, li117, li122, li999999, li1000000, li2147483647, cmp0, cmpl, cmpg, cmple, cmpge, nI_leI, nI_ltI, nI_eq, rL, rI, wL, wI, ob, aLet, nI_add, pk_mul, ↓reduceIte, if_true, if_false, eq_self, Nat.reduceEqDiff, Nat.reduceLeDiff, Nat.reduceLT, Nat.one_ne_zero, Nat.zero_ne_one, Nat.add_zero, Bool.false_eq_true, nI_neq]
    · simp (disch := omega) only [X9_first, b, f, r_lay, r1, aCs, li0, li1, li2, li3, li4, li5, li6, li7, li8, li11, li12, li16, li24, li25, li26, li31, li32, li36, li40, li48, li52, li58, li59, li60, li63, li64, li88, li96, li130, li192, li255, li2208, li2304, li9999, li9, li13, li14, li30, li35, li44, li45, li46, li47, li97, li98, li100, li101, li104, li105, li108, li110, li111, li112, li114, li117, li122, li999999, li1000000, li2147483647, cmp0, cmpl, cmpg, cmple, cmpge, nI_leI, nI_ltI, nI_eq, rL, rI, wL, wI, ob, aLet, nI_add, pk_mul, ↓reduceIte, if_true, if_false, eq_self, Nat.reduceEqDiff, Nat.reduceLeDiff, Nat.reduceLT, Nat.one_ne_zero, Nat.zero_ne_one, Nat.add_zero, Bool.false_eq_true, nI_neq]
  · refine ⟨-nI 4, Z, R, ?_, ?_, hF⟩
    · simp (disch := omega) only [X8_first, a, e, c1, aCs, li0, li1, li2, li3, li4, li5, li6, li7, li8, li11, li12, li16, li24, li25, li26, li31, li32, li36, li40, li48, li52, li58, li59, li60, li63, li64, li88, li96, li130, li192, li255, li2208, li2304, li9999, li9, li13, li14, li30, li35, li44, li45, li46, li47, li97, li98, li100, li101, li104, li105, li108, li110, li111, li112, li114, li117, li122, li999999, li1000000, li2147483647, cmp0, cmpl, cmpg, cmple, cmpge, nI_leI, nI_ltI, nI_eq, rL, rI, wL, wI, ob, aLet, nI_add, pk_mul, ↓reduceIte, if_true, if_false, eq_self, Nat.reduceEqDiff, Nat.reduceLeDiff, Nat.reduceLT, Nat.one_ne_zero, Nat.zero_ne_one, Nat.add_zero, Bool.false_eq_true, nI_neq]
    · simp (disch := omega) only [X9_first, b, f, r_lay, r1, aCs, li0, li1, li2, li3, li4, li5, li6, li7, li8, li11, li12, li16, li24, li25, li26, li31, li32, li36, li40, li48, li52, li58, li59, li60, li63, li64, li88, li96, li130, li192, li255, li2208, li2304, li9999, li9, li13, li14, li30, li35, li44, li45, li46, li47, li97, li98, li100, li101, li104, li105, li108, li110, li111, li112, li114, li117, li122, li999999, li1000000, li2147483647, cmp0, cmpl, cmpg, cmple, cmpge, nI_leI, nI_ltI, nI_eq, rL, rI, wL, wI, ob, aLet, nI_add, pk_mul, ↓reduceIte, if_true, if_false, eq_self, Nat.reduceEqDiff, Nat.reduceLeDiff, Nat.reduceLT, Nat.one_ne_zero, Nat.zero_ne_one, Nat.add_zero, Bool.false_eq_true, nI_neq]
theorem eq_behind {c : CSt} {m : Rec} (hI : Inv c m) (x1 : Int32) (x2 : Int32) : ∃ (r : Int32) (c1 : CSt) (m1 : Rec), stC_behind c x1 x2 = some (r, c1) ∧ stM_behind m x1 x2 = some (r, m1) ∧ Inv c1 m1 := by
  obtain ⟨d, ok, hy, hS, hf⟩ := hI.1
  obtain ⟨r, T', m', a, b, hF⟩ := q_behind (T := c_trial c) ok hy hS hf x1 x2
  exact ⟨r, _, m', by unfold stC_behind; rw [a]; rfl, by unfold stM_behind; rw [b]; rfl, inv_fr hI hF T' (c_earlier c) (c_sets c) (c_survey c) (c_marriages c) (c_finder c)⟩
theorem eq_first {c : CSt} {m : Rec} (hI : Inv c m) (x1 : Int32) (x2 : Int32) : ∃ (r : Int32) (c1 : CSt) (m1 : Rec), stC_first c x1 x2 = some (r, c1) ∧ stM_first m x1 x2 = some (r, m1) ∧ Inv c1 m1 := by
  obtain ⟨d, ok, hy, hS, hf⟩ := hI.1
  obtain ⟨r, T', m', a, b, hF⟩ := q_first (T := c_trial c) ok hy hS hf x1 x2
  exact ⟨r, _, m', by unfold stC_first; rw [a]; rfl, by unfold stM_first; rw [b]; rfl, inv_fr hI hF T' (c_earlier c) (c_sets c) (c_survey c) (c_marriages c) (c_finder c)⟩
