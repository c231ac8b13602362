/-! sheets: a new one, one dropped, an item, a copy -/
def putL (w g : Nat → Int64) (b t : Nat) : Nat → Int64 := fun j => if b ≤ j ∧ j < b + t then g (j - b) else w j
theorem putL_up (w g : Nat → Int64) (b t : Nat) : vp_updL (putL w g b t) (b + t) (g t) = putL w g b (t + 1) := by
  funext j
  unfold vp_updL putL
  by_cases h : j = b + t
  · subst h
    rw [if_pos rfl, if_pos (by omega), show b + t - b = t by omega]
  · by_cases q : b ≤ j ∧ j < b + t
    · rw [if_neg h, if_pos q, if_pos (by omega)]
    · rw [if_neg h, if_neg q, if_neg (by omega)]
theorem r_sheet51 {m : Rec} {s : Nat} (hs : s < 4) : X9_sheet_L51 (nI s) aFu (nI 0) m = some (sL m 28 (putL (m.2.2 28) (fun _ => 0) (24 * s) 24)) := by
  have := forUp (fun n j z => X9_sheet_L51 (nI s) n j z) 24 (fun k => sL m 28 (putL (m.2.2 28) (fun _ => 0) (24 * s) k)) (some (sL m 28 (putL (m.2.2 28) (fun _ => 0) (24 * s) 24))) (fun n k hk => ?_) (fun n => ?_) 24 0 aFu rfl (by decide)
  · have e : sL m 28 (putL (m.2.2 28) (fun _ => 0) (24 * s) 0) = m := by
      have : putL (m.2.2 28) (fun _ => 0) (24 * s) 0 = m.2.2 28 := funext fun j => if_neg (by omega)
      rw [this, sL_id]
    rw [e] at this
    exact this
  · have h : ¬ 24 ≤ k := by omega
    have e : (sL m 28 (putL (m.2.2 28) (fun _ => 0) (24 * s) k)).2.2 28 = putL (m.2.2 28) (fun _ => 0) (24 * s) k := rfl
    have u := putL_up (m.2.2 28) (fun _ => 0) (24 * s) k
    simp (disch := omega) only [X9_sheet_L51, li0, li1, li2, li3, li4, li5, li6, li7, li8, li11, li12, li16, li24, li25, li26, li31, li32, li36, li40, li48, li52, li58, li59, li60, li63, li64, li88, li96, li130, li192, li255, li2208, li2304, li9999, li9, li13, li14, li30, li35, li44, li45, li46, li47, li97, li98, li100, li101, li104, li105, li108, li110, li111, li112, li114, li117, li122, li999999, li1000000, li2147483647, cmp0, cmpl, cmpg, cmple, cmpge, nI_leI, nI_ltI, nI_eq, rL, rI, wL, wI, ob, aLet, nI_add, pk_mul, ↓reduceIte, if_true, if_false, eq_self, Nat.reduceEqDiff, Nat.reduceLeDiff, Nat.reduceLT, Nat.one_ne_zero, Nat.zero_ne_one, Nat.add_zero, Bool.false_eq_true, nI_neq, h, e, sL_sL]
    rw [u]
  · simp (disch := omega) only [X9_sheet_L51, li0, li1, li2, li3, li4, li5, li6, li7, li8, li11, li12, li16, li24, li25, li26, li31, li32, li36, li40, li48, li52, li58, li59, li60, li63, li64, li88, li96, li130, li192, li255, li2208, li2304, li9999, li9, li13, li14, li30, li35, li44, li45, li46, li47, li97, li98, li100, li101, li104, li105, li108, li110, li111, li112, li114, li117, li122, li999999, li1000000, li2147483647, cmp0, cmpl, cmpg, cmple, cmpge, nI_leI, nI_ltI, nI_eq, rL, rI, wL, wI, ob, aLet, nI_add, pk_mul, ↓reduceIte, if_true, if_false, eq_self, Nat.reduceEqDiff, Nat.reduceLeDiff, Nat.reduceLT, Nat.one_ne_zero, Nat.zero_ne_one, Nat.add_zero, Bool.false_eq_true, nI_neq, Nat.le_refl]
theorem eq_sheet {c : CSt} {m : Rec} (hI : Inv c m) (x1 : Int32) (x2 : Int32) (x3 : Int32) : ∃ (r : Int32) (c1 : CSt) (m1 : Rec), stC_sheet c x1 x2 x3 = some (r, c1) ∧ stM_sheet m x1 x2 x3 = some (r, m1) ∧ Inv c1 m1 := by
  obtain ⟨hL, hT, hP, hImg, hSh⟩ := id hI
  have refuse : ∀ v, X8_sheet (c_D c) x1 x2 x3 = some (v, c_D c) → X9_sheet m x1 x2 x3 = some (v, m) → ∃ (r : Int32) (c1 : CSt) (m1 : Rec), stC_sheet c x1 x2 x3 = some (r, c1) ∧ stM_sheet m x1 x2 x3 = some (r, m1) ∧ Inv c1 m1 := fun v h1 h2 => ⟨v, c, m, by unfold stC_sheet; rw [h1]; rfl, by unfold stM_sheet; rw [h2]; rfl, hI⟩
  rcases rg_0_3 x1 with ⟨a, b, -⟩ | ⟨s, -, hs, rfl, a, b⟩
  · refine refuse (-nI 1) ?_ ?_
    · simp (disch := omega) only [X8_sheet, a, li0, li1, li2, li3, li4, li5, li6, li7, li8, li11, li12, li16, li24, li25, li26, li31, li32, li36, li40, li48, li52, li58, li59, li60, li63, li64, li88, li96, li130, li192, li255, li2208, li2304, li9999, li9, li13, li14, li30, li35, li44, li45, li46, li47, li97, li98, li100, li101, li104, li105, li108, li110, li111, li112, li114, li117, li122, li999999, li1000000, li2147483647, cmp0, cmpl, cmpg, cmple, cmpge, nI_leI, nI_ltI, nI_eq, rL, rI, wL, wI, ob, aLet, nI_add, pk_mul, ↓reduceIte, if_true, if_false, eq_self, Nat.reduceEqDiff, Nat.reduceLeDiff, Nat.reduceLT, Nat.one_ne_zero, Nat.zero_ne_one, Nat.add_zero, Bool.false_eq_true, nI_neq]
    · simp (disch := omega) only [X9_sheet, X9_isSheet, b, li0, li1, li2, li3, li4, li5, li6, li7, li8, li11, li12, li16, li24, li25, li26, li31, li32, li36, li40, li48, li52, li58, li59, li60, li63, li64, li88, li96, li130, li192, li255, li2208, li2304, li9999, li9, li13, li14, li30, li35, li44, li45, li46, li47, li97, li98, li100, li101, li104, li105, li108, li110, li111, li112, li114, li117, li122, li999999, li1000000, li2147483647, cmp0, cmpl, cmpg, cmple, cmpge, nI_leI, nI_ltI, nI_eq, rL, rI, wL, wI, ob, aLet, nI_add, pk_mul, ↓reduceIte, if_true, if_false, eq_self, Nat.reduceEqDiff, Nat.reduceLeDiff, Nat.reduceLT, Nat.one_ne_zero, Nat.zero_ne_one, Nat.add_zero, Bool.false_eq_true, nI_neq]
  rcases rg_0_3 x2 with ⟨e, f, -⟩ | ⟨l, -, hl, rfl, e, f⟩
  · refine refuse (-nI 1) ?_ ?_
    · simp (disch := omega) only [X8_sheet, a, e, li0, li1, li2, li3, li4, li5, li6, li7, li8, li11, li12, li16, li24, li25, li26, li31, li32, li36, li40, li48, li52, li58, li59, li60, li63, li64, li88, li96, li130, li192, li255, li2208, li2304, li9999, li9, li13, li14, li30, li35, li44, li45, li46, li47, li97, li98, li100, li101, li104, li105, li108, li110, li111, li112, li114, li117, li122, li999999, li1000000, li2147483647, cmp0, cmpl, cmpg, cmple, cmpge, nI_leI, nI_ltI, nI_eq, rL, rI, wL, wI, ob, aLet, nI_add, pk_mul, ↓reduceIte, if_true, if_false, eq_self, Nat.reduceEqDiff, Nat.reduceLeDiff, Nat.reduceLT, Nat.one_ne_zero, Nat.zero_ne_one, Nat.add_zero, Bool.false_eq_true, nI_neq]
    · simp (disch := omega) only [X9_sheet, X9_isSheet, b, f, li0, li1, li2, li3, li4, li5, li6, li7, li8, li11, li12, li16, li24, li25, li26, li31, li32, li36, li40, li48, li52, li58, li59, li60, li63, li64, li88, li96, li130, li192, li255, li2208, li2304, li9999, li9, li13, li14, li30, li35, li44, li45, li46, li47, li97, li98, li100, li101, li104, li105, li108, li110, li111, li112, li114, li117, li122, li999999, li1000000, li2147483647, cmp0, cmpl, cmpg, cmple, cmpge, nI_leI, nI_ltI, nI_eq, rL, rI, wL, wI, ob, aLet, nI_add, pk_mul, ↓reduceIte, if_true, if_false, eq_self, Nat.reduceEqDiff, Nat.reduceLeDiff, Nat.reduceLT, Nat.one_ne_zero, Nat.zero_ne_one, Nat.add_zero, Bool.false_eq_true, nI_neq]
  rcases pk_ix x3 (n := 25) (by decide) with h | h | ⟨n, hn, rfl⟩
  · have h1 : x3 ≤ nI 24 := by
      rw [fa_le, nI_toInt (by decide)]
      rw [fa_lt] at h
      have : (0 : Int32).toInt = 0 := rfl
      omega
    have h2 : ¬ nI 0 ≤ x3 := by
      rw [fa_le, nI_toInt (by decide)]
      rw [fa_lt] at h
      have : (0 : Int32).toInt = 0 := rfl
      omega
    refine refuse (-nI 14) ?_ ?_
    · simp (disch := omega) only [X8_sheet, a, e, h1, h2, li0, li1, li2, li3, li4, li5, li6, li7, li8, li11, li12, li16, li24, li25, li26, li31, li32, li36, li40, li48, li52, li58, li59, li60, li63, li64, li88, li96, li130, li192, li255, li2208, li2304, li9999, li9, li13, li14, li30, li35, li44, li45, li46, li47, li97, li98, li100, li101, li104, li105, li108, li110, li111, li112, li114, li117, li122, li999999, li1000000, li2147483647, cmp0, cmpl, cmpg, cmple, cmpge, nI_leI, nI_ltI, nI_eq, rL, rI, wL, wI, ob, aLet, nI_add, pk_mul, ↓reduceIte, if_true, if_false, eq_self, Nat.reduceEqDiff, Nat.reduceLeDiff, Nat.reduceLT, Nat.one_ne_zero, Nat.zero_ne_one, Nat.add_zero, Bool.false_eq_true, nI_neq]
    · simp (disch := omega) only [X9_sheet, X9_isSheet, b, f, h1, h2, li0, li1, li2, li3, li4, li5, li6, li7, li8, li11, li12, li16, li24, li25, li26, li31, li32, li36, li40, li48, li52, li58, li59, li60, li63, li64, li88, li96, li130, li192, li255, li2208, li2304, li9999, li9, li13, li14, li30, li35, li44, li45, li46, li47, li97, li98, li100, li101, li104, li105, li108, li110, li111, li112, li114, li117, li122, li999999, li1000000, li2147483647, cmp0, cmpl, cmpg, cmple, cmpge, nI_leI, nI_ltI, nI_eq, rL, rI, wL, wI, ob, aLet, nI_add, pk_mul, ↓reduceIte, if_true, if_false, eq_self, Nat.reduceEqDiff, Nat.reduceLeDiff, Nat.reduceLT, Nat.one_ne_zero, Nat.zero_ne_one, Nat.add_zero, Bool.false_eq_true, nI_neq]
  · have h1 : ¬ x3 ≤ nI 24 := by
      rw [fa_le, nI_toInt (by decide)] at h
      rw [fa_le, nI_toInt (by decide)]
      omega
    refine refuse (-nI 1) ?_ ?_
    · simp (disch := omega) only [X8_sheet, a, e, h1, li0, li1, li2, li3, li4, li5, li6, li7, li8, li11, li12, li16, li24, li25, li26, li31, li32, li36, li40, li48, li52, li58, li59, li60, li63, li64, li88, li96, li130, li192, li255, li2208, li2304, li9999, li9, li13, li14, li30, li35, li44, li45, li46, li47, li97, li98, li100, li101, li104, li105, li108, li110, li111, li112, li114, li117, li122, li999999, li1000000, li2147483647, cmp0, cmpl, cmpg, cmple, cmpge, nI_leI, nI_ltI, nI_eq, rL, rI, wL, wI, ob, aLet, nI_add, pk_mul, ↓reduceIte, if_true, if_false, eq_self, Nat.reduceEqDiff, Nat.reduceLeDiff, Nat.reduceLT, Nat.one_ne_zero, Nat.zero_ne_one, Nat.add_zero, Bool.false_eq_true, nI_neq]
    · simp (disch := omega) only [X9_sheet, X9_isSheet, b, f, h1, li0, li1, li2, li3, li4, li5, li6, li7, li8, li11, li12, li16, li24, li25, li26, li31, li32, li36, li40, li48, li52, li58, li59, li60, li63, li64, li88, li96, li130, li192, li255, li2208, li2304, li9999, li9, li13, li14, li30, li35, li44, li45, li46, li47, li97, li98, li100, li101, li104, li105, li108, li110, li111, li112, li114, li117, li122, li999999, li1000000, li2147483647, cmp0, cmpl, cmpg, cmple, cmpge, nI_leI, nI_ltI, nI_eq, rL, rI, wL, wI, ob, aLet, nI_add, pk_mul, ↓reduceIte, if_true, if_false, eq_self, Nat.reduceEqDiff, Nat.reduceLeDiff, Nat.reduceLT, Nat.one_ne_zero, Nat.zero_ne_one, Nat.add_zero, Bool.false_eq_true, nI_neq]
  have h1 : n ≤ 24 := by omega
  have h2 : (0 ≤ n) = True := by simp
  have h0 : ¬ s < 0 := by omega
  have h4 : ¬ 4 ≤ s := by omega
  have cl : (nI s).toNatClampNeg = s := nI_clamp (by omega)
  have cn' : (nI n).toNatClampNeg = n := nI_clamp (by omega)
  have mm : max 0 (min n 24) = n := by omega
  have e1 : X8_sheet (c_D c) (nI s) (nI l) (nI n) = some (nI n, dNewS (c_D c) s n (sI zR 0 (nI l))) := by
    simp (disch := omega) only [X8_sheet, a, e, h1, h2, h0, h4, cl, cn', a_min_n, a_max_n, mm, or_self, li0, li1, li2, li3, li4, li5, li6, li7, li8, li11, li12, li16, li24, li25, li26, li31, li32, li36, li40, li48, li52, li58, li59, li60, li63, li64, li88, li96, li130, li192, li255, li2208, li2304, li9999, li9, li13, li14, li30, li35, li44, li45, li46, li47, li97, li98, li100, li101, li104, li105, li108, li110, li111, li112, li114, li117, li122, li999999, li1000000, li2147483647, cmp0, cmpl, cmpg, cmple, cmpge, nI_leI, nI_ltI, nI_eq, rL, rI, wL, wI, ob, aLet, nI_add, pk_mul, ↓reduceIte, if_true, if_false, eq_self, Nat.reduceEqDiff, Nat.reduceLeDiff, Nat.reduceLT, Nat.one_ne_zero, Nat.zero_ne_one, Nat.add_zero, Bool.false_eq_true, nI_neq]
  have l51 := r_sheet51 (m := sA (sA m 26 (upd (m.2.1 26) s (nI l))) 27 (upd (m.2.1 27) s (nI n))) (s := s) (by omega)
  have e2 : X9_sheet m (nI s) (nI l) (nI n) = some (nI n, sL (sA (sA m 26 (upd (m.2.1 26) s (nI l))) 27 (upd (m.2.1 27) s (nI n))) 28 (putL (m.2.2 28) (fun _ => 0) (24 * s) 24)) := by
    have g1 : ∀ f, (sA m 26 f).2.1 27 = m.2.1 27 := fun f => rfl
    have l51' : X9_sheet_L51 (nI s) aFu (nI 0) (sA (sA m 26 (upd (m.2.1 26) s (nI l))) 27 (upd (m.2.1 27) s (nI n))) = some (sL (sA (sA m 26 (upd (m.2.1 26) s (nI l))) 27 (upd (m.2.1 27) s (nI n))) 28 (putL (m.2.2 28) (fun _ => 0) (24 * s) 24)) := l51
    simp (disch := omega) only [X9_sheet, X9_isSheet, b, f, h1, h2, g1, l51', li0, li1, li2, li3, li4, li5, li6, li7, li8, li11, li12, li16, li24, li25, li26, li31, li32, li36, li40, li48, li52, li58, li59, li60, li63, li64, li88, li96, li130, li192, li255, li2208, li2304, li9999, li9, li13, li14, li30, li35, li44, li45, li46, li47, li97, li98, li100, li101, li104, li105, li108, li110, li111, li112, li114, li117, li122, li999999, li1000000, li2147483647, cmp0, cmpl, cmpg, cmple, cmpge, nI_leI, nI_ltI, nI_eq, rL, rI, wL, wI, ob, aLet, nI_add, pk_mul, ↓reduceIte, if_true, if_false, eq_self, Nat.reduceEqDiff, Nat.reduceLeDiff, Nat.reduceLT, Nat.one_ne_zero, Nat.zero_ne_one, Nat.add_zero, Bool.false_eq_true, nI_neq]
  refine ⟨nI n, (c_tape c, c_now c, c_past c, dNewS (c_D c) s n (sI zR 0 (nI l)), c_trial c, c_earlier c, c_sets c, c_survey c, c_marriages c, c_finder c), sL (sA (sA m 26 (upd (m.2.1 26) s (nI l))) 27 (upd (m.2.1 27) s (nI n))) 28 (putL (m.2.2 28) (fun _ => 0) (24 * s) 24), by unfold stC_sheet; rw [e1]; rfl, by unfold stM_sheet; rw [e2]; rfl, hL, hT, past_far hP (fun j _ => rfl) (fun j hj => if_neg (by omega)), img_far hImg (fun j h1 h2 => if_neg (by omega)), ?_⟩
  intro i hi
  show (va_up (c_D c).2.2.1 s (some (c_D c).2.2.2.2.2) i = none ∧ upd (m.2.1 26) s (nI l) i = -nI 1) ∨ ((∃ q, va_up (c_D c).2.2.1 s (some (c_D c).2.2.2.2.2) i = some q) ∧ (if 26 + i = 26 + s then n else (c_D c).2.2.2.1 (26 + i)) ≤ 24 ∧ upd (m.2.1 27) s (nI n) i = nI (if 26 + i = 26 + s then n else (c_D c).2.2.2.1 (26 + i)) ∧ (∃ a, a < 4 ∧ upd (m.2.1 26) s (nI l) i = nI a ∧ (if 26 + i = 26 + s then sI zR 0 (nI l) else (c_D c).2.2.2.2.1 (26 + i)).1 0 = nI a) ∧ ∀ k, k < (if 26 + i = 26 + s then n else (c_D c).2.2.2.1 (26 + i)) → (if 26 + i = 26 + s then sI zR 0 (nI l) else (c_D c).2.2.2.2.1 (26 + i)).2.2 1 k = putL (m.2.2 28) (fun _ => 0) (24 * s) 24 (24 * i + k))
  by_cases z : i = s
  · subst z
    rw [if_pos rfl, if_pos rfl, pk_us, pk_us]
    refine Or.inr ⟨⟨_, if_pos rfl⟩, h1, rfl, ⟨l, by omega, rfl, rfl⟩, fun k hk => ?_⟩
    unfold putL
    rw [if_pos (by omega)]
    rfl
  · rw [if_neg (by omega), if_neg (by omega), pk_un z, pk_un z, show va_up (c_D c).2.2.1 s (some (c_D c).2.2.2.2.2) i = (c_D c).2.2.1 i from if_neg z]
    rcases hSh i hi with q | ⟨q1, q2, q3, q4, q5⟩
    · exact Or.inl q
    · refine Or.inr ⟨q1, q2, q3, q4, fun k hk => ?_⟩
      unfold putL
      rw [if_neg (by omega)]
      exact q5 k hk
theorem neg1 : (nI 0 ≤ -nI 1) = False := by decide
theorem eq_drop {c : CSt} {m : Rec} (hI : Inv c m) (x1 : Int32) : ∃ (r : Int32) (c1 : CSt) (m1 : Rec), stC_drop c x1 = some (r, c1) ∧ stM_drop m x1 = some (r, m1) ∧ Inv c1 m1 := by
  obtain ⟨hL, hT, hP, hImg, hSh⟩ := id hI
  have refuse : ∀ v, X8_drop (c_D c) x1 = some (v, c_D c) → X9_drop m x1 = some (v, m) → ∃ (r : Int32) (c1 : CSt) (m1 : Rec), stC_drop c x1 = some (r, c1) ∧ stM_drop m x1 = some (r, m1) ∧ Inv c1 m1 := fun v h1 h2 => ⟨v, c, m, by unfold stC_drop; rw [h1]; rfl, by unfold stM_drop; rw [h2]; rfl, hI⟩
  rcases rg_0_3 x1 with ⟨a, b, -⟩ | ⟨s, -, hs, rfl, a, b⟩
  · refine refuse (-nI 1) ?_ ?_
    · simp (disch := omega) only [X8_drop, a, li0, li1, li2, li3, li4, li5, li6, li7, li8, li11, li12, li16, li24, li25, li26, li31, li32, li36, li40, li48, li52, li58, li59, li60, li63, li64, li88, li96, li130, li192, li255, li2208, li2304, li9999, li9, li13, li14, li30, li35, li44, li45, li46, li47, li97, li98, li100, li101, li104, li105, li108, li110, li111, li112, li114, li117, li122, li999999, li1000000, li2147483647, cmp0, cmpl, cmpg, cmple, cmpge, nI_leI, nI_ltI, nI_eq, rL, rI, wL, wI, ob, aLet, nI_add, pk_mul, ↓reduceIte, if_true, if_false, eq_self, Nat.reduceEqDiff, Nat.reduceLeDiff, Nat.reduceLT, Nat.one_ne_zero, Nat.zero_ne_one, Nat.add_zero, Bool.false_eq_true, nI_neq]
    · simp (disch := omega) only [X9_drop, X9_isSheet, b, li0, li1, li2, li3, li4, li5, li6, li7, li8, li11, li12, li16, li24, li25, li26, li31, li32, li36, li40, li48, li52, li58, li59, li60, li63, li64, li88, li96, li130, li192, li255, li2208, li2304, li9999, li9, li13, li14, li30, li35, li44, li45, li46, li47, li97, li98, li100, li101, li104, li105, li108, li110, li111, li112, li114, li117, li122, li999999, li1000000, li2147483647, cmp0, cmpl, cmpg, cmple, cmpge, nI_leI, nI_ltI, nI_eq, rL, rI, wL, wI, ob, aLet, nI_add, pk_mul, ↓reduceIte, if_true, if_false, eq_self, Nat.reduceEqDiff, Nat.reduceLeDiff, Nat.reduceLT, Nat.one_ne_zero, Nat.zero_ne_one, Nat.add_zero, Bool.false_eq_true, nI_neq]
  have h0 : ¬ s < 0 := by omega
  have h4 : ¬ 4 ≤ s := by omega
  have cl : (nI s).toNatClampNeg = s := nI_clamp (by omega)
  rcases hSh s (by omega) with ⟨q1, q2⟩ | ⟨⟨q, q1⟩, q2, q3, ⟨w, q4, q5, q6⟩, q7⟩
  · refine refuse (-nI 11) ?_ ?_
    · simp (disch := omega) only [X8_drop, a, rQ, q1, aQs, li0, li1, li2, li3, li4, li5, li6, li7, li8, li11, li12, li16, li24, li25, li26, li31, li32, li36, li40, li48, li52, li58, li59, li60, li63, li64, li88, li96, li130, li192, li255, li2208, li2304, li9999, li9, li13, li14, li30, li35, li44, li45, li46, li47, li97, li98, li100, li101, li104, li105, li108, li110, li111, li112, li114, li117, li122, li999999, li1000000, li2147483647, cmp0, cmpl, cmpg, cmple, cmpge, nI_leI, nI_ltI, nI_eq, rL, rI, wL, wI, ob, aLet, nI_add, pk_mul, ↓reduceIte, if_true, if_false, eq_self, Nat.reduceEqDiff, Nat.reduceLeDiff, Nat.reduceLT, Nat.one_ne_zero, Nat.zero_ne_one, Nat.add_zero, Bool.false_eq_true, nI_neq]
    · simp (disch := omega) only [X9_drop, X9_isSheet, b, q2, neg1, li0, li1, li2, li3, li4, li5, li6, li7, li8, li11, li12, li16, li24, li25, li26, li31, li32, li36, li40, li48, li52, li58, li59, li60, li63, li64, li88, li96, li130, li192, li255, li2208, li2304, li9999, li9, li13, li14, li30, li35, li44, li45, li46, li47, li97, li98, li100, li101, li104, li105, li108, li110, li111, li112, li114, li117, li122, li999999, li1000000, li2147483647, cmp0, cmpl, cmpg, cmple, cmpge, nI_leI, nI_ltI, nI_eq, rL, rI, wL, wI, ob, aLet, nI_add, pk_mul, ↓reduceIte, if_true, if_false, eq_self, Nat.reduceEqDiff, Nat.reduceLeDiff, Nat.reduceLT, Nat.one_ne_zero, Nat.zero_ne_one, Nat.add_zero, Bool.false_eq_true, nI_neq]
  have e1 : X8_drop (c_D c) (nI s) = some (nI ((c_D c).2.2.2.1 (26 + s)), dNo (c_D c) s) := by
    simp (disch := omega) only [X8_drop, a, rQ, q1, aQs, cl, h0, h4, or_self, li0, li1, li2, li3, li4, li5, li6, li7, li8, li11, li12, li16, li24, li25, li26, li31, li32, li36, li40, li48, li52, li58, li59, li60, li63, li64, li88, li96, li130, li192, li255, li2208, li2304, li9999, li9, li13, li14, li30, li35, li44, li45, li46, li47, li97, li98, li100, li101, li104, li105, li108, li110, li111, li112, li114, li117, li122, li999999, li1000000, li2147483647, cmp0, cmpl, cmpg, cmple, cmpge, nI_leI, nI_ltI, nI_eq, rL, rI, wL, wI, ob, aLet, nI_add, pk_mul, ↓reduceIte, if_true, if_false, eq_self, Nat.reduceEqDiff, Nat.reduceLeDiff, Nat.reduceLT, Nat.one_ne_zero, Nat.zero_ne_one, Nat.add_zero, Bool.false_eq_true, nI_neq]
    rfl
  have e2 : X9_drop m (nI s) = some (nI ((c_D c).2.2.2.1 (26 + s)), sA m 26 (upd (m.2.1 26) s (-nI 1))) := by
    have g1 : ∀ f, (sA m 26 f).2.1 27 = m.2.1 27 := fun f => rfl
    have z : (0 ≤ w) = True := by simp
    simp (disch := omega) only [X9_drop, X9_isSheet, b, q5, z, g1, q3, li0, li1, li2, li3, li4, li5, li6, li7, li8, li11, li12, li16, li24, li25, li26, li31, li32, li36, li40, li48, li52, li58, li59, li60, li63, li64, li88, li96, li130, li192, li255, li2208, li2304, li9999, li9, li13, li14, li30, li35, li44, li45, li46, li47, li97, li98, li100, li101, li104, li105, li108, li110, li111, li112, li114, li117, li122, li999999, li1000000, li2147483647, cmp0, cmpl, cmpg, cmple, cmpge, nI_leI, nI_ltI, nI_eq, rL, rI, wL, wI, ob, aLet, nI_add, pk_mul, ↓reduceIte, if_true, if_false, eq_self, Nat.reduceEqDiff, Nat.reduceLeDiff, Nat.reduceLT, Nat.one_ne_zero, Nat.zero_ne_one, Nat.add_zero, Bool.false_eq_true, nI_neq]
  refine ⟨_, (c_tape c, c_now c, c_past c, dNo (c_D c) s, c_trial c, c_earlier c, c_sets c, c_survey c, c_marriages c, c_finder c), sA m 26 (upd (m.2.1 26) s (-nI 1)), by unfold stC_drop; rw [e1]; rfl, by unfold stM_drop; rw [e2]; rfl, hL, hT, hP, hImg, ?_⟩
  intro i hi
  show (va_up (c_D c).2.2.1 s none i = none ∧ upd (m.2.1 26) s (-nI 1) i = -nI 1) ∨ ((∃ q, va_up (c_D c).2.2.1 s none i = some q) ∧ (c_D c).2.2.2.1 (26 + i) ≤ 24 ∧ m.2.1 27 i = nI ((c_D c).2.2.2.1 (26 + i)) ∧ (∃ a, a < 4 ∧ upd (m.2.1 26) s (-nI 1) i = nI a ∧ ((c_D c).2.2.2.2.1 (26 + i)).1 0 = nI a) ∧ ∀ k, k < (c_D c).2.2.2.1 (26 + i) → ((c_D c).2.2.2.2.1 (26 + i)).2.2 1 k = m.2.2 28 (24 * i + k))
  by_cases z : i = s
  · subst z
    exact Or.inl ⟨if_pos rfl, pk_us⟩
  · rw [pk_un z, show va_up (c_D c).2.2.1 s none i = (c_D c).2.2.1 i from if_neg z]
    exact hSh i hi
theorem reach {m : Nat} (hm : m ≤ 24) (S : Rec) (x n : Int32) : (X5_reaches m S x n = nI 0 ∧ (x < nI 0 ∨ n < nI 0 ∨ (nI m).toInt64 < x.toInt64 + n.toInt64)) ∨ ∃ i k, x = nI i ∧ n = nI k ∧ i + k ≤ m ∧ X5_reaches m S (nI i) (nI k) = nI 1 ∧ (nI i).toInt64 + (nI k).toInt64 ≤ (nI m).toInt64 := by
  have em : Int32.ofNat m = nI m := rfl
  by_cases h1 : n < 0
  · refine Or.inl ⟨?_, Or.inr (Or.inl h1)⟩
    unfold X5_reaches
    rw [if_pos h1]
    rfl
  by_cases h2 : x < 0
  · refine Or.inl ⟨?_, Or.inl h2⟩
    unfold X5_reaches
    rw [if_neg h1, if_pos h2]
    rfl
  obtain ⟨i, hi, rfl⟩ := nI_of h2
  obtain ⟨k, hk, rfl⟩ := nI_of h1
  have t1 : (nI i).toInt = i := nI_toInt hi
  have t2 : (nI k).toInt = k := nI_toInt hk
  have t3 : (nI m).toInt = m := nI_toInt (by omega)
  have ts : (nI m - nI k).toInt = (m : Int) - k := by rw [fb_subI (by omega) (by omega), t3, t2]
  have tl : ((nI i).toInt64 + (nI k).toInt64).toInt = (i : Int) + k := by
    rw [nI_l hi, nI_l hk, lN_add, pk_lT (by omega)]
    omega
  have tm : ((nI m).toInt64).toInt = (m : Int) := by rw [nI_l (by omega), pk_lT (by omega)]
  by_cases h : i + k ≤ m
  · refine Or.inr ⟨i, k, rfl, rfl, h, ?_, ?_⟩
    · unfold X5_reaches
      rw [if_neg (nI_pos hk), if_neg (nI_pos hi), em, if_neg (by rw [fa_lt, ts, t1]; omega)]
      rfl
    · rw [fa_le64, tl, tm]
      omega
  · refine Or.inl ⟨?_, Or.inr (Or.inr ?_)⟩
    · unfold X5_reaches
      rw [if_neg (nI_pos hk), if_neg (nI_pos hi), em, if_pos (by rw [fa_lt, ts, t1]; omega)]
      rfl
    · rw [fa_lt64, tl, tm]
      omega
theorem lt_nle64 {a b : Int64} (h : a < b) : ¬ b ≤ a := by
  rw [fa_lt64] at h
  rw [fa_le64]
  omega
theorem le_nlt64 {a b : Int64} (h : a ≤ b) : ¬ b < a := by
  rw [fa_le64] at h
  rw [fa_lt64]
  omega
/-- what refuses a row of items, in class and reference -/
theorem refusal {m : Rec} {lf : Nat → Option Nat} {sz : Nat → Nat} {B : Nat → Rec} (h : SheetOf lf sz B (m.2.1 26) (m.2.1 27) (m.2.2 28)) {s l : Nat} (hs : s < 4) (hl : l < 4) (x : Int32) {n : Nat} (hn : n ≤ 24) :
    (lf s = none ∧ X9_refusal m (nI s) (nI l) x (nI n) = some (-nI 11)) ∨ (∃ q a, lf s = some q ∧ a < 4 ∧ (B (26 + s)).1 0 = nI a ∧ a ≠ l ∧ X9_refusal m (nI s) (nI l) x (nI n) = some (-nI 12)) ∨ (∃ q, lf s = some q ∧ (B (26 + s)).1 0 = nI l ∧ X5_reaches (sz (26 + s)) (B (26 + s)) x (nI n) = nI 0 ∧ X9_refusal m (nI s) (nI l) x (nI n) = some (-nI 13)) ∨ ∃ q i, lf s = some q ∧ (B (26 + s)).1 0 = nI l ∧ x = nI i ∧ i + n ≤ sz (26 + s) ∧ sz (26 + s) ≤ 24 ∧ X5_reaches (sz (26 + s)) (B (26 + s)) (nI i) (nI n) = nI 1 ∧ X9_refusal m (nI s) (nI l) (nI i) (nI n) = some (nI 0) := by
  rcases h s hs with ⟨q1, q2⟩ | ⟨⟨q, q1⟩, q2, q3, ⟨w, q4, q5, q6⟩, q7⟩
  · refine Or.inl ⟨q1, ?_⟩
    unfold X9_refusal
    simp (disch := omega) only [q2, neg1, li0, li1, li2, li3, li4, li5, li6, li7, li8, li11, li12, li16, li24, li25, li26, li31, li32, li36, li40, li48, li52, li58, li59, li60, li63, li64, li88, li96, li130, li192, li255, li2208, li2304, li9999, li9, li13, li14, li30, li35, li44, li45, li46, li47, li97, li98, li100, li101, li104, li105, li108, li110, li111, li112, li114, li117, li122, li999999, li1000000, li2147483647, cmp0, cmpl, cmpg, cmple, cmpge, nI_leI, nI_ltI, nI_eq, rL, rI, wL, wI, ob, aLet, nI_add, pk_mul, ↓reduceIte, if_true, if_false, eq_self, Nat.reduceEqDiff, Nat.reduceLeDiff, Nat.reduceLT, Nat.one_ne_zero, Nat.zero_ne_one, Nat.add_zero, Bool.false_eq_true, nI_neq]
  have z : (0 ≤ w) = True := by simp
  by_cases y : w = l
  · subst y
    refine Or.inr (Or.inr ?_)
    rcases reach q2 (B (26 + s)) x (nI n) with ⟨r1, r2⟩ | ⟨i, k, rfl, r1, r2, r3, r4⟩
    · refine Or.inl ⟨q, q1, q6, r1, ?_⟩
      unfold X9_refusal
      simp (disch := omega) only [q5, z, q3, li0, li1, li2, li3, li4, li5, li6, li7, li8, li11, li12, li16, li24, li25, li26, li31, li32, li36, li40, li48, li52, li58, li59, li60, li63, li64, li88, li96, li130, li192, li255, li2208, li2304, li9999, li9, li13, li14, li30, li35, li44, li45, li46, li47, li97, li98, li100, li101, li104, li105, li108, li110, li111, li112, li114, li117, li122, li999999, li1000000, li2147483647, cmp0, cmpl, cmpg, cmple, cmpge, nI_leI, nI_ltI, nI_eq, rL, rI, wL, wI, ob, aLet, nI_add, pk_mul, ↓reduceIte, if_true, if_false, eq_self, Nat.reduceEqDiff, Nat.reduceLeDiff, Nat.reduceLT, Nat.one_ne_zero, Nat.zero_ne_one, Nat.add_zero, Bool.false_eq_true, nI_neq]
      by_cases x0 : x < nI 0
      · rw [if_pos x0]
      · rw [if_neg x0, if_neg]
        rcases r2 with r | r | r
        · exact absurd r x0
        · exact absurd r (nI_pos (by omega))
        · exact lt_nle64 r
    · have e : k = n := by
        rcases Nat.lt_or_ge k (2 ^ 31) with hk | hk
        · exact ((nI_eq (by omega) hk).mp r1).symm
        · omega
      subst e
      refine Or.inr ⟨q, i, q1, q6, rfl, r2, q2, r3, ?_⟩
      have i0 : ¬ i < 0 := by omega
      unfold X9_refusal
      simp (disch := omega) only [q5, z, q3, i0, r4, li0, li1, li2, li3, li4, li5, li6, li7, li8, li11, li12, li16, li24, li25, li26, li31, li32, li36, li40, li48, li52, li58, li59, li60, li63, li64, li88, li96, li130, li192, li255, li2208, li2304, li9999, li9, li13, li14, li30, li35, li44, li45, li46, li47, li97, li98, li100, li101, li104, li105, li108, li110, li111, li112, li114, li117, li122, li999999, li1000000, li2147483647, cmp0, cmpl, cmpg, cmple, cmpge, nI_leI, nI_ltI, nI_eq, rL, rI, wL, wI, ob, aLet, nI_add, pk_mul, ↓reduceIte, if_true, if_false, eq_self, Nat.reduceEqDiff, Nat.reduceLeDiff, Nat.reduceLT, Nat.one_ne_zero, Nat.zero_ne_one, Nat.add_zero, Bool.false_eq_true, nI_neq]
  · refine Or.inr (Or.inl ⟨q, w, q1, q4, q6, y, ?_⟩)
    unfold X9_refusal
    simp (disch := omega) only [q5, z, y, li0, li1, li2, li3, li4, li5, li6, li7, li8, li11, li12, li16, li24, li25, li26, li31, li32, li36, li40, li48, li52, li58, li59, li60, li63, li64, li88, li96, li130, li192, li255, li2208, li2304, li9999, li9, li13, li14, li30, li35, li44, li45, li46, li47, li97, li98, li100, li101, li104, li105, li108, li110, li111, li112, li114, li117, li122, li999999, li1000000, li2147483647, cmp0, cmpl, cmpg, cmple, cmpge, nI_leI, nI_ltI, nI_eq, rL, rI, wL, wI, ob, aLet, nI_add, pk_mul, ↓reduceIte, if_true, if_false, eq_self, Nat.reduceEqDiff, Nat.reduceLeDiff, Nat.reduceLT, Nat.one_ne_zero, Nat.zero_ne_one, Nat.add_zero, Bool.false_eq_true, nI_neq]
theorem cutB (y : Int64) (k : Nat) (hk : k < 64) {i : Nat} (hi : i < 64) : tb ((y <<< ((nI k).toInt64 &&& 63)) >>> ((nI k).toInt64 &&& 63)) i = if k + i < 64 then tb y i else tb y (63 - k) := by
  have e : ((nI k).toInt64 &&& 63) = lN k := wb_c k hk
  have f : ∀ j, j < 64 → tb (y <<< ((nI k).toInt64 &&& 63)) j = (decide (k ≤ j) && tb y (j - k)) := fun j hj => tb_shl y hk hj
  generalize hz : y <<< ((nI k).toInt64 &&& 63) = z at *
  rw [e]
  unfold tb at f ⊢
  have sm : ((lN k).toBitVec.smod 64).toNat = k := by
    rw [wb_tb, wb_sm k hk, BitVec.toNat_ofNat]
    omega
  rw [Int64.toBitVec_shiftRight, BitVec.sshiftRight_eq', sm, BitVec.getLsbD_sshiftRight, BitVec.msb_eq_getLsbD_last]
  have hd : (!decide (64 ≤ i)) = true := by
    rw [decide_eq_false (by omega)]
    rfl
  by_cases h : k + i < 64
  · rw [hd, Bool.true_and, if_pos h, if_pos h, f _ h, decide_eq_true (by omega), Bool.true_and, show k + i - k = i by omega]
  · have g := f 63 (by omega)
    rw [decide_eq_true (show k ≤ 63 by omega), Bool.true_and] at g
    rw [hd, Bool.true_and, if_neg h, if_neg h]
    exact g
theorem se {w : Nat} (x : BitVec w) (v i : Nat) : (x.signExtend v).getLsbD i = (decide (i < v) && if i < w then x.getLsbD i else x.getLsbD (w - 1)) := by rw [BitVec.getLsbD_signExtend, BitVec.msb_eq_getLsbD_last]
theorem c_cut {a : Nat} (ha : a < 4) (y : Int64) : (y <<< (((64 : Int32) - ((8 : Int32) <<< (nI a &&& 31))).toInt64 &&& 63)) >>> (((64 : Int32) - ((8 : Int32) <<< (nI a &&& 31))).toInt64 &&& 63) = X9_cut (nI a) y := by
  rcases (show a = 0 ∨ a = 1 ∨ a = 2 ∨ a = 3 by omega) with rfl | rfl | rfl | rfl
  · rw [show (64 : Int32) - ((8 : Int32) <<< (nI 0 &&& 31)) = nI 56 by decide]
    have e : X9_cut (nI 0) y = y.toInt32.toInt8.toInt32.toInt64 := by
      unfold X9_cut
      rw [if_pos (show nI 0 = (0 : Int32) from rfl)]
    refine tb_ext (fun i hi => ?_)
    rw [cutB y 56 (by decide) hi, e]
    unfold tb
    rw [Int32.toBitVec_toInt64, Int8.toBitVec_toInt32, Int32.toBitVec_toInt8, Int64.toBitVec_toInt32]
    by_cases z : i < 8
    · rw [if_pos (by omega)]
      simp only [se, hi, z, show i < 32 by omega, decide_true, Bool.true_and, if_true, if_false, Nat.reduceSub, Nat.reduceLT]
    · rw [if_neg (by omega)]
      by_cases w : i < 32
      · simp only [se, hi, z, w, decide_true, Bool.true_and, if_true, if_false, Nat.reduceSub, Nat.reduceLT]
      · simp only [se, hi, z, w, decide_true, Bool.true_and, if_true, if_false, Nat.reduceSub, Nat.reduceLT]
  · rw [show (64 : Int32) - ((8 : Int32) <<< (nI 1 &&& 31)) = nI 48 by decide]
    have e : X9_cut (nI 1) y = y.toInt32.toInt16.toInt32.toInt64 := by
      unfold X9_cut
      rw [if_neg (show ¬ nI 1 = (0 : Int32) by decide), if_pos (show nI 1 = (1 : Int32) from rfl)]
    refine tb_ext (fun i hi => ?_)
    rw [cutB y 48 (by decide) hi, e]
    unfold tb
    rw [Int32.toBitVec_toInt64, Int16.toBitVec_toInt32, Int32.toBitVec_toInt16, Int64.toBitVec_toInt32]
    by_cases z : i < 16
    · rw [if_pos (by omega)]
      simp only [se, hi, z, show i < 32 by omega, decide_true, Bool.true_and, if_true, if_false, Nat.reduceSub, Nat.reduceLT]
    · rw [if_neg (by omega)]
      by_cases w : i < 32
      · simp only [se, hi, z, w, decide_true, Bool.true_and, if_true, if_false, Nat.reduceSub, Nat.reduceLT]
      · simp only [se, hi, z, w, decide_true, Bool.true_and, if_true, if_false, Nat.reduceSub, Nat.reduceLT]
  · rw [show (64 : Int32) - ((8 : Int32) <<< (nI 2 &&& 31)) = nI 32 by decide]
    have e : X9_cut (nI 2) y = y.toInt32.toInt64 := by
      unfold X9_cut
      rw [if_neg (show ¬ nI 2 = (0 : Int32) by decide), if_neg (show ¬ nI 2 = (1 : Int32) by decide), if_pos (show nI 2 = (2 : Int32) from rfl)]
    refine tb_ext (fun i hi => ?_)
    rw [cutB y 32 (by decide) hi, e]
    unfold tb
    rw [Int32.toBitVec_toInt64, Int64.toBitVec_toInt32]
    by_cases z : i < 32
    · rw [if_pos (by omega)]
      simp only [se, hi, z, decide_true, Bool.true_and, if_true, if_false, Nat.reduceSub, Nat.reduceLT]
    · rw [if_neg (by omega)]
      simp only [se, hi, z, decide_true, Bool.true_and, if_true, if_false, Nat.reduceSub, Nat.reduceLT]
  · rw [show (64 : Int32) - ((8 : Int32) <<< (nI 3 &&& 31)) = nI 0 by decide]
    have e : X9_cut (nI 3) y = y := by
      unfold X9_cut
      rw [if_neg (show ¬ nI 3 = (0 : Int32) by decide), if_neg (show ¬ nI 3 = (1 : Int32) by decide), if_neg (show ¬ nI 3 = (2 : Int32) by decide)]
    refine tb_ext (fun i hi => ?_)
    rw [cutB y 0 (by decide) hi, if_pos (by omega), e]
theorem c_put {z : Nat} {S : Rec} {i l : Nat} (hz : z ≤ 24) (hi : i < z) (hl : l < 4) (h0 : S.1 0 = nI l) (y : Int64) : X5_put z S (nI i) y = some (X9_cut (nI l) y, sL S 1 (vp_updL (S.2.2 1) i (X9_cut (nI l) y))) := by
  have h1 : ¬ nI i < (0 : Int32) := nI_pos (by omega)
  have h2 : nI i < Int32.ofNat z := nI_lt hi (by omega)
  have g : (sL S 1 (vp_updL (S.2.2 1) i (X9_cut (nI l) y))).2.2 1 = vp_updL (S.2.2 1) i (X9_cut (nI l) y) := rfl
  unfold X5_put
  rw [if_neg h1, if_pos h2, h0]
  unfold aLet
  dsimp only
  rw [c_cut hl, wL hi (by omega), ob, g, rL hi (by omega), ob, pk_uLs]
theorem eq_item {c : CSt} {m : Rec} (hI : Inv c m) (x1 : Int32) (x2 : Int32) (x3 : Int32) (y4 : Int64) : ∃ (r : Int64) (c1 : CSt) (m1 : Rec), stC_item c x1 x2 x3 y4 = some (r, c1) ∧ stM_item m x1 x2 x3 y4 = some (r, m1) ∧ Inv c1 m1 := by
  obtain ⟨hL, hT, hP, hImg, hSh⟩ := id hI
  have refuse : ∀ v, X8_item (c_D c) x1 x2 x3 y4 = some (v, c_D c) → X9_item m x1 x2 x3 y4 = some (v, m) → ∃ (r : Int64) (c1 : CSt) (m1 : Rec), stC_item c x1 x2 x3 y4 = some (r, c1) ∧ stM_item m x1 x2 x3 y4 = some (r, m1) ∧ Inv c1 m1 := fun v h1 h2 => ⟨v, c, m, by unfold stC_item; rw [h1]; rfl, by unfold stM_item; rw [h2]; rfl, hI⟩
  have n11 : (-nI 11 : Int32).toInt64 = -11 := by decide
  have n12 : (-nI 12 : Int32).toInt64 = -12 := by decide
  have n13 : (-nI 13 : Int32).toInt64 = -13 := by decide
  have k11 : ¬ (-nI 11 = nI 0) := by decide
  have k12 : ¬ (-nI 12 = nI 0) := by decide
  have k13 : ¬ (-nI 13 = nI 0) := by decide
  rcases rg_0_3 x1 with ⟨a, b, -⟩ | ⟨s, -, hs, rfl, a, b⟩
  · refine refuse (-1) ?_ ?_
    · simp (disch := omega) only [X8_item, a, li0, li1, li2, li3, li4, li5, li6, li7, li8, li11, li12, li16, li24, li25, li26, li31, li32, li36, li40, li48, li52, li58, li59, li60, li63, li64, li88, li96, li130, li192, li255, li2208, li2304, li9999, li9, li13, li14, li30, li35, li44, li45, li46, li47, li97, li98, li100, li101, li104, li105, li108, li110, li111, li112, li114, li117, li122, li999999, li1000000, li2147483647, cmp0, cmpl, cmpg, cmple, cmpge, nI_leI, nI_ltI, nI_eq, rL, rI, wL, wI, ob, aLet, nI_add, pk_mul, ↓reduceIte, if_true, if_false, eq_self, Nat.reduceEqDiff, Nat.reduceLeDiff, Nat.reduceLT, Nat.one_ne_zero, Nat.zero_ne_one, Nat.add_zero, Bool.false_eq_true, nI_neq]
    · simp (disch := omega) only [X9_item, X9_isSheet, b, li0, li1, li2, li3, li4, li5, li6, li7, li8, li11, li12, li16, li24, li25, li26, li31, li32, li36, li40, li48, li52, li58, li59, li60, li63, li64, li88, li96, li130, li192, li255, li2208, li2304, li9999, li9, li13, li14, li30, li35, li44, li45, li46, li47, li97, li98, li100, li101, li104, li105, li108, li110, li111, li112, li114, li117, li122, li999999, li1000000, li2147483647, cmp0, cmpl, cmpg, cmple, cmpge, nI_leI, nI_ltI, nI_eq, rL, rI, wL, wI, ob, aLet, nI_add, pk_mul, ↓reduceIte, if_true, if_false, eq_self, Nat.reduceEqDiff, Nat.reduceLeDiff, Nat.reduceLT, Nat.one_ne_zero, Nat.zero_ne_one, Nat.add_zero, Bool.false_eq_true, nI_neq]
  rcases rg_0_3 x2 with ⟨e, f, -⟩ | ⟨l, -, hl, rfl, e, f⟩
  · refine refuse (-1) ?_ ?_
    · simp (disch := omega) only [X8_item, a, e, li0, li1, li2, li3, li4, li5, li6, li7, li8, li11, li12, li16, li24, li25, li26, li31, li32, li36, li40, li48, li52, li58, li59, li60, li63, li64, li88, li96, li130, li192, li255, li2208, li2304, li9999, li9, li13, li14, li30, li35, li44, li45, li46, li47, li97, li98, li100, li101, li104, li105, li108, li110, li111, li112, li114, li117, li122, li999999, li1000000, li2147483647, cmp0, cmpl, cmpg, cmple, cmpge, nI_leI, nI_ltI, nI_eq, rL, rI, wL, wI, ob, aLet, nI_add, pk_mul, ↓reduceIte, if_true, if_false, eq_self, Nat.reduceEqDiff, Nat.reduceLeDiff, Nat.reduceLT, Nat.one_ne_zero, Nat.zero_ne_one, Nat.add_zero, Bool.false_eq_true, nI_neq]
    · simp (disch := omega) only [X9_item, X9_isSheet, b, f, li0, li1, li2, li3, li4, li5, li6, li7, li8, li11, li12, li16, li24, li25, li26, li31, li32, li36, li40, li48, li52, li58, li59, li60, li63, li64, li88, li96, li130, li192, li255, li2208, li2304, li9999, li9, li13, li14, li30, li35, li44, li45, li46, li47, li97, li98, li100, li101, li104, li105, li108, li110, li111, li112, li114, li117, li122, li999999, li1000000, li2147483647, cmp0, cmpl, cmpg, cmple, cmpge, nI_leI, nI_ltI, nI_eq, rL, rI, wL, wI, ob, aLet, nI_add, pk_mul, ↓reduceIte, if_true, if_false, eq_self, Nat.reduceEqDiff, Nat.reduceLeDiff, Nat.reduceLT, Nat.one_ne_zero, Nat.zero_ne_one, Nat.add_zero, Bool.false_eq_true, nI_neq]
  have cl : (nI s).toNatClampNeg = s := nI_clamp (by omega)
  rcases refusal hSh (s := s) (l := l) (by omega) (by omega) x3 (n := 1) (by omega) with ⟨q1, q2⟩ | ⟨q, w, q1, q3, q4, q5, q2⟩ | ⟨q, q1, q3, q4, q2⟩ | ⟨q, i, q1, q3, rfl, q4, q5, q6, q2⟩
  · refine refuse (-11) ?_ ?_
    · simp (disch := omega) only [X8_item, a, e, rQ, q1, aQs, li0, li1, li2, li3, li4, li5, li6, li7, li8, li11, li12, li16, li24, li25, li26, li31, li32, li36, li40, li48, li52, li58, li59, li60, li63, li64, li88, li96, li130, li192, li255, li2208, li2304, li9999, li9, li13, li14, li30, li35, li44, li45, li46, li47, li97, li98, li100, li101, li104, li105, li108, li110, li111, li112, li114, li117, li122, li999999, li1000000, li2147483647, cmp0, cmpl, cmpg, cmple, cmpge, nI_leI, nI_ltI, nI_eq, rL, rI, wL, wI, ob, aLet, nI_add, pk_mul, ↓reduceIte, if_true, if_false, eq_self, Nat.reduceEqDiff, Nat.reduceLeDiff, Nat.reduceLT, Nat.one_ne_zero, Nat.zero_ne_one, Nat.add_zero, Bool.false_eq_true, nI_neq]
    · simp (disch := omega) only [X9_item, X9_isSheet, b, f, q2, n11, k11, li0, li1, li2, li3, li4, li5, li6, li7, li8, li11, li12, li16, li24, li25, li26, li31, li32, li36, li40, li48, li52, li58, li59, li60, li63, li64, li88, li96, li130, li192, li255, li2208, li2304, li9999, li9, li13, li14, li30, li35, li44, li45, li46, li47, li97, li98, li100, li101, li104, li105, li108, li110, li111, li112, li114, li117, li122, li999999, li1000000, li2147483647, cmp0, cmpl, cmpg, cmple, cmpge, nI_leI, nI_ltI, nI_eq, rL, rI, wL, wI, ob, aLet, nI_add, pk_mul, ↓reduceIte, if_true, if_false, eq_self, Nat.reduceEqDiff, Nat.reduceLeDiff, Nat.reduceLT, Nat.one_ne_zero, Nat.zero_ne_one, Nat.add_zero, Bool.false_eq_true, nI_neq]
  · refine refuse (-12) ?_ ?_
    · simp (disch := omega) only [X8_item, a, e, rQ, q1, aQs, cl, q4, q5, li0, li1, li2, li3, li4, li5, li6, li7, li8, li11, li12, li16, li24, li25, li26, li31, li32, li36, li40, li48, li52, li58, li59, li60, li63, li64, li88, li96, li130, li192, li255, li2208, li2304, li9999, li9, li13, li14, li30, li35, li44, li45, li46, li47, li97, li98, li100, li101, li104, li105, li108, li110, li111, li112, li114, li117, li122, li999999, li1000000, li2147483647, cmp0, cmpl, cmpg, cmple, cmpge, nI_leI, nI_ltI, nI_eq, rL, rI, wL, wI, ob, aLet, nI_add, pk_mul, ↓reduceIte, if_true, if_false, eq_self, Nat.reduceEqDiff, Nat.reduceLeDiff, Nat.reduceLT, Nat.one_ne_zero, Nat.zero_ne_one, Nat.add_zero, Bool.false_eq_true, nI_neq]
    · simp (disch := omega) only [X9_item, X9_isSheet, b, f, q2, n12, k12, li0, li1, li2, li3, li4, li5, li6, li7, li8, li11, li12, li16, li24, li25, li26, li31, li32, li36, li40, li48, li52, li58, li59, li60, li63, li64, li88, li96, li130, li192, li255, li2208, li2304, li9999, li9, li13, li14, li30, li35, li44, li45, li46, li47, li97, li98, li100, li101, li104, li105, li108, li110, li111, li112, li114, li117, li122, li999999, li1000000, li2147483647, cmp0, cmpl, cmpg, cmple, cmpge, nI_leI, nI_ltI, nI_eq, rL, rI, wL, wI, ob, aLet, nI_add, pk_mul, ↓reduceIte, if_true, if_false, eq_self, Nat.reduceEqDiff, Nat.reduceLeDiff, Nat.reduceLT, Nat.one_ne_zero, Nat.zero_ne_one, Nat.add_zero, Bool.false_eq_true, nI_neq]
  · refine refuse (-13) ?_ ?_
    · simp (disch := omega) only [X8_item, a, e, rQ, q1, aQs, cl, q3, q4, li0, li1, li2, li3, li4, li5, li6, li7, li8, li11, li12, li16, li24, li25, li26, li31, li32, li36, li40, li48, li52, li58, li59, li60, li63, li64, li88, li96, li130, li192, li255, li2208, li2304, li9999, li9, li13, li14, li30, li35, li44, li45, li46, li47, li97, li98, li100, li101, li104, li105, li108, li110, li111, li112, li114, li117, li122, li999999, li1000000, li2147483647, cmp0, cmpl, cmpg, cmple, cmpge, nI_leI, nI_ltI, nI_eq, rL, rI, wL, wI, ob, aLet, nI_add, pk_mul, ↓reduceIte, if_true, if_false, eq_self, Nat.reduceEqDiff, Nat.reduceLeDiff, Nat.reduceLT, Nat.one_ne_zero, Nat.zero_ne_one, Nat.add_zero, Bool.false_eq_true, nI_neq]
    · simp (disch := omega) only [X9_item, X9_isSheet, b, f, q2, n13, k13, li0, li1, li2, li3, li4, li5, li6, li7, li8, li11, li12, li16, li24, li25, li26, li31, li32, li36, li40, li48, li52, li58, li59, li60, li63, li64, li88, li96, li130, li192, li255, li2208, li2304, li9999, li9, li13, li14, li30, li35, li44, li45, li46, li47, li97, li98, li100, li101, li104, li105, li108, li110, li111, li112, li114, li117, li122, li999999, li1000000, li2147483647, cmp0, cmpl, cmpg, cmple, cmpge, nI_leI, nI_ltI, nI_eq, rL, rI, wL, wI, ob, aLet, nI_add, pk_mul, ↓reduceIte, if_true, if_false, eq_self, Nat.reduceEqDiff, Nat.reduceLeDiff, Nat.reduceLT, Nat.one_ne_zero, Nat.zero_ne_one, Nat.add_zero, Bool.false_eq_true, nI_neq]
  have pt := c_put q5 (show i < (c_D c).2.2.2.1 (26 + s) by omega) (by omega) q3 y4
  have e1 : X8_item (c_D c) (nI s) (nI l) (nI i) y4 = some (X9_cut (nI l) y4, dLV (c_D c) (26 + s) (sL ((c_D c).2.2.2.2.1 (26 + s)) 1 (vp_updL (((c_D c).2.2.2.2.1 (26 + s)).2.2 1) i (X9_cut (nI l) y4)))) := by
    simp (disch := omega) only [X8_item, a, e, rQ, q1, aQs, cl, q3, q6, pt, li0, li1, li2, li3, li4, li5, li6, li7, li8, li11, li12, li16, li24, li25, li26, li31, li32, li36, li40, li48, li52, li58, li59, li60, li63, li64, li88, li96, li130, li192, li255, li2208, li2304, li9999, li9, li13, li14, li30, li35, li44, li45, li46, li47, li97, li98, li100, li101, li104, li105, li108, li110, li111, li112, li114, li117, li122, li999999, li1000000, li2147483647, cmp0, cmpl, cmpg, cmple, cmpge, nI_leI, nI_ltI, nI_eq, rL, rI, wL, wI, ob, aLet, nI_add, pk_mul, ↓reduceIte, if_true, if_false, eq_self, Nat.reduceEqDiff, Nat.reduceLeDiff, Nat.reduceLT, Nat.one_ne_zero, Nat.zero_ne_one, Nat.add_zero, Bool.false_eq_true, nI_neq]
  have e2 : X9_item m (nI s) (nI l) (nI i) y4 = some (X9_cut (nI l) y4, sL m 28 (vp_updL (m.2.2 28) (24 * s + i) (X9_cut (nI l) y4))) := by
    have g : ∀ f, (sL m 28 f).2.2 28 = f := fun f => rfl
    simp (disch := omega) only [X9_item, X9_isSheet, b, f, q2, g, pk_uLs, li0, li1, li2, li3, li4, li5, li6, li7, li8, li11, li12, li16, li24, li25, li26, li31, li32, li36, li40, li48, li52, li58, li59, li60, li63, li64, li88, li96, li130, li192, li255, li2208, li2304, li9999, li9, li13, li14, li30, li35, li44, li45, li46, li47, li97, li98, li100, li101, li104, li105, li108, li110, li111, li112, li114, li117, li122, li999999, li1000000, li2147483647, cmp0, cmpl, cmpg, cmple, cmpge, nI_leI, nI_ltI, nI_eq, rL, rI, wL, wI, ob, aLet, nI_add, pk_mul, ↓reduceIte, if_true, if_false, eq_self, Nat.reduceEqDiff, Nat.reduceLeDiff, Nat.reduceLT, Nat.one_ne_zero, Nat.zero_ne_one, Nat.add_zero, Bool.false_eq_true, nI_neq]
  refine ⟨_, (c_tape c, c_now c, c_past c, dLV (c_D c) (26 + s) (sL ((c_D c).2.2.2.2.1 (26 + s)) 1 (vp_updL (((c_D c).2.2.2.2.1 (26 + s)).2.2 1) i (X9_cut (nI l) y4))), c_trial c, c_earlier c, c_sets c, c_survey c, c_marriages c, c_finder c), sL m 28 (vp_updL (m.2.2 28) (24 * s + i) (X9_cut (nI l) y4)), by unfold stC_item; rw [e1]; rfl, by unfold stM_item; rw [e2]; rfl, hL, hT, past_far hP (fun j _ => rfl) (fun j hj => if_neg (by omega)), img_far hImg (fun j h1 h2 => if_neg (by omega)), ?_⟩
  intro j hj
  show ((c_D c).2.2.1 j = none ∧ m.2.1 26 j = -nI 1) ∨ ((∃ q, (c_D c).2.2.1 j = some q) ∧ (c_D c).2.2.2.1 (26 + j) ≤ 24 ∧ m.2.1 27 j = nI ((c_D c).2.2.2.1 (26 + j)) ∧ (∃ a, a < 4 ∧ m.2.1 26 j = nI a ∧ (if 26 + j = 26 + s then (sL ((c_D c).2.2.2.2.1 (26 + s)) 1 (vp_updL (((c_D c).2.2.2.2.1 (26 + s)).2.2 1) i (X9_cut (nI l) y4))) else (c_D c).2.2.2.2.1 (26 + j)).1 0 = nI a) ∧ ∀ k, k < (c_D c).2.2.2.1 (26 + j) → (if 26 + j = 26 + s then (sL ((c_D c).2.2.2.2.1 (26 + s)) 1 (vp_updL (((c_D c).2.2.2.2.1 (26 + s)).2.2 1) i (X9_cut (nI l) y4))) else (c_D c).2.2.2.2.1 (26 + j)).2.2 1 k = vp_updL (m.2.2 28) (24 * s + i) (X9_cut (nI l) y4) (24 * j + k))
  rcases hSh j hj with q | ⟨g1, g2, g3, g4, g5⟩
  · exact Or.inl q
  · refine Or.inr ⟨g1, g2, g3, ?_, fun k hk => ?_⟩
    · by_cases z : j = s
      · subst z
        rw [if_pos rfl]
        exact g4
      · rw [if_neg (by omega)]
        exact g4
    · by_cases z : j = s
      · subst z
        rw [if_pos rfl]
        show vp_updL (((c_D c).2.2.2.2.1 (26 + j)).2.2 1) i (X9_cut (nI l) y4) k = _
        by_cases y : k = i
        · subst y
          rw [pk_uLs, pk_uLs]
        · rw [pk_uLn y, pk_uLn (by omega)]
          exact g5 k hk
      · rw [if_neg (by omega), pk_uLn (by omega)]
        exact g5 k hk
