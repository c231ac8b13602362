/-! the tape: what stands at a place, in the program and in the reference -/
def cA (T : Nat) (b : Nat → Nat) (a : Nat) : Nat := if a < T then b a else 999
def eC (x : Nat) : Int32 := if x = 999 then -nI 1 else nI x
def eR (x : Nat) : Int32 := if x = 999 then -nI 4 else nI x
theorem eC_b {x : Nat} (h : x < 256) : eC x = nI x := if_neg (show ¬ x = 999 by omega)
theorem eR_b {x : Nat} (h : x < 256) : eR x = nI x := if_neg (show ¬ x = 999 by omega)
theorem eC_e : eC 999 = -nI 1 := if_pos rfl
theorem eR_e : eR 999 = -nI 4 := if_pos rfl
theorem n1l {n : Nat} (h : n < 2 ^ 31) : ¬ -nI 1 = nI n := fun z => by
  have := nI_neq (a := n) (b := 1) (by decide) (by decide) h
  rw [← this]
  exact z.symm
def kd (x : Nat) : Nat := if x = 112 then 0 else if x = 98 then 1 else if x = 110 then 2 else if x = 114 then 3 else if x = 104 then 4 else 9
def sd (x : Nat) : Nat := if x = 97 then 0 else if x = 101 then 1 else if x = 105 then 2 else if x = 111 then 3 else if x = 117 then 4 else if x = 45 then 5 else 9
def fg (H x : Nat) : Nat := if x = 46 then 0 else if 48 ≤ x ∧ x < 48 + H then x - 47 else 9
def TP (T : Nat) (b : Nat → Nat) (Z : Rec) (a : Nat) : Prop := T ≤ 130 ∧ (∀ j, j < T → b j < 256) ∧ a ≤ T ∧ Z.1 1 = nI T ∧ Z.1 2 = nI a ∧ ∀ j, j < T → Z.2.1 0 j = nI (b j)
def RM (T : Nat) (b : Nat → Nat) (m0 M : Rec) (a : Nat) : Prop := Fr m0 M ∧ T ≤ 130 ∧ a ≤ T ∧ m0.1 6 = nI T ∧ (∀ j, j < T → b j < 256 ∧ m0.2.1 5 j = nI (b j)) ∧ M.1 7 = nI a ∧ M.1 8 = -nI 4
def DM (m0 M : Rec) (f : Nat) : Prop := Fr m0 M ∧ f ≤ 130 ∧ M.1 8 = nI f
theorem cA_lt {T : Nat} {b : Nat → Nat} {a x : Nat} (h : cA T b a = x) (hx : x < 256) : a < T := by
  unfold cA at h
  by_cases q : a < T
  · exact q
  · rw [if_neg q] at h
    omega
theorem cA_r {T : Nat} {b : Nat → Nat} (hb : ∀ j, j < T → b j < 256) (a : Nat) : cA T b a < 256 ∨ cA T b a = 999 := by
  unfold cA
  by_cases q : a < T
  · rw [if_pos q]
    exact Or.inl (hb a q)
  · rw [if_neg q]
    exact Or.inr rfl
theorem c_sign {T : Nat} {b : Nat → Nat} {Z : Rec} {a : Nat} (h : TP T b Z a) : X7_sign Z = some (eC (cA T b a)) := by
  obtain ⟨h1, h2, h3, h4, h5, h6⟩ := h
  have a0 : ¬ a < 0 := by omega
  have z130 : Int32.ofNat 130 = nI 130 := rfl
  unfold X7_sign eC cA
  by_cases q : a < T
  · have hb := h2 a q
    have h7 := h6 a q
    have q1 : ¬ T ≤ a := by omega
    have q2 : ¬ 130 ≤ a := by omega
    have q3 : ¬ b a = 999 := by omega
    rw [if_pos q, if_neg q3]
    simp (disch := omega) only [h4, h5, z130, h7, a0, q1, q2, li0, li1, li2, li3, li4, li5, li6, li7, li8, li11, li12, li16, li24, li25, li26, li31, li32, li36, li40, li48, li52, li58, li59, li60, li63, li64, li88, li96, li130, li192, li255, li2208, li2304, li9999, li9, li13, li14, li30, li35, li44, li45, li46, li47, li97, li98, li100, li101, li104, li105, li108, li110, li111, li112, li114, li117, li122, li999999, li1000000, li2147483647, cmp0, cmpl, cmpg, cmple, cmpge, nI_leI, nI_ltI, nI_eq, rL, rI, wL, wI, ob, aLet, nI_add, pk_mul, ↓reduceIte, if_true, if_false, eq_self, Nat.reduceEqDiff, Nat.reduceLeDiff, Nat.reduceLT, Nat.one_ne_zero, Nat.zero_ne_one, Nat.add_zero, Bool.false_eq_true, nI_neq]
  · have q1 : T ≤ a := by omega
    rw [if_neg q, if_pos rfl]
    simp (disch := omega) only [h4, h5, a0, q1, li0, li1, li2, li3, li4, li5, li6, li7, li8, li11, li12, li16, li24, li25, li26, li31, li32, li36, li40, li48, li52, li58, li59, li60, li63, li64, li88, li96, li130, li192, li255, li2208, li2304, li9999, li9, li13, li14, li30, li35, li44, li45, li46, li47, li97, li98, li100, li101, li104, li105, li108, li110, li111, li112, li114, li117, li122, li999999, li1000000, li2147483647, cmp0, cmpl, cmpg, cmple, cmpge, nI_leI, nI_ltI, nI_eq, rL, rI, wL, wI, ob, aLet, nI_add, pk_mul, ↓reduceIte, if_true, if_false, eq_self, Nat.reduceEqDiff, Nat.reduceLeDiff, Nat.reduceLT, Nat.one_ne_zero, Nat.zero_ne_one, Nat.add_zero, Bool.false_eq_true, nI_neq]
theorem TP_up {T : Nat} {b : Nat → Nat} {Z : Rec} {a : Nat} (h : TP T b Z a) (hl : a < T) : TP T b (sI Z 2 (nI (a + 1))) (a + 1) := by
  obtain ⟨h1, h2, h3, h4, h5, h6⟩ := h
  exact ⟨h1, h2, hl, h4, rfl, h6⟩
theorem c_passes {T : Nat} {b : Nat → Nat} {Z : Rec} {a x : Nat} (h : TP T b Z a) (hx : x < 256) : X7_passes Z (nI x) = some (if cA T b a = x then (nI 1, sI Z 2 (nI (a + 1))) else (nI 0, Z)) := by
  have sg := c_sign h
  have h5 := h.2.2.2.2.1
  have cr := cA_r h.2.1 a
  unfold X7_passes
  rw [sg, ob]
  by_cases q : cA T b a = x
  · rw [if_pos q, eC_b (by omega), if_pos (by rw [q]), h5]
    exact congrArg some (congrArg (fun z => (nI 1, sI Z 2 z)) (nI_1 a))
  · rw [if_neg q]
    rcases cr with w | w
    · rw [eC_b w, if_neg (fun z => q ((nI_eq (by omega) (by omega)).mp z))]
      rfl
    · rw [w, eC_e, if_neg (n1l (by omega))]
      rfl
theorem r_now {T : Nat} {b : Nat → Nat} {m0 M : Rec} {a : Nat} (h : RM T b m0 M a) : X9_now M = some (eR (cA T b a)) := by
  obtain ⟨h1, h2, h3, h4, h5, h6, h7⟩ := h
  have e6 : M.1 6 = nI T := h1.2.1.trans h4
  unfold X9_now eR cA
  by_cases q : a < T
  · obtain ⟨hb, h8⟩ := h5 a q
    have e5 : M.2.1 5 a = nI (b a) := by rw [h1.2.2.2.2.1]; exact h8
    have q1 : ¬ T ≤ a := by omega
    have q3 : ¬ b a = 999 := by omega
    rw [if_pos q, if_neg q3]
    simp (disch := omega) only [h7, e6, h6, e5, q1, li0, li1, li2, li3, li4, li5, li6, li7, li8, li11, li12, li16, li24, li25, li26, li31, li32, li36, li40, li48, li52, li58, li59, li60, li63, li64, li88, li96, li130, li192, li255, li2208, li2304, li9999, li9, li13, li14, li30, li35, li44, li45, li46, li47, li97, li98, li100, li101, li104, li105, li108, li110, li111, li112, li114, li117, li122, li999999, li1000000, li2147483647, cmp0, cmpl, cmpg, cmple, cmpge, nI_leI, nI_ltI, nI_eq, rL, rI, wL, wI, ob, aLet, nI_add, pk_mul, ↓reduceIte, if_true, if_false, eq_self, Nat.reduceEqDiff, Nat.reduceLeDiff, Nat.reduceLT, Nat.one_ne_zero, Nat.zero_ne_one, Nat.add_zero, Bool.false_eq_true, nI_neq]
  · have q1 : T ≤ a := by omega
    rw [if_neg q, if_pos rfl]
    simp (disch := omega) only [h7, e6, h6, q1, li0, li1, li2, li3, li4, li5, li6, li7, li8, li11, li12, li16, li24, li25, li26, li31, li32, li36, li40, li48, li52, li58, li59, li60, li63, li64, li88, li96, li130, li192, li255, li2208, li2304, li9999, li9, li13, li14, li30, li35, li44, li45, li46, li47, li97, li98, li100, li101, li104, li105, li108, li110, li111, li112, li114, li117, li122, li999999, li1000000, li2147483647, cmp0, cmpl, cmpg, cmple, cmpge, nI_leI, nI_ltI, nI_eq, rL, rI, wL, wI, ob, aLet, nI_add, pk_mul, ↓reduceIte, if_true, if_false, eq_self, Nat.reduceEqDiff, Nat.reduceLeDiff, Nat.reduceLT, Nat.one_ne_zero, Nat.zero_ne_one, Nat.add_zero, Bool.false_eq_true, nI_neq]
theorem d_now {m0 M : Rec} {f : Nat} (h : DM m0 M f) : X9_now M = some (-nI 4) := by
  have h8 := h.2.2
  have := h.2.1
  unfold X9_now
  simp (disch := omega) only [h8, li0, li1, li2, li3, li4, li5, li6, li7, li8, li11, li12, li16, li24, li25, li26, li31, li32, li36, li40, li48, li52, li58, li59, li60, li63, li64, li88, li96, li130, li192, li255, li2208, li2304, li9999, li9, li13, li14, li30, li35, li44, li45, li46, li47, li97, li98, li100, li101, li104, li105, li108, li110, li111, li112, li114, li117, li122, li999999, li1000000, li2147483647, cmp0, cmpl, cmpg, cmple, cmpge, nI_leI, nI_ltI, nI_eq, rL, rI, wL, wI, ob, aLet, nI_add, pk_mul, ↓reduceIte, if_true, if_false, eq_self, Nat.reduceEqDiff, Nat.reduceLeDiff, Nat.reduceLT, Nat.one_ne_zero, Nat.zero_ne_one, Nat.add_zero, Bool.false_eq_true, nI_neq]
theorem r_wrong {T : Nat} {b : Nat → Nat} {m0 M : Rec} {a : Nat} (h : RM T b m0 M a) : DM m0 (X9_wrong M) a ∧ (X9_wrong M).2.1 1 = M.2.1 1 ∧ (X9_wrong M).1 7 = M.1 7 := by
  obtain ⟨h1, h2, h3, h4, h5, h6, h7⟩ := h
  have e : X9_wrong M = sI M 8 (nI a) := by
    unfold X9_wrong
    rw [h7, if_pos (show -nI 4 = (-4 : Int32) from rfl), h6]
  rw [e]
  exact ⟨⟨Fr_I h1 (by omega), by omega, rfl⟩, rfl, rfl⟩
theorem d_wrong {m0 M : Rec} {f : Nat} (h : DM m0 M f) : DM m0 (X9_wrong M) f ∧ (X9_wrong M).2.1 1 = M.2.1 1 := by
  obtain ⟨h1, h2, h3⟩ := h
  have e : X9_wrong M = sI M 8 (nI f) := by
    unfold X9_wrong
    rw [h3, if_neg (n4l (by omega))]
  rw [e]
  exact ⟨⟨Fr_I h1 (by omega), h2, rfl⟩, rfl⟩
theorem RM_up {T : Nat} {b : Nat → Nat} {m0 M : Rec} {a : Nat} (h : RM T b m0 M a) (hl : a < T) : RM T b m0 (sI M 7 (nI (a + 1))) (a + 1) := by
  obtain ⟨h1, h2, h3, h4, h5, h6, h7⟩ := h
  exact ⟨Fr_I h1 (by omega), h2, hl, h4, h5, rfl, h7⟩
theorem RM_A {T : Nat} {b : Nat → Nat} {m0 M : Rec} {a : Nat} (h : RM T b m0 M a) (f : Nat → Int32) : RM T b m0 (sA M 1 f) a := by
  obtain ⟨h1, h2⟩ := h
  exact ⟨Fr_A h1 (by omega), h2⟩
theorem DM_A {m0 M : Rec} {f : Nat} (h : DM m0 M f) (w : Nat → Int32) : DM m0 (sA M 1 w) f := ⟨Fr_A h.1 (by omega), h.2⟩
theorem DM_7 {m0 M : Rec} {f : Nat} (h : DM m0 M f) (w : Int32) : DM m0 (sI M 7 w) f := ⟨Fr_I h.1 (by omega), h.2⟩
theorem r_must {T : Nat} {b : Nat → Nat} {m0 M : Rec} {a x : Nat} (h : RM T b m0 M a) (hx : x < 256) : (cA T b a = x ∧ X9_must M (nI x) = some (sI M 7 (nI (a + 1))) ∧ RM T b m0 (sI M 7 (nI (a + 1))) (a + 1)) ∨ (cA T b a ≠ x ∧ ∃ M', X9_must M (nI x) = some M' ∧ DM m0 M' a) := by
  have nw := r_now h
  have h6 := h.2.2.2.2.2.1
  have cr := cA_r (fun j hj => (h.2.2.2.2.1 j hj).1) a
  by_cases q : cA T b a = x
  · refine Or.inl ⟨q, ?_, RM_up h (cA_lt q hx)⟩
    unfold X9_must
    rw [nw, ob, eR_b (by omega), if_pos (by rw [q]), h6]
    exact congrArg some (congrArg (fun z => sI M 7 z) (nI_1 a))
  · refine Or.inr ⟨q, X9_wrong M, ?_, (r_wrong h).1⟩
    unfold X9_must
    rw [nw, ob]
    rcases cr with w | w
    · rw [eR_b w, if_neg (fun z => q ((nI_eq (by omega) (by omega)).mp z))]
    · rw [w, eR_e, if_neg (fun z => n4ne (show x < 2 ^ 31 by omega) z.symm)]
theorem d_must {m0 M : Rec} {f x : Nat} (h : DM m0 M f) (hx : x < 256) : ∃ M', X9_must M (nI x) = some M' ∧ DM m0 M' f ∧ M'.2.1 1 = M.2.1 1 := by
  refine ⟨X9_wrong M, ?_, d_wrong h⟩
  unfold X9_must
  rw [d_now h, ob, if_neg (fun z => n4ne (show x < 2 ^ 31 by omega) z.symm)]
def en9 (k x : Nat) : Int32 := if x = 9 then -nI k else nI x
theorem kd_f : ∀ x, x < 256 → tIx 0 ((nI x).toUInt32 % 65536).toInt32 = en9 1 (kd x) ∧ X9_kindBy (nI x) = (if kd x = 9 then -nI 4 else nI (kd x + 1)) ∧ (kd x < 5 ∨ kd x = 9) := by decide +kernel
theorem sd_f : ∀ x, x < 256 → tIx 1 ((nI x).toUInt32 % 65536).toInt32 = en9 1 (sd x) ∧ X9_soundBy (nI x) = en9 4 (sd x) ∧ X9_vowelBy (nI x) = (if sd x < 5 then nI (sd x) else -nI 4) ∧ (sd x < 6 ∨ sd x = 9) := by decide +kernel
theorem c_kindAt {T : Nat} {b : Nat → Nat} {Z : Rec} {a : Nat} (h : TP T b Z a) : X7_signAmong_0 Z = some (en9 1 (kd (cA T b a))) := by
  unfold X7_signAmong_0 a_sgn
  rw [c_sign h, ob]
  rcases cA_r h.2.1 a with q | q
  · rw [eC_b q, if_neg (nI_pos (by omega)), (kd_f _ q).1]
  · rw [q]
    rfl
theorem c_soundAtP {T : Nat} {b : Nat → Nat} {Z : Rec} {a : Nat} (h : TP T b Z a) : X7_signAmong_1 Z = some (en9 1 (sd (cA T b a))) := by
  unfold X7_signAmong_1 a_sgn
  rw [c_sign h, ob]
  rcases cA_r h.2.1 a with q | q
  · rw [eC_b q, if_neg (nI_pos (by omega)), (sd_f _ q).1]
  · rw [q]
    rfl
theorem r_kindAt {x : Nat} (h : x < 256 ∨ x = 999) : X9_kindBy (eR x) = (if kd x = 9 then -nI 4 else nI (kd x + 1)) ∧ (kd x < 5 ∨ kd x = 9) := by
  rcases h with q | q
  · rw [eR_b q]
    exact (kd_f x q).2
  · rw [q]
    exact ⟨by decide, Or.inr rfl⟩
theorem r_soundAtP {x : Nat} (h : x < 256 ∨ x = 999) : X9_soundBy (eR x) = en9 4 (sd x) ∧ X9_vowelBy (eR x) = (if sd x < 5 then nI (sd x) else -nI 4) ∧ (sd x < 6 ∨ sd x = 9) := by
  rcases h with q | q
  · rw [eR_b q]
    exact (sd_f x q).2
  · rw [q]
    exact ⟨by decide, by decide, Or.inr rfl⟩
/-- holders -/
theorem l_holders {T : Nat} {b : Nat → Nat} {m0 : Rec} : ∀ (e n a f f' : Nat) (Z D M : Rec) (K : Nat → Nat), n + e = 6 → e < f → e < f' → TP T b Z a → RM T b m0 M a → M.2.1 1 0 = nI n → (∀ i, i < n → 1 ≤ K i ∧ K i ≤ 5 ∧ D.2.1 1 i = nI (K i) ∧ M.2.1 1 (5 + i) = nI (K i)) →
    ∃ (n' a' : Nat) (Z' D' M' : Rec) (K' : Nat → Nat), n' ≤ 6 ∧ X7_readHolders_L2 f (nI n) Z D = some (nI n', Z', D') ∧ X9_readHolders_L6 f' M = some M' ∧ TP T b Z' a' ∧ RM T b m0 M' a' ∧ M'.2.1 1 0 = nI n' ∧ (∀ i, i < n' → 1 ≤ K' i ∧ K' i ≤ 5 ∧ D'.2.1 1 i = nI (K' i) ∧ M'.2.1 1 (5 + i) = nI (K' i)) ∧ D'.1 = D.1 ∧ D'.2.2 = D.2.2 ∧ ∀ j, j ≠ 0 → (j < 5 ∨ 11 ≤ j) → M'.2.1 1 j = M.2.1 1 j := by
  intro e
  induction e with
  | zero =>
    intro n a f f' Z D M K h1 h2 h3 hT hM h0 hK
    obtain ⟨f, rfl⟩ : ∃ z, f = z + 1 := ⟨f - 1, by omega⟩
    obtain ⟨f', rfl⟩ : ∃ z, f' = z + 1 := ⟨f' - 1, by omega⟩
    obtain rfl : n = 6 := h1
    have nw := r_now hM
    have ka := r_kindAt (cA_r hT.2.1 a)
    refine ⟨6, a, Z, D, M, K, Nat.le_refl 6, ?_, ?_, hT, hM, h0, hK, rfl, rfl, fun j _ _ => rfl⟩
    · simp (disch := omega) only [X7_readHolders_L2, li0, li1, li2, li3, li4, li5, li6, li7, li8, li11, li12, li16, li24, li25, li26, li31, li32, li36, li40, li48, li52, li58, li59, li60, li63, li64, li88, li96, li130, li192, li255, li2208, li2304, li9999, li9, li13, li14, li30, li35, li44, li45, li46, li47, li97, li98, li100, li101, li104, li105, li108, li110, li111, li112, li114, li117, li122, li999999, li1000000, li2147483647, cmp0, cmpl, cmpg, cmple, cmpge, nI_leI, nI_ltI, nI_eq, rL, rI, wL, wI, ob, aLet, nI_add, pk_mul, ↓reduceIte, if_true, if_false, eq_self, Nat.reduceEqDiff, Nat.reduceLeDiff, Nat.reduceLT, Nat.one_ne_zero, Nat.zero_ne_one, Nat.add_zero, Bool.false_eq_true, nI_neq, Nat.le_refl]
    · rw [X9_readHolders_L6, nw, ob, ka.1]
      by_cases q : kd (cA T b a) = 9
      · rw [if_pos q, if_pos (show -nI 4 = (-4 : Int32) from rfl)]
      · have k5 : kd (cA T b a) < 5 := by omega
        rw [if_neg q, if_neg (n4l (by omega))]
        simp (disch := omega) only [h0, li0, li1, li2, li3, li4, li5, li6, li7, li8, li11, li12, li16, li24, li25, li26, li31, li32, li36, li40, li48, li52, li58, li59, li60, li63, li64, li88, li96, li130, li192, li255, li2208, li2304, li9999, li9, li13, li14, li30, li35, li44, li45, li46, li47, li97, li98, li100, li101, li104, li105, li108, li110, li111, li112, li114, li117, li122, li999999, li1000000, li2147483647, cmp0, cmpl, cmpg, cmple, cmpge, nI_leI, nI_ltI, nI_eq, rL, rI, wL, wI, ob, aLet, nI_add, pk_mul, ↓reduceIte, if_true, if_false, eq_self, Nat.reduceEqDiff, Nat.reduceLeDiff, Nat.reduceLT, Nat.one_ne_zero, Nat.zero_ne_one, Nat.add_zero, Bool.false_eq_true, nI_neq, Nat.le_refl]
  | succ e ih =>
    intro n a f f' Z D M K h1 h2 h3 hT hM h0 hK
    obtain ⟨f, rfl⟩ : ∃ z, f = z + 1 := ⟨f - 1, by omega⟩
    obtain ⟨f', rfl⟩ : ∃ z, f' = z + 1 := ⟨f' - 1, by omega⟩
    have hn : ¬ 6 ≤ n := by omega
    have nw := r_now hM
    have ca := c_kindAt hT
    have ka := r_kindAt (cA_r hT.2.1 a)
    by_cases q : kd (cA T b a) = 9
    · refine ⟨n, a, Z, D, M, K, by omega, ?_, ?_, hT, hM, h0, hK, rfl, rfl, fun j _ _ => rfl⟩
      · unfold en9 at ca
        rw [if_pos q] at ca
        simp (disch := omega) only [X7_readHolders_L2, ca, neg1, li0, li1, li2, li3, li4, li5, li6, li7, li8, li11, li12, li16, li24, li25, li26, li31, li32, li36, li40, li48, li52, li58, li59, li60, li63, li64, li88, li96, li130, li192, li255, li2208, li2304, li9999, li9, li13, li14, li30, li35, li44, li45, li46, li47, li97, li98, li100, li101, li104, li105, li108, li110, li111, li112, li114, li117, li122, li999999, li1000000, li2147483647, cmp0, cmpl, cmpg, cmple, cmpge, nI_leI, nI_ltI, nI_eq, rL, rI, wL, wI, ob, aLet, nI_add, pk_mul, ↓reduceIte, if_true, if_false, eq_self, Nat.reduceEqDiff, Nat.reduceLeDiff, Nat.reduceLT, Nat.one_ne_zero, Nat.zero_ne_one, Nat.add_zero, Bool.false_eq_true, nI_neq, hn]
      · rw [X9_readHolders_L6, nw, ob, ka.1, if_pos q, if_pos (show -nI 4 = (-4 : Int32) from rfl)]
    · have k5 : kd (cA T b a) < 5 := by omega
      have aT : a < T := by
        rcases Nat.lt_or_ge a T with w | w
        · exact w
        · exfalso
          apply q
          unfold cA
          rw [if_neg (by omega)]
          rfl
      unfold en9 at ca
      rw [if_neg q] at ca
      have kb := ka.1
      rw [if_neg q] at kb
      have h5 := hT.2.2.2.2.1
      have h7 := hM.2.2.2.2.2.1
      have g1 : ∀ w, (sA M 1 w).2.1 1 = w := fun w => rfl
      have g7 : ∀ w, (sA M 1 w).1 7 = nI a := fun w => h7
      have k0 : (0 ≤ kd (cA T b a)) = True := by simp
      have u0 : ∀ v, upd (M.2.1 1) (5 + n) v 0 = nI n := fun v => by rw [pk_un (by omega)]; exact h0
      obtain ⟨n', a', Z', D', M', K', i1, i2, i3, i4, i5, i6, i7, i8, i9, i10⟩ := ih (n + 1) (a + 1) f f' (sI Z 2 (nI (a + 1))) (sA D 1 (upd (D.2.1 1) n (nI (1 + kd (cA T b a))))) (sI (sA M 1 (upd (upd (M.2.1 1) (5 + n) (nI (kd (cA T b a) + 1))) 0 (nI (n + 1)))) 7 (nI (a + 1))) (fun i => if i = n then kd (cA T b a) + 1 else K i) (by omega) (by omega) (by omega) (TP_up hT aT) (RM_up (RM_A hM _) aT) (by
        show upd (upd (M.2.1 1) (5 + n) (nI (kd (cA T b a) + 1))) 0 (nI (n + 1)) 0 = nI (n + 1)
        exact pk_us) (fun i hi => by
        show 1 ≤ (if i = n then _ else _) ∧ (if i = n then _ else _) ≤ 5 ∧ upd (D.2.1 1) n _ i = nI (if i = n then _ else _) ∧ upd (upd (M.2.1 1) (5 + n) _) 0 _ (5 + i) = nI (if i = n then _ else _)
        by_cases y : i = n
        · rw [if_pos y, y, pk_us, pk_un (by omega), pk_us, Nat.add_comm 1]
          exact ⟨by omega, by omega, rfl, rfl⟩
        · obtain ⟨w1, w2, w3, w4⟩ := hK i (by omega)
          rw [if_neg y, pk_un y, pk_un (by omega), pk_un (by omega)]
          exact ⟨w1, w2, w3, w4⟩)
      refine ⟨n', a', Z', D', M', K', i1, ?_, ?_, i4, i5, i6, i7, i8, i9, fun j j1 j2 => ?_⟩
      · rw [← i2]
        simp (disch := omega) only [X7_readHolders_L2, ca, k0, h5, li0, li1, li2, li3, li4, li5, li6, li7, li8, li11, li12, li16, li24, li25, li26, li31, li32, li36, li40, li48, li52, li58, li59, li60, li63, li64, li88, li96, li130, li192, li255, li2208, li2304, li9999, li9, li13, li14, li30, li35, li44, li45, li46, li47, li97, li98, li100, li101, li104, li105, li108, li110, li111, li112, li114, li117, li122, li999999, li1000000, li2147483647, cmp0, cmpl, cmpg, cmple, cmpge, nI_leI, nI_ltI, nI_eq, rL, rI, wL, wI, ob, aLet, nI_add, pk_mul, ↓reduceIte, if_true, if_false, eq_self, Nat.reduceEqDiff, Nat.reduceLeDiff, Nat.reduceLT, Nat.one_ne_zero, Nat.zero_ne_one, Nat.add_zero, Bool.false_eq_true, nI_neq, hn]
      · rw [← i3, X9_readHolders_L6, nw, ob, kb, if_neg (n4l (by omega))]
        simp (disch := omega) only [h0, hn, g1, g7, u0, li0, li1, li2, li3, li4, li5, li6, li7, li8, li11, li12, li16, li24, li25, li26, li31, li32, li36, li40, li48, li52, li58, li59, li60, li63, li64, li88, li96, li130, li192, li255, li2208, li2304, li9999, li9, li13, li14, li30, li35, li44, li45, li46, li47, li97, li98, li100, li101, li104, li105, li108, li110, li111, li112, li114, li117, li122, li999999, li1000000, li2147483647, cmp0, cmpl, cmpg, cmple, cmpge, nI_leI, nI_ltI, nI_eq, rL, rI, wL, wI, ob, aLet, nI_add, pk_mul, ↓reduceIte, if_true, if_false, eq_self, Nat.reduceEqDiff, Nat.reduceLeDiff, Nat.reduceLT, Nat.one_ne_zero, Nat.zero_ne_one, Nat.add_zero, Bool.false_eq_true, nI_neq]
        rw [kb, sA_sA, g7, nI_add]
      · rw [i10 j j1 j2]
        show upd (upd (M.2.1 1) (5 + n) _) 0 _ j = _
        rw [pk_un j1, pk_un (by omega)]
