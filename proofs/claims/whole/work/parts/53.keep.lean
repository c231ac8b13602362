/-! what is kept ahead of an act, and comes back -/
theorem rQ {f : Nat → Option Nat} {m j : Nat} (h : j < m) (hm : m < 2 ^ 31) : rdQ f m (nI j) = some (f j) := by
  have e : (nI j).toNatClampNeg = j := nI_clamp (by omega)
  rw [rdQ, if_neg (nI_in h hm), e]
theorem a_min_n {a b : Nat} (ha : a < 2 ^ 31) (hb : b < 2 ^ 31) : a_min (nI a) (nI b) = nI (min a b) := by
  unfold a_min
  by_cases h : b < a
  · rw [if_pos (nI_lt h ha), Nat.min_eq_right (by omega)]
  · rw [if_neg (nI_nlt (by omega) hb), Nat.min_eq_left (by omega)]
theorem a_max_n {a b : Nat} (ha : a < 2 ^ 31) (hb : b < 2 ^ 31) : a_max (nI a) (nI b) = nI (max a b) := by
  unfold a_max
  by_cases h : a < b
  · rw [if_pos (nI_lt h hb), Nat.max_eq_right (by omega)]
  · rw [if_neg (nI_nlt (by omega) ha), Nat.max_eq_left (by omega)]
theorem row_cong {d : LD} {f g : Nat → Int32} (ok : okL d) (hf : RowOf d f) (o : ∀ j, j < 96 → g j = f j) : RowOf d g := by
  obtain ⟨b1, b2, b3, b4, b5, b6, b7, b8, b9, b10⟩ := hf
  have h6 := ok.1
  have h4 := ok.2.2.2.2.1
  exact ⟨(o _ (by omega)).trans b1, (o _ (by omega)).trans b2, (o _ (by omega)).trans b3, (o _ (by omega)).trans b4, (o _ (by omega)).trans b5, fun i hi => (o _ (by omega)).trans (b6 i hi), fun v hv => (o _ (by omega)).trans (b7 v hv), fun p hp => (o _ (by omega)).trans (b8 p hp), fun p hp => (o _ (by omega)).trans (b9 p hp), fun w hw => ⟨(o _ (by omega)).trans (b10 w hw).1, (o _ (by omega)).trans (b10 w hw).2⟩⟩
theorem c_keep {D : DynT} {P S : Rec} {d : LD} {a k : Nat} (ha : a < 24) (hk : k ≤ 24) (p1 : P.1 1 = nI a) (p2 : P.1 2 = nI k) (ok : okL d) (hS : LandOf d S) : ∃ P' D', X4_keep D P S = some (P', D') ∧ P'.1 1 = nI ((a + 1) % 24) ∧ P'.1 2 = nI (min (k + 1) 24) ∧ (∃ q, D'.1 a = some q) ∧ (∀ j, j ≠ a → D'.1 j = D.1 j) ∧ D'.2.1 = D.2.1 ∧ D'.2.2.1 = D.2.2.1 ∧ D'.2.2.2.1 = D.2.2.2.1 ∧ LandOf d (D'.2.2.2.2.1 a) ∧ ∀ j, j ≠ a → D'.2.2.2.2.1 j = D.2.2.2.2.1 j := by
  have e1 : X4_keep D P S = aQs (D.1 a) (some (sI (sI P 1 (nI ((a + 1) % 24))) 2 (nI (min (k + 1) 24)), dLV (dNewP D a zR) a (X2_become ((dNewP D a zR).2.2.2.2.1 a) S))) (fun q => some (sI (sI P 1 (nI ((a + 1) % 24))) 2 (nI (min (k + 1) 24)), dLV D a (X2_become (D.2.2.2.2.1 a) S))) := by
    have h2 : ∀ v, (sI P 1 v).1 2 = nI k := fun v => p2
    have h0 : ¬ a < 0 := by omega
    have h3 : ¬ 24 ≤ a := by omega
    have hr : nI (a + 1) - nI (a + 1) / nI 24 * nI 24 = nI ((a + 1) % 24) := pk_rem (by omega) (by decide) (by decide)
    have cl : (nI a).toNatClampNeg = a := nI_clamp (by omega)
    unfold X4_keep
    simp (disch := omega) only [p1, li0, li1, li2, li3, li4, li5, li6, li7, li8, li11, li12, li16, li24, li25, li26, li31, li32, li36, li40, li48, li52, li58, li59, li60, li63, li64, li88, li96, li130, li192, li255, li2208, li2304, li9999, li9, li13, li14, li30, li35, li44, li45, li46, li47, li97, li98, li100, li101, li104, li105, li108, li110, li111, li112, li114, li117, li122, li999999, li1000000, li2147483647, cmp0, cmpl, cmpg, cmple, cmpge, nI_leI, nI_ltI, nI_eq, rL, rI, wL, wI, ob, aLet, nI_add, pk_mul, ↓reduceIte, if_true, if_false, eq_self, Nat.reduceEqDiff, Nat.reduceLeDiff, Nat.reduceLT, Nat.one_ne_zero, Nat.zero_ne_one, Nat.add_zero, Bool.false_eq_true, nI_neq, h0, h3, ha, rQ, cl, h2, a_min_n]
    simp only [hr, or_self, if_false]
  have up : ∀ (f : Nat → Option Nat) q, va_up f a (some q) a = some q := fun f q => if_pos rfl
  cases h : D.1 a with
  | none =>
    rw [h] at e1
    refine ⟨_, _, e1, rfl, rfl, ⟨_, if_pos rfl⟩, fun j hj => if_neg hj, rfl, rfl, rfl, ?_, fun j hj => ?_⟩
    · show LandOf d (if a = a then _ else _)
      rw [if_pos rfl]
      exact c_become ok hS
    · show (if j = a then _ else (if j = a then _ else _)) = _
      rw [if_neg hj, if_neg hj]
  | some q =>
    rw [h] at e1
    refine ⟨_, _, e1, rfl, rfl, ⟨q, h⟩, fun j hj => rfl, rfl, rfl, rfl, ?_, fun j hj => ?_⟩
    · show LandOf d (if a = a then _ else _)
      rw [if_pos rfl]
      exact c_become ok hS
    · show (if j = a then _ else _) = _
      rw [if_neg hj]
def shf (w : Nat → Int32) (t : Nat) : Nat → Int32 := fun j => if j < t then w (j + 96) else w j
theorem shf_up (w : Nat → Int32) (t : Nat) : upd (shf w t) t (w (t + 96)) = shf w (t + 1) := by
  funext j
  unfold upd shf
  by_cases h : j = t
  · subst h
    rw [if_pos rfl, if_pos (by omega)]
  · by_cases q : j < t
    · rw [if_neg h, if_pos q, if_pos (by omega)]
    · rw [if_neg h, if_neg q, if_neg (by omega)]
def putR (w g : Nat → Int32) (b t : Nat) : Nat → Int32 := fun j => if b ≤ j ∧ j < b + t then g (j - b) else w j
theorem putR_up (w g : Nat → Int32) (b t : Nat) : upd (putR w g b t) (b + t) (g t) = putR w g b (t + 1) := by
  funext j
  unfold upd putR
  by_cases h : j = b + t
  · subst h
    rw [if_pos rfl, if_pos (by omega), show b + t - b = t by omega]
  · by_cases q : b ≤ j ∧ j < b + t
    · rw [if_neg h, if_pos q, if_pos (by omega)]
    · rw [if_neg h, if_neg q, if_neg (by omega)]
theorem r_keep11 (m : Rec) : X9_keep_L11 aFu (nI 0) m = some (sA m 3 (shf (m.2.1 3) 2208)) := by
  have := forUp (fun n j s => X9_keep_L11 n j s) 2208 (fun k => sA m 3 (shf (m.2.1 3) k)) (some (sA m 3 (shf (m.2.1 3) 2208))) (fun n k hk => ?_) (fun n => ?_) 2208 0 aFu rfl (by decide)
  · have e : sA m 3 (shf (m.2.1 3) 0) = m := by
      have : shf (m.2.1 3) 0 = m.2.1 3 := funext fun j => if_neg (Nat.not_lt_zero j)
      rw [this, sA_id]
    rw [e] at this
    exact this
  · have h : ¬ 2208 ≤ k := by omega
    have e : (sA m 3 (shf (m.2.1 3) k)).2.1 3 = shf (m.2.1 3) k := rfl
    have e2 : shf (m.2.1 3) k (k + 96) = m.2.1 3 (k + 96) := if_neg (by omega)
    simp (disch := omega) only [X9_keep_L11, li0, li1, li2, li3, li4, li5, li6, li7, li8, li11, li12, li16, li24, li25, li26, li31, li32, li36, li40, li48, li52, li58, li59, li60, li63, li64, li88, li96, li130, li192, li255, li2208, li2304, li9999, li9, li13, li14, li30, li35, li44, li45, li46, li47, li97, li98, li100, li101, li104, li105, li108, li110, li111, li112, li114, li117, li122, li999999, li1000000, li2147483647, cmp0, cmpl, cmpg, cmple, cmpge, nI_leI, nI_ltI, nI_eq, rL, rI, wL, wI, ob, aLet, nI_add, pk_mul, ↓reduceIte, if_true, if_false, eq_self, Nat.reduceEqDiff, Nat.reduceLeDiff, Nat.reduceLT, Nat.one_ne_zero, Nat.zero_ne_one, Nat.add_zero, Bool.false_eq_true, nI_neq, h, e, e2, sA_sA]
    rw [shf_up]
  · simp (disch := omega) only [X9_keep_L11, li0, li1, li2, li3, li4, li5, li6, li7, li8, li11, li12, li16, li24, li25, li26, li31, li32, li36, li40, li48, li52, li58, li59, li60, li63, li64, li88, li96, li130, li192, li255, li2208, li2304, li9999, li9, li13, li14, li30, li35, li44, li45, li46, li47, li97, li98, li100, li101, li104, li105, li108, li110, li111, li112, li114, li117, li122, li999999, li1000000, li2147483647, cmp0, cmpl, cmpg, cmple, cmpge, nI_leI, nI_ltI, nI_eq, rL, rI, wL, wI, ob, aLet, nI_add, pk_mul, ↓reduceIte, if_true, if_false, eq_self, Nat.reduceEqDiff, Nat.reduceLeDiff, Nat.reduceLT, Nat.one_ne_zero, Nat.zero_ne_one, Nat.add_zero, Bool.false_eq_true, nI_neq, Nat.le_refl]
theorem r_keep51 {m : Rec} {a : Nat} (ha : a < 24) (e4 : m.1 4 = nI a) : X9_keep_L51 aFu (nI 0) m = some (sA m 3 (putR (m.2.1 3) (m.2.1 0) (96 * a) 96)) := by
  have := forUp (fun n j s => X9_keep_L51 n j s) 96 (fun k => sA m 3 (putR (m.2.1 3) (m.2.1 0) (96 * a) k)) (some (sA m 3 (putR (m.2.1 3) (m.2.1 0) (96 * a) 96))) (fun n k hk => ?_) (fun n => ?_) 96 0 aFu rfl (by decide)
  · have e : sA m 3 (putR (m.2.1 3) (m.2.1 0) (96 * a) 0) = m := by
      have : putR (m.2.1 3) (m.2.1 0) (96 * a) 0 = m.2.1 3 := funext fun j => if_neg (by omega)
      rw [this, sA_id]
    rw [e] at this
    exact this
  · have h : ¬ 96 ≤ k := by omega
    have e : (sA m 3 (putR (m.2.1 3) (m.2.1 0) (96 * a) k)).2.1 3 = putR (m.2.1 3) (m.2.1 0) (96 * a) k := rfl
    have e0 : (sA m 3 (putR (m.2.1 3) (m.2.1 0) (96 * a) k)).2.1 0 = m.2.1 0 := rfl
    have e1 : (sA m 3 (putR (m.2.1 3) (m.2.1 0) (96 * a) k)).1 4 = nI a := e4
    simp (disch := omega) only [X9_keep_L51, li0, li1, li2, li3, li4, li5, li6, li7, li8, li11, li12, li16, li24, li25, li26, li31, li32, li36, li40, li48, li52, li58, li59, li60, li63, li64, li88, li96, li130, li192, li255, li2208, li2304, li9999, li9, li13, li14, li30, li35, li44, li45, li46, li47, li97, li98, li100, li101, li104, li105, li108, li110, li111, li112, li114, li117, li122, li999999, li1000000, li2147483647, cmp0, cmpl, cmpg, cmple, cmpge, nI_leI, nI_ltI, nI_eq, rL, rI, wL, wI, ob, aLet, nI_add, pk_mul, ↓reduceIte, if_true, if_false, eq_self, Nat.reduceEqDiff, Nat.reduceLeDiff, Nat.reduceLT, Nat.one_ne_zero, Nat.zero_ne_one, Nat.add_zero, Bool.false_eq_true, nI_neq, h, e, e0, e1, sA_sA]
    rw [putR_up]
  · simp (disch := omega) only [X9_keep_L51, li0, li1, li2, li3, li4, li5, li6, li7, li8, li11, li12, li16, li24, li25, li26, li31, li32, li36, li40, li48, li52, li58, li59, li60, li63, li64, li88, li96, li130, li192, li255, li2208, li2304, li9999, li9, li13, li14, li30, li35, li44, li45, li46, li47, li97, li98, li100, li101, li104, li105, li108, li110, li111, li112, li114, li117, li122, li999999, li1000000, li2147483647, cmp0, cmpl, cmpg, cmple, cmpge, nI_leI, nI_ltI, nI_eq, rL, rI, wL, wI, ob, aLet, nI_add, pk_mul, ↓reduceIte, if_true, if_false, eq_self, Nat.reduceEqDiff, Nat.reduceLeDiff, Nat.reduceLT, Nat.one_ne_zero, Nat.zero_ne_one, Nat.add_zero, Bool.false_eq_true, nI_neq, Nat.le_refl]
theorem r_keep {m : Rec} {k : Nat} (hk : k ≤ 24) (e4 : m.1 4 = nI k) : ∃ m', X9_keep m = some m' ∧ m'.1 4 = nI (min (k + 1) 24) ∧ m'.1 6 = m.1 6 ∧ (∀ j, j ≠ 3 → m'.2.1 j = m.2.1 j) ∧ m'.2.2 = m.2.2 ∧ ∀ i j, j < 96 → i < min (k + 1) 24 → m'.2.1 3 (96 * i + j) = if i = min k 23 then m.2.1 0 j else m.2.1 3 (96 * (i + (k - min k 23)) + j) := by
  by_cases h : k = 24
  · subst h
    have l1 := r_keep11 m
    have e5 : (sI (sA m 3 (shf (m.2.1 3) 2208)) 4 (nI 23)).1 4 = nI 23 := rfl
    have l2 := r_keep51 (m := sI (sA m 3 (shf (m.2.1 3) 2208)) 4 (nI 23)) (a := 23) (by decide) e5
    refine ⟨sI (sA (sI (sA m 3 (shf (m.2.1 3) 2208)) 4 (nI 23)) 3 (putR (shf (m.2.1 3) 2208) (m.2.1 0) (96 * 23) 96)) 4 (nI 24), ?_, rfl, rfl, fun j hj => ?_, rfl, fun i j hj hi => ?_⟩
    · have e6 : ∀ f, (sA m 3 f).1 4 = nI 24 := fun f => e4
      have e7 : nI 24 - nI 1 = nI 23 := pk_sub (by decide)
      have l2' : X9_keep_L51 aFu (nI 0) (sI (sA m 3 (shf (m.2.1 3) 2208)) 4 (nI 23)) = some (sA (sI (sA m 3 (shf (m.2.1 3) 2208)) 4 (nI 23)) 3 (putR (shf (m.2.1 3) 2208) (m.2.1 0) (96 * 23) 96)) := l2
      have e8 : ∀ f, (sA (sI (sA m 3 (shf (m.2.1 3) 2208)) 4 (nI 23)) 3 f).1 4 = nI 23 := fun f => rfl
      unfold X9_keep X9_keep_J49
      simp (disch := omega) only [e4, li0, li1, li2, li3, li4, li5, li6, li7, li8, li11, li12, li16, li24, li25, li26, li31, li32, li36, li40, li48, li52, li58, li59, li60, li63, li64, li88, li96, li130, li192, li255, li2208, li2304, li9999, li9, li13, li14, li30, li35, li44, li45, li46, li47, li97, li98, li100, li101, li104, li105, li108, li110, li111, li112, li114, li117, li122, li999999, li1000000, li2147483647, cmp0, cmpl, cmpg, cmple, cmpge, nI_leI, nI_ltI, nI_eq, rL, rI, wL, wI, ob, aLet, nI_add, pk_mul, ↓reduceIte, if_true, if_false, eq_self, Nat.reduceEqDiff, Nat.reduceLeDiff, Nat.reduceLT, Nat.one_ne_zero, Nat.zero_ne_one, Nat.add_zero, Bool.false_eq_true, nI_neq, l1, e6, e7, l2', e8]
    · show (if j = 3 then _ else (if j = 3 then _ else _)) = _
      rw [if_neg hj, if_neg hj]
    · show putR (shf (m.2.1 3) 2208) (m.2.1 0) (96 * 23) 96 (96 * i + j) = _
      unfold putR shf
      by_cases z : i = 23
      · subst z
        rw [if_pos (by omega), if_pos (show 23 = min 24 23 by decide), show 96 * 23 + j - 96 * 23 = j by omega]
      · have hi : i < 24 := hi
        rw [if_neg (by omega), if_pos (by omega), if_neg (show ¬ i = min 24 23 from z), show 96 * (i + (24 - min 24 23)) + j = 96 * i + j + 96 by omega]
  · have l2 := r_keep51 (m := m) (a := k) (by omega) e4
    have mk : min (k + 1) 24 = k + 1 := by omega
    refine ⟨sI (sA m 3 (putR (m.2.1 3) (m.2.1 0) (96 * k) 96)) 4 (nI (min (k + 1) 24)), ?_, rfl, rfl, fun j hj => ?_, rfl, fun i j hj hi => ?_⟩
    · have e8 : ∀ f, (sA m 3 f).1 4 = nI k := fun f => e4
      rw [mk]
      unfold X9_keep X9_keep_J49
      simp (disch := omega) only [e4, li0, li1, li2, li3, li4, li5, li6, li7, li8, li11, li12, li16, li24, li25, li26, li31, li32, li36, li40, li48, li52, li58, li59, li60, li63, li64, li88, li96, li130, li192, li255, li2208, li2304, li9999, li9, li13, li14, li30, li35, li44, li45, li46, li47, li97, li98, li100, li101, li104, li105, li108, li110, li111, li112, li114, li117, li122, li999999, li1000000, li2147483647, cmp0, cmpl, cmpg, cmple, cmpge, nI_leI, nI_ltI, nI_eq, rL, rI, wL, wI, ob, aLet, nI_add, pk_mul, ↓reduceIte, if_true, if_false, eq_self, Nat.reduceEqDiff, Nat.reduceLeDiff, Nat.reduceLT, Nat.one_ne_zero, Nat.zero_ne_one, Nat.add_zero, Bool.false_eq_true, nI_neq, h, l2, e8]
    · show (if j = 3 then _ else _) = _
      rw [if_neg hj]
    · show putR (m.2.1 3) (m.2.1 0) (96 * k) 96 (96 * i + j) = _
      unfold putR
      have mk2 : min k 23 = k := by omega
      rw [mk2]
      by_cases z : i = k
      · rw [if_pos (by omega), if_pos z, show 96 * i + j - 96 * k = j by omega]
      · rw [if_neg (by omega), if_neg z, show 96 * (i + (k - k)) + j = 96 * i + j by omega]
theorem img_far {lf : Nat → Option Nat} {B B' : Nat → Rec} {g w : Nat → Int32} (h : ImgOf lf B g w) (o : ∀ j, 24 ≤ j → j < 26 → B' j = B j) : ImgOf lf B' g w := fun k hk => by
  rcases h k hk with q | ⟨q1, q2, d, q3, q4, q5, q6⟩
  · exact Or.inl q
  · exact Or.inr ⟨q1, q2, d, q3, q4, by rw [o _ (by omega) (by omega)]; exact q5, q6⟩
theorem sheet_far {lf : Nat → Option Nat} {sz : Nat → Nat} {B B' : Nat → Rec} {l n : Nat → Int32} {it : Nat → Int64} (h : SheetOf lf sz B l n it) (o : ∀ j, 26 ≤ j → B' j = B j) : SheetOf lf sz B' l n it := fun s hs => by
  rcases h s hs with q | ⟨q1, q2, q3, ⟨a, q4, q5, q6⟩, q7⟩
  · exact Or.inl q
  · refine Or.inr ⟨q1, q2, q3, ⟨a, q4, q5, ?_⟩, fun k hk => ?_⟩
    · rw [o _ (by omega)]
      exact q6
    · rw [o _ (by omega)]
      exact q7 k hk
theorem q_keep {c : CSt} {m : Rec} {d : LD} (hI : Inv c m) (ok : okL d) (hy : lY d ≤ 9999) (hS : LandOf d (c_now c)) (hf : RowOf d (m.2.1 0)) : ∃ P' D' m', X4_keep (c_D c) (c_past c) (c_now c) = some (P', D') ∧ X9_keep m = some m' ∧ PastOf P' D'.1 D'.2.2.2.2.1 (m'.1 4) (m'.2.1 3) ∧ ImgOf D'.2.1 D'.2.2.2.2.1 (m.2.1 9) (m.2.1 10) ∧ SheetOf D'.2.2.1 D'.2.2.2.1 D'.2.2.2.2.1 (m.2.1 26) (m.2.1 27) (m.2.2 28) ∧ m'.1 6 = m.1 6 ∧ (∀ j, j ≠ 3 → m'.2.1 j = m.2.1 j) ∧ m'.2.2 = m.2.2 := by
  obtain ⟨-, -, ⟨a, k, ha, hk, p1, p2, p3, p4⟩, hImg, hSh⟩ := hI
  obtain ⟨P', D', k1, k2, k3, k4, k5, k6, k7, k8, k9, k10⟩ := c_keep (D := c_D c) ha hk p1 p2 ok hS
  obtain ⟨m', l1, l2, l3, l4, l5, l6⟩ := r_keep hk p3
  refine ⟨P', D', m', k1, l1, ⟨(a + 1) % 24, min (k + 1) 24, by omega, by omega, k2, k3, l2, fun i hi => ?_⟩, ?_, ?_, l3, l4, l5⟩
  · by_cases z : i = min k 23
    · have es : ((a + 1) % 24 + 24 - min (k + 1) 24 + i) % 24 = a := by omega
      rw [es]
      refine ⟨k4, d, ok, hy, k9, row_cong ok hf (fun j hj => ?_)⟩
      show m'.2.1 3 (96 * i + j) = m.2.1 0 j
      rw [l6 i j hj hi, if_pos z]
    · have es : ((a + 1) % 24 + 24 - min (k + 1) 24 + i) % 24 = (a + 24 - k + (i + (k - min k 23))) % 24 := by omega
      have ne : (a + 24 - k + (i + (k - min k 23))) % 24 ≠ a := by omega
      obtain ⟨⟨q, q1⟩, d1, q2, q3, q4, q5⟩ := p4 (i + (k - min k 23)) (by omega)
      rw [es]
      refine ⟨⟨q, (k5 _ ne).trans q1⟩, d1, q2, q3, ?_, row_cong q2 q5 (fun j hj => ?_)⟩
      · rw [k10 _ ne]
        exact q4
      · show m'.2.1 3 (96 * i + j) = m.2.1 3 (96 * (i + (k - min k 23)) + j)
        rw [l6 i j hj hi, if_neg z]
  · rw [k6]
    exact img_far hImg (fun j h1 h2 => k10 j (by omega))
  · rw [k7, k8]
    exact sheet_far hSh (fun j h1 => k10 j (by omega))
