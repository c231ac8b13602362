/-! holdings: all sets in the reference; what to ask next -/
theorem RR_11 {d : LD} {m Z : Rec} {v : HS} (h : RR d m Z v) (f : Nat → Int32) : RR d m (sA Z 11 f) v := ⟨Fr_A h.1 (by omega), h.2.1, h.2.2.1, h.2.2.2⟩
theorem RR_row {d : LD} {m Z : Rec} {v : HS} (hf : RowOf d (m.2.1 0)) (h : RR d m Z v) : RowOf d (Z.2.1 0) := by
  rw [h.1.2.2.1]
  exact hf
theorem h129_1 (x y z v : Int32) (Z : Rec) (f : Nat) : X9_holdings_L129 (nI 1) x y z (f + 1) v Z = some Z := by
  rw [X9_holdings_L129]
  by_cases h : (36 : Int32) ≤ v
  · rw [if_pos h]
  · rw [if_neg h, if_pos (show nI 1 ≤ (1 : Int32) by decide)]
theorem h191_2 {n : Nat} (hn : n ≤ 2) (x y z v : Int32) (Z : Rec) (f : Nat) : X9_holdings_L191 (nI n) x y z (f + 1) v Z = some Z := by
  rw [X9_holdings_L191]
  by_cases h : (36 : Int32) ≤ v
  · rw [if_pos h]
  · rw [if_neg h, if_pos (show nI n ≤ (2 : Int32) from nI_le (b := 2) hn (by decide))]
theorem h129_no {d : LD} {Z : Rec} (ok : okL d) (hf : RowOf d (Z.2.1 0)) {n p : Nat} (hn : 1 < n) (hn3 : n ≤ 3) (hp : p < 36) (hi : inP d p = false) (y z v : Int32) (f : Nat) : X9_holdings_L129 (nI n) (nI p) y z (f + 1) v Z = some Z := by
  have a := r_isIn ok hf (p := p) (by omega)
  rw [hi] at a
  have a : X9_isIn (Z.2.1 0) (nI p) = some 0 := a
  rw [X9_holdings_L129]
  by_cases h : (36 : Int32) ≤ v
  · rw [if_pos h]
  · rw [if_neg h, if_neg (show ¬ nI n ≤ (1 : Int32) from nI_ge (a := 1) hn (by omega)), a, ob, if_pos rfl]
theorem h191_no {d : LD} {Z : Rec} (ok : okL d) (hf : RowOf d (Z.2.1 0)) {p : Nat} (hp : p < 36) (hi : inP d p = false) (y z v : Int32) (f : Nat) : X9_holdings_L191 (nI 3) (nI p) y z (f + 1) v Z = some Z := by
  have a := r_isIn ok hf (p := p) (by omega)
  rw [hi] at a
  have a : X9_isIn (Z.2.1 0) (nI p) = some 0 := a
  rw [X9_holdings_L191]
  by_cases h : (36 : Int32) ≤ v
  · rw [if_pos h]
  · rw [if_neg h, if_neg (show ¬ nI 3 ≤ (2 : Int32) by decide), a, ob, if_pos rfl]
theorem afu : aFu = 99999 + 1 := rfl
theorem isIn1 {d : LD} {f : Nat → Int32} (ok : okL d) (hf : RowOf d f) {p : Nat} (hp : p < 36) (h : inP d p = true) : X9_isIn f (nI p) = some (nI 1) := by
  have a := r_isIn ok hf (p := p) (by omega)
  rw [h] at a
  exact a
theorem isIn0 {d : LD} {f : Nat → Int32} (ok : okL d) (hf : RowOf d f) {p : Nat} (hp : p < 36) (h : inP d p = false) : X9_isIn f (nI p) = some (nI 0) := by
  have a := r_isIn ok hf (p := p) (by omega)
  rw [h] at a
  exact a
def pk3 (a b c k : Nat) : Nat := if k = 0 then a else if k = 1 then b else c
theorem lst_1 (a b c : Nat) : lst 1 (pk3 a b c) = [a] := rfl
theorem lst_2 (a b c : Nat) : lst 2 (pk3 a b c) = [a, b] := rfl
theorem lst_3 (a b c : Nat) : lst 3 (pk3 a b c) = [a, b, c] := rfl
theorem r_h1 {d : LD} {m : Rec} (ok : okL d) (hf : RowOf d (m.2.1 0)) {i h : Nat} (hi : i < lH d) (hh : h < 32) {Z : Rec} {v : HS} (hR : RR d m Z v) : ∃ Z', X9_holdings_L84 (nI 1) (nI i) (nI h) aFu (nI 0) Z = some Z' ∧ RR d m Z' (rn (fun v l => gH d i h v (l.map (nthP (inP d)))) 1 [] 0 (cn (inP d) 36) v) := by
  obtain ⟨Z', e1, e2⟩ := ref1 0 (inP d) (fun v k => gH d i h v [nthP (inP d) k]) (RR d m) (X9_holdings_L84 (nI 1) (nI i) (nI h))
    (fun n Z => by simp (disch := omega) only [X9_holdings_L84, li0, li1, li2, li3, li4, li5, li6, li7, li8, li11, li12, li16, li24, li25, li26, li31, li32, li36, li40, li48, li52, li58, li59, li60, li63, li64, li88, li96, li130, li192, li255, li2208, li2304, li9999, li9, li13, li14, li30, li35, li44, li45, li46, li47, li97, li98, li100, li101, li104, li105, li108, li110, li111, li112, li114, li117, li122, li999999, li1000000, li2147483647, cmp0, cmpl, cmpg, cmple, cmpge, nI_leI, nI_ltI, nI_eq, rL, rI, wL, wI, ob, aLet, nI_add, pk_mul, ↓reduceIte, if_true, if_false, eq_self, Nat.reduceEqDiff, Nat.reduceLeDiff, Nat.reduceLT, Nat.one_ne_zero, Nat.zero_ne_one, Nat.add_zero, Bool.false_eq_true, nI_neq, Nat.le_refl])
    (fun n p Z v _ hp hP hR => by
      have hlt : ¬ 36 ≤ p := by omega
      have g : ∀ f, (sA Z 11 f).2.1 0 = Z.2.1 0 := fun f => rfl
      have a := isIn0 ok (RR_row hf hR) hp hP
      refine ⟨sA Z 11 (upd (Z.2.1 11) 0 (nI p)), ?_, RR_11 hR _⟩
      simp (disch := omega) only [X9_holdings_L84, X9_holdings_J123, g, a, li0, li1, li2, li3, li4, li5, li6, li7, li8, li11, li12, li16, li24, li25, li26, li31, li32, li36, li40, li48, li52, li58, li59, li60, li63, li64, li88, li96, li130, li192, li255, li2208, li2304, li9999, li9, li13, li14, li30, li35, li44, li45, li46, li47, li97, li98, li100, li101, li104, li105, li108, li110, li111, li112, li114, li117, li122, li999999, li1000000, li2147483647, cmp0, cmpl, cmpg, cmple, cmpge, nI_leI, nI_ltI, nI_eq, rL, rI, wL, wI, ob, aLet, nI_add, pk_mul, ↓reduceIte, if_true, if_false, eq_self, Nat.reduceEqDiff, Nat.reduceLeDiff, Nat.reduceLT, Nat.one_ne_zero, Nat.zero_ne_one, Nat.add_zero, Bool.false_eq_true, nI_neq, hlt]
      rw [afu, h129_1, ob])
    (fun n p Z v _ hp hP hR => by
      have hlt : ¬ 36 ≤ p := by omega
      have g : ∀ f, (sA Z 11 f).2.1 0 = Z.2.1 0 := fun f => rfl
      have a := isIn1 ok (RR_row hf hR) hp hP
      obtain ⟨Z', t1, t2, t3⟩ := r_tryH ok hf (n := 1) hi (by omega) hh (RR_11 hR (upd (Z.2.1 11) 0 (nI p))) (pk := pk3 p 0 0) (fun k hk => by
        obtain rfl : k = 0 := by omega
        exact hp) (fun j k h1 h2 => by omega) (fun k hk => by
        obtain rfl : k = 0 := by omega
        show upd (Z.2.1 11) 0 (nI p) 0 = nI p
        exact pk_us)
      rw [lst_1] at t2
      refine ⟨Z', ?_, by rw [(nth_of hp hP).2]; exact t2⟩
      simp (disch := omega) only [X9_holdings_L84, X9_holdings_J123, g, a, t1, li0, li1, li2, li3, li4, li5, li6, li7, li8, li11, li12, li16, li24, li25, li26, li31, li32, li36, li40, li48, li52, li58, li59, li60, li63, li64, li88, li96, li130, li192, li255, li2208, li2304, li9999, li9, li13, li14, li30, li35, li44, li45, li46, li47, li97, li98, li100, li101, li104, li105, li108, li110, li111, li112, li114, li117, li122, li999999, li1000000, li2147483647, cmp0, cmpl, cmpg, cmple, cmpge, nI_leI, nI_ltI, nI_eq, rL, rI, wL, wI, ob, aLet, nI_add, pk_mul, ↓reduceIte, if_true, if_false, eq_self, Nat.reduceEqDiff, Nat.reduceLeDiff, Nat.reduceLT, Nat.one_ne_zero, Nat.zero_ne_one, Nat.add_zero, Bool.false_eq_true, nI_neq, hlt]
      rw [afu, h129_1, ob]) 36 0 aFu Z v (Nat.le_refl 0) rfl (by decide) hR
  refine ⟨Z', e1, ?_⟩
  rw [← run_rn (fun v l => gH d i h v (l.map (nthP (inP d)))) 0 [] (cn (inP d) 36) (cn (inP d) 36) 0 v (by omega)]
  have ef : (fun (v : HS) k => rn (fun v l => gH d i h v (l.map (nthP (inP d)))) 0 ([] ++ [k]) (k + 1) (cn (inP d) 36 - (k + 1)) v) = (fun v k => gH d i h v [nthP (inP d) k]) := funext fun v => funext fun k => by
    rw [rn_0]
    rfl
  rw [ef]
  exact e2
/-- what a run over the last cell is -/
theorem run_last {d : LD} {i h : Nat} (l : List Nat) (k S : Nat) (hk : k ≤ S) (v : HS) : run1 (fun v k => gH d i h v ((l ++ [k]).map (nthP (inP d)))) (S - k) k v = rn (fun v l => gH d i h v (l.map (nthP (inP d)))) 1 l k (S - k) v := by
  rw [← run_rn (fun v l => gH d i h v (l.map (nthP (inP d)))) 0 l S (S - k) k v (by omega)]
  have ef : (fun (v : HS) k => rn (fun v l => gH d i h v (l.map (nthP (inP d)))) 0 (l ++ [k]) (k + 1) (S - (k + 1)) v) = (fun v k => gH d i h v ((l ++ [k]).map (nthP (inP d)))) := funext fun v => funext fun k => by rw [rn_0]
  rw [ef]
theorem r_h2i {d : LD} {m : Rec} (ok : okL d) (hf : RowOf d (m.2.1 0)) {i h : Nat} (hi : i < lH d) (hh : h < 32) {p : Nat} (hp : p < 36) (hP : inP d p = true) {Z : Rec} {v : HS} (hR : RR d m Z v) (h0 : Z.2.1 11 0 = nI p) : ∃ Z', X9_holdings_L129 (nI 2) (nI p) (nI i) (nI h) aFu (nI (p + 1)) Z = some Z' ∧ RR d m Z' (rn (fun v l => gH d i h v (l.map (nthP (inP d)))) 1 [cn (inP d) p] (cn (inP d) p + 1) (cn (inP d) 36 - (cn (inP d) p + 1)) v) := by
  have cp := cn_yes (p := inP d) hP
  have le := cn_mono (inP d) (show p + 1 ≤ 36 by omega)
  obtain ⟨Z', e1, e2, e3⟩ := ref1 (p + 1) (inP d) (fun v k => gH d i h v (([cn (inP d) p] ++ [k]).map (nthP (inP d)))) (fun Z v => RR d m Z v ∧ Z.2.1 11 0 = nI p) (fun n j Z => X9_holdings_L129 (nI 2) (nI p) (nI i) (nI h) n j Z)
    (fun n Z => by simp (disch := omega) only [X9_holdings_L129, li0, li1, li2, li3, li4, li5, li6, li7, li8, li11, li12, li16, li24, li25, li26, li31, li32, li36, li40, li48, li52, li58, li59, li60, li63, li64, li88, li96, li130, li192, li255, li2208, li2304, li9999, li9, li13, li14, li30, li35, li44, li45, li46, li47, li97, li98, li100, li101, li104, li105, li108, li110, li111, li112, li114, li117, li122, li999999, li1000000, li2147483647, cmp0, cmpl, cmpg, cmple, cmpge, nI_leI, nI_ltI, nI_eq, rL, rI, wL, wI, ob, aLet, nI_add, pk_mul, ↓reduceIte, if_true, if_false, eq_self, Nat.reduceEqDiff, Nat.reduceLeDiff, Nat.reduceLT, Nat.one_ne_zero, Nat.zero_ne_one, Nat.add_zero, Bool.false_eq_true, nI_neq, Nat.le_refl])
    (fun n q Z v hb hq hQ hR => by
      obtain ⟨hR, h0⟩ := hR
      have hlt : ¬ 36 ≤ q := by omega
      have g : ∀ f, (sA Z 11 f).2.1 0 = Z.2.1 0 := fun f => rfl
      have a := isIn1 ok (RR_row hf hR) hp hP
      have b := isIn0 ok (RR_row hf hR) hq hQ
      refine ⟨sA Z 11 (upd (Z.2.1 11) 1 (nI q)), ?_, RR_11 hR _, ?_⟩
      · simp (disch := omega) only [X9_holdings_L129, X9_holdings_J185, g, a, b, li0, li1, li2, li3, li4, li5, li6, li7, li8, li11, li12, li16, li24, li25, li26, li31, li32, li36, li40, li48, li52, li58, li59, li60, li63, li64, li88, li96, li130, li192, li255, li2208, li2304, li9999, li9, li13, li14, li30, li35, li44, li45, li46, li47, li97, li98, li100, li101, li104, li105, li108, li110, li111, li112, li114, li117, li122, li999999, li1000000, li2147483647, cmp0, cmpl, cmpg, cmple, cmpge, nI_leI, nI_ltI, nI_eq, rL, rI, wL, wI, ob, aLet, nI_add, pk_mul, ↓reduceIte, if_true, if_false, eq_self, Nat.reduceEqDiff, Nat.reduceLeDiff, Nat.reduceLT, Nat.one_ne_zero, Nat.zero_ne_one, Nat.add_zero, Bool.false_eq_true, nI_neq, hlt]
        rw [afu, h191_2 (Nat.le_refl 2), ob]
      · show upd (Z.2.1 11) 1 (nI q) 0 = nI p
        rw [pk_un (by decide)]
        exact h0)
    (fun n q Z v hb hq hQ hR => by
      obtain ⟨hR, h0⟩ := hR
      have hlt : ¬ 36 ≤ q := by omega
      have g : ∀ f, (sA Z 11 f).2.1 0 = Z.2.1 0 := fun f => rfl
      have a := isIn1 ok (RR_row hf hR) hp hP
      have b := isIn1 ok (RR_row hf hR) hq hQ
      obtain ⟨Z', t1, t2, t3⟩ := r_tryH ok hf (n := 2) hi (by omega) hh (RR_11 hR (upd (Z.2.1 11) 1 (nI q))) (pk := pk3 p q 0) (fun k hk => by
        unfold pk3
        split
        · exact hp
        · split
          · exact hq
          · omega) (fun j k h1 h2 => by
        obtain rfl : j = 0 := by omega
        obtain rfl : k = 1 := by omega
        exact hb) (fun k hk => by
        show upd (Z.2.1 11) 1 (nI q) k = nI (pk3 p q 0 k)
        rcases (show k = 0 ∨ k = 1 by omega) with rfl | rfl
        · rw [pk_un (by decide)]
          exact h0
        · exact pk_us)
      rw [lst_2] at t2
      have em : ([cn (inP d) p] ++ [cn (inP d) q]).map (nthP (inP d)) = [p, q] := by
        show [nthP (inP d) (cn (inP d) p), nthP (inP d) (cn (inP d) q)] = _
        rw [(nth_of hp hP).2, (nth_of hq hQ).2]
      refine ⟨Z', ?_, by rw [em]; exact t2, ?_⟩
      · simp (disch := omega) only [X9_holdings_L129, X9_holdings_J185, g, a, b, t1, li0, li1, li2, li3, li4, li5, li6, li7, li8, li11, li12, li16, li24, li25, li26, li31, li32, li36, li40, li48, li52, li58, li59, li60, li63, li64, li88, li96, li130, li192, li255, li2208, li2304, li9999, li9, li13, li14, li30, li35, li44, li45, li46, li47, li97, li98, li100, li101, li104, li105, li108, li110, li111, li112, li114, li117, li122, li999999, li1000000, li2147483647, cmp0, cmpl, cmpg, cmple, cmpge, nI_leI, nI_ltI, nI_eq, rL, rI, wL, wI, ob, aLet, nI_add, pk_mul, ↓reduceIte, if_true, if_false, eq_self, Nat.reduceEqDiff, Nat.reduceLeDiff, Nat.reduceLT, Nat.one_ne_zero, Nat.zero_ne_one, Nat.add_zero, Bool.false_eq_true, nI_neq, hlt]
        rw [afu, h191_2 (Nat.le_refl 2), ob]
      · rw [t3]
        show upd (Z.2.1 11) 1 (nI q) 0 = nI p
        rw [pk_un (by decide)]
        exact h0) (36 - (p + 1)) (p + 1) aFu Z v (Nat.le_refl _) (by omega) (by show _ < 100000; omega) ⟨hR, h0⟩
  rw [cp, run_last _ _ _ (by omega)] at e2
  exact ⟨Z', e1, e2⟩
theorem r_h2 {d : LD} {m : Rec} (ok : okL d) (hf : RowOf d (m.2.1 0)) {i h : Nat} (hi : i < lH d) (hh : h < 32) {Z : Rec} {v : HS} (hR : RR d m Z v) : ∃ Z', X9_holdings_L84 (nI 2) (nI i) (nI h) aFu (nI 0) Z = some Z' ∧ RR d m Z' (rn (fun v l => gH d i h v (l.map (nthP (inP d)))) 2 [] 0 (cn (inP d) 36) v) := by
  obtain ⟨Z', e1, e2⟩ := ref1 0 (inP d) (fun v k => rn (fun v l => gH d i h v (l.map (nthP (inP d)))) 1 ([] ++ [k]) (k + 1) (cn (inP d) 36 - (k + 1)) v) (RR d m) (X9_holdings_L84 (nI 2) (nI i) (nI h))
    (fun n Z => by simp (disch := omega) only [X9_holdings_L84, li0, li1, li2, li3, li4, li5, li6, li7, li8, li11, li12, li16, li24, li25, li26, li31, li32, li36, li40, li48, li52, li58, li59, li60, li63, li64, li88, li96, li130, li192, li255, li2208, li2304, li9999, li9, li13, li14, li30, li35, li44, li45, li46, li47, li97, li98, li100, li101, li104, li105, li108, li110, li111, li112, li114, li117, li122, li999999, li1000000, li2147483647, cmp0, cmpl, cmpg, cmple, cmpge, nI_leI, nI_ltI, nI_eq, rL, rI, wL, wI, ob, aLet, nI_add, pk_mul, ↓reduceIte, if_true, if_false, eq_self, Nat.reduceEqDiff, Nat.reduceLeDiff, Nat.reduceLT, Nat.one_ne_zero, Nat.zero_ne_one, Nat.add_zero, Bool.false_eq_true, nI_neq, Nat.le_refl])
    (fun n p Z v _ hp hP hR => by
      have hlt : ¬ 36 ≤ p := by omega
      refine ⟨sA Z 11 (upd (Z.2.1 11) 0 (nI p)), ?_, RR_11 hR _⟩
      simp (disch := omega) only [X9_holdings_L84, X9_holdings_J123, li0, li1, li2, li3, li4, li5, li6, li7, li8, li11, li12, li16, li24, li25, li26, li31, li32, li36, li40, li48, li52, li58, li59, li60, li63, li64, li88, li96, li130, li192, li255, li2208, li2304, li9999, li9, li13, li14, li30, li35, li44, li45, li46, li47, li97, li98, li100, li101, li104, li105, li108, li110, li111, li112, li114, li117, li122, li999999, li1000000, li2147483647, cmp0, cmpl, cmpg, cmple, cmpge, nI_leI, nI_ltI, nI_eq, rL, rI, wL, wI, ob, aLet, nI_add, pk_mul, ↓reduceIte, if_true, if_false, eq_self, Nat.reduceEqDiff, Nat.reduceLeDiff, Nat.reduceLT, Nat.one_ne_zero, Nat.zero_ne_one, Nat.add_zero, Bool.false_eq_true, nI_neq, hlt]
      rw [afu, h129_no ok (RR_row hf (RR_11 hR _)) (by decide) (by decide) hp hP, ob])
    (fun n p Z v _ hp hP hR => by
      have hlt : ¬ 36 ≤ p := by omega
      obtain ⟨Z', t1, t2⟩ := r_h2i ok hf hi hh hp hP (RR_11 hR (upd (Z.2.1 11) 0 (nI p))) (by show upd (Z.2.1 11) 0 (nI p) 0 = nI p; exact pk_us)
      refine ⟨Z', ?_, t2⟩
      simp (disch := omega) only [X9_holdings_L84, X9_holdings_J123, t1, li0, li1, li2, li3, li4, li5, li6, li7, li8, li11, li12, li16, li24, li25, li26, li31, li32, li36, li40, li48, li52, li58, li59, li60, li63, li64, li88, li96, li130, li192, li255, li2208, li2304, li9999, li9, li13, li14, li30, li35, li44, li45, li46, li47, li97, li98, li100, li101, li104, li105, li108, li110, li111, li112, li114, li117, li122, li999999, li1000000, li2147483647, cmp0, cmpl, cmpg, cmple, cmpge, nI_leI, nI_ltI, nI_eq, rL, rI, wL, wI, ob, aLet, nI_add, pk_mul, ↓reduceIte, if_true, if_false, eq_self, Nat.reduceEqDiff, Nat.reduceLeDiff, Nat.reduceLT, Nat.one_ne_zero, Nat.zero_ne_one, Nat.add_zero, Bool.false_eq_true, nI_neq, hlt]) 36 0 aFu Z v (Nat.le_refl 0) rfl (by decide) hR
  have e2 : RR d m Z' (run1 (fun v k => rn (fun v l => gH d i h v (l.map (nthP (inP d)))) 1 ([] ++ [k]) (k + 1) (cn (inP d) 36 - (k + 1)) v) (cn (inP d) 36) 0 v) := e2
  rw [run_rn (fun v l => gH d i h v (l.map (nthP (inP d)))) 1 [] (cn (inP d) 36) (cn (inP d) 36) 0 v (by omega)] at e2
  exact ⟨Z', e1, e2⟩
theorem r_h3i {d : LD} {m : Rec} (ok : okL d) (hf : RowOf d (m.2.1 0)) {i h : Nat} (hi : i < lH d) (hh : h < 32) {p q : Nat} (hp : p < 36) (hP : inP d p = true) (hpq : p < q) (hq : q < 36) (hQ : inP d q = true) {Z : Rec} {v : HS} (hR : RR d m Z v) (h0 : Z.2.1 11 0 = nI p) (h1 : Z.2.1 11 1 = nI q) : ∃ Z', X9_holdings_L191 (nI 3) (nI q) (nI i) (nI h) aFu (nI (q + 1)) Z = some Z' ∧ RR d m Z' (rn (fun v l => gH d i h v (l.map (nthP (inP d)))) 1 [cn (inP d) p, cn (inP d) q] (cn (inP d) q + 1) (cn (inP d) 36 - (cn (inP d) q + 1)) v) ∧ Z'.2.1 11 0 = nI p := by
  have cp := cn_yes (p := inP d) hQ
  have le := cn_mono (inP d) (show q + 1 ≤ 36 by omega)
  obtain ⟨Z', e1, e2, e3, e4⟩ := ref1 (q + 1) (inP d) (fun v k => gH d i h v (([cn (inP d) p, cn (inP d) q] ++ [k]).map (nthP (inP d)))) (fun Z v => RR d m Z v ∧ Z.2.1 11 0 = nI p ∧ Z.2.1 11 1 = nI q) (fun n j Z => X9_holdings_L191 (nI 3) (nI q) (nI i) (nI h) n j Z)
    (fun n Z => by simp (disch := omega) only [X9_holdings_L191, li0, li1, li2, li3, li4, li5, li6, li7, li8, li11, li12, li16, li24, li25, li26, li31, li32, li36, li40, li48, li52, li58, li59, li60, li63, li64, li88, li96, li130, li192, li255, li2208, li2304, li9999, li9, li13, li14, li30, li35, li44, li45, li46, li47, li97, li98, li100, li101, li104, li105, li108, li110, li111, li112, li114, li117, li122, li999999, li1000000, li2147483647, cmp0, cmpl, cmpg, cmple, cmpge, nI_leI, nI_ltI, nI_eq, rL, rI, wL, wI, ob, aLet, nI_add, pk_mul, ↓reduceIte, if_true, if_false, eq_self, Nat.reduceEqDiff, Nat.reduceLeDiff, Nat.reduceLT, Nat.one_ne_zero, Nat.zero_ne_one, Nat.add_zero, Bool.false_eq_true, nI_neq, Nat.le_refl])
    (fun n r Z v hb hr hr2 hR => by
      obtain ⟨hR, h0, h1⟩ := hR
      have hlt : ¬ 36 ≤ r := by omega
      have g : ∀ f, (sA Z 11 f).2.1 0 = Z.2.1 0 := fun f => rfl
      have a := isIn1 ok (RR_row hf hR) hq hQ
      have b := isIn0 ok (RR_row hf hR) hr hr2
      refine ⟨sA Z 11 (upd (Z.2.1 11) 2 (nI r)), ?_, RR_11 hR _, ?_, ?_⟩
      · simp (disch := omega) only [X9_holdings_L191, g, a, b, li0, li1, li2, li3, li4, li5, li6, li7, li8, li11, li12, li16, li24, li25, li26, li31, li32, li36, li40, li48, li52, li58, li59, li60, li63, li64, li88, li96, li130, li192, li255, li2208, li2304, li9999, li9, li13, li14, li30, li35, li44, li45, li46, li47, li97, li98, li100, li101, li104, li105, li108, li110, li111, li112, li114, li117, li122, li999999, li1000000, li2147483647, cmp0, cmpl, cmpg, cmple, cmpge, nI_leI, nI_ltI, nI_eq, rL, rI, wL, wI, ob, aLet, nI_add, pk_mul, ↓reduceIte, if_true, if_false, eq_self, Nat.reduceEqDiff, Nat.reduceLeDiff, Nat.reduceLT, Nat.one_ne_zero, Nat.zero_ne_one, Nat.add_zero, Bool.false_eq_true, nI_neq, hlt]
      · show upd (Z.2.1 11) 2 (nI r) 0 = nI p
        rw [pk_un (by decide)]
        exact h0
      · show upd (Z.2.1 11) 2 (nI r) 1 = nI q
        rw [pk_un (by decide)]
        exact h1)
    (fun n r Z v hb hr hr2 hR => by
      obtain ⟨hR, h0, h1⟩ := hR
      have hlt : ¬ 36 ≤ r := by omega
      have g : ∀ f, (sA Z 11 f).2.1 0 = Z.2.1 0 := fun f => rfl
      have a := isIn1 ok (RR_row hf hR) hq hQ
      have b := isIn1 ok (RR_row hf hR) hr hr2
      obtain ⟨Z', t1, t2, t3⟩ := r_tryH ok hf (n := 3) hi (by omega) hh (RR_11 hR (upd (Z.2.1 11) 2 (nI r))) (pk := pk3 p q r) (fun k hk => by
        unfold pk3
        split
        · exact hp
        · split
          · exact hq
          · exact hr) (fun j k h1 h2 => by
        unfold pk3
        rcases (show (j = 0 ∧ k = 1) ∨ (j = 0 ∧ k = 2) ∨ (j = 1 ∧ k = 2) by omega) with ⟨rfl, rfl⟩ | ⟨rfl, rfl⟩ | ⟨rfl, rfl⟩
        · exact hpq
        · show p < r
          omega
        · show q < r
          omega) (fun k hk => by
        show upd (Z.2.1 11) 2 (nI r) k = nI (pk3 p q r k)
        rcases (show k = 0 ∨ k = 1 ∨ k = 2 by omega) with rfl | rfl | rfl
        · rw [pk_un (by decide)]
          exact h0
        · rw [pk_un (by decide)]
          exact h1
        · exact pk_us)
      rw [lst_3] at t2
      have em : ([cn (inP d) p, cn (inP d) q] ++ [cn (inP d) r]).map (nthP (inP d)) = [p, q, r] := by
        show [nthP (inP d) (cn (inP d) p), nthP (inP d) (cn (inP d) q), nthP (inP d) (cn (inP d) r)] = _
        rw [(nth_of hp hP).2, (nth_of hq hQ).2, (nth_of hr hr2).2]
      refine ⟨Z', ?_, by rw [em]; exact t2, ?_, ?_⟩
      · simp (disch := omega) only [X9_holdings_L191, g, a, b, t1, li0, li1, li2, li3, li4, li5, li6, li7, li8, li11, li12, li16, li24, li25, li26, li31, li32, li36, li40, li48, li52, li58, li59, li60, li63, li64, li88, li96, li130, li192, li255, li2208, li2304, li9999, li9, li13, li14, li30, li35, li44, li45, li46, li47, li97, li98, li100, li101, li104, li105, li108, li110, li111, li112, li114, li117, li122, li999999, li1000000, li2147483647, cmp0, cmpl, cmpg, cmple, cmpge, nI_leI, nI_ltI, nI_eq, rL, rI, wL, wI, ob, aLet, nI_add, pk_mul, ↓reduceIte, if_true, if_false, eq_self, Nat.reduceEqDiff, Nat.reduceLeDiff, Nat.reduceLT, Nat.one_ne_zero, Nat.zero_ne_one, Nat.add_zero, Bool.false_eq_true, nI_neq, hlt]
      · rw [t3]
        show upd (Z.2.1 11) 2 (nI r) 0 = nI p
        rw [pk_un (by decide)]
        exact h0
      · rw [t3]
        show upd (Z.2.1 11) 2 (nI r) 1 = nI q
        rw [pk_un (by decide)]
        exact h1) (36 - (q + 1)) (q + 1) aFu Z v (Nat.le_refl _) (by omega) (by show _ < 100000; omega) ⟨hR, h0, h1⟩
  rw [cp, run_last _ _ _ (by omega)] at e2
  exact ⟨Z', e1, e2, e3⟩
theorem r_h3j {d : LD} {m : Rec} (ok : okL d) (hf : RowOf d (m.2.1 0)) {i h : Nat} (hi : i < lH d) (hh : h < 32) {p : Nat} (hp : p < 36) (hP : inP d p = true) {Z : Rec} {v : HS} (hR : RR d m Z v) (h0 : Z.2.1 11 0 = nI p) : ∃ Z', X9_holdings_L129 (nI 3) (nI p) (nI i) (nI h) aFu (nI (p + 1)) Z = some Z' ∧ RR d m Z' (rn (fun v l => gH d i h v (l.map (nthP (inP d)))) 2 [cn (inP d) p] (cn (inP d) p + 1) (cn (inP d) 36 - (cn (inP d) p + 1)) v) := by
  have cp := cn_yes (p := inP d) hP
  have le := cn_mono (inP d) (show p + 1 ≤ 36 by omega)
  obtain ⟨Z', e1, e2, e3⟩ := ref1 (p + 1) (inP d) (fun v k => rn (fun v l => gH d i h v (l.map (nthP (inP d)))) 1 ([cn (inP d) p] ++ [k]) (k + 1) (cn (inP d) 36 - (k + 1)) v) (fun Z v => RR d m Z v ∧ Z.2.1 11 0 = nI p) (fun n j Z => X9_holdings_L129 (nI 3) (nI p) (nI i) (nI h) n j Z)
    (fun n Z => by simp (disch := omega) only [X9_holdings_L129, li0, li1, li2, li3, li4, li5, li6, li7, li8, li11, li12, li16, li24, li25, li26, li31, li32, li36, li40, li48, li52, li58, li59, li60, li63, li64, li88, li96, li130, li192, li255, li2208, li2304, li9999, li9, li13, li14, li30, li35, li44, li45, li46, li47, li97, li98, li100, li101, li104, li105, li108, li110, li111, li112, li114, li117, li122, li999999, li1000000, li2147483647, cmp0, cmpl, cmpg, cmple, cmpge, nI_leI, nI_ltI, nI_eq, rL, rI, wL, wI, ob, aLet, nI_add, pk_mul, ↓reduceIte, if_true, if_false, eq_self, Nat.reduceEqDiff, Nat.reduceLeDiff, Nat.reduceLT, Nat.one_ne_zero, Nat.zero_ne_one, Nat.add_zero, Bool.false_eq_true, nI_neq, Nat.le_refl])
    (fun n q Z v hb hq hQ hR => by
      obtain ⟨hR, h0⟩ := hR
      have hlt : ¬ 36 ≤ q := by omega
      have a := isIn1 ok (RR_row hf hR) hp hP
      refine ⟨sA Z 11 (upd (Z.2.1 11) 1 (nI q)), ?_, RR_11 hR _, ?_⟩
      · simp (disch := omega) only [X9_holdings_L129, X9_holdings_J185, a, li0, li1, li2, li3, li4, li5, li6, li7, li8, li11, li12, li16, li24, li25, li26, li31, li32, li36, li40, li48, li52, li58, li59, li60, li63, li64, li88, li96, li130, li192, li255, li2208, li2304, li9999, li9, li13, li14, li30, li35, li44, li45, li46, li47, li97, li98, li100, li101, li104, li105, li108, li110, li111, li112, li114, li117, li122, li999999, li1000000, li2147483647, cmp0, cmpl, cmpg, cmple, cmpge, nI_leI, nI_ltI, nI_eq, rL, rI, wL, wI, ob, aLet, nI_add, pk_mul, ↓reduceIte, if_true, if_false, eq_self, Nat.reduceEqDiff, Nat.reduceLeDiff, Nat.reduceLT, Nat.one_ne_zero, Nat.zero_ne_one, Nat.add_zero, Bool.false_eq_true, nI_neq, hlt]
        rw [afu, h191_no ok (RR_row hf (RR_11 hR _)) hq hQ, ob]
      · show upd (Z.2.1 11) 1 (nI q) 0 = nI p
        rw [pk_un (by decide)]
        exact h0)
    (fun n q Z v hb hq hQ hR => by
      obtain ⟨hR, h0⟩ := hR
      have hlt : ¬ 36 ≤ q := by omega
      have a := isIn1 ok (RR_row hf hR) hp hP
      obtain ⟨Z', t1, t2, t3⟩ := r_h3i ok hf hi hh hp hP hb hq hQ (RR_11 hR (upd (Z.2.1 11) 1 (nI q))) (by
        show upd (Z.2.1 11) 1 (nI q) 0 = nI p
        rw [pk_un (by decide)]
        exact h0) (by show upd (Z.2.1 11) 1 (nI q) 1 = nI q; exact pk_us)
      refine ⟨Z', ?_, t2, t3⟩
      simp (disch := omega) only [X9_holdings_L129, X9_holdings_J185, a, t1, li0, li1, li2, li3, li4, li5, li6, li7, li8, li11, li12, li16, li24, li25, li26, li31, li32, li36, li40, li48, li52, li58, li59, li60, li63, li64, li88, li96, li130, li192, li255, li2208, li2304, li9999, li9, li13, li14, li30, li35, li44, li45, li46, li47, li97, li98, li100, li101, li104, li105, li108, li110, li111, li112, li114, li117, li122, li999999, li1000000, li2147483647, cmp0, cmpl, cmpg, cmple, cmpge, nI_leI, nI_ltI, nI_eq, rL, rI, wL, wI, ob, aLet, nI_add, pk_mul, ↓reduceIte, if_true, if_false, eq_self, Nat.reduceEqDiff, Nat.reduceLeDiff, Nat.reduceLT, Nat.one_ne_zero, Nat.zero_ne_one, Nat.add_zero, Bool.false_eq_true, nI_neq, hlt]) (36 - (p + 1)) (p + 1) aFu Z v (Nat.le_refl _) (by omega) (by show _ < 100000; omega) ⟨hR, h0⟩
  rw [cp, run_rn (fun v l => gH d i h v (l.map (nthP (inP d)))) 1 [cn (inP d) p] (cn (inP d) 36) _ _ v (by omega)] at e2
  exact ⟨Z', e1, e2⟩
theorem r_h3 {d : LD} {m : Rec} (ok : okL d) (hf : RowOf d (m.2.1 0)) {i h : Nat} (hi : i < lH d) (hh : h < 32) {Z : Rec} {v : HS} (hR : RR d m Z v) : ∃ Z', X9_holdings_L84 (nI 3) (nI i) (nI h) aFu (nI 0) Z = some Z' ∧ RR d m Z' (rn (fun v l => gH d i h v (l.map (nthP (inP d)))) 3 [] 0 (cn (inP d) 36) v) := by
  obtain ⟨Z', e1, e2⟩ := ref1 0 (inP d) (fun v k => rn (fun v l => gH d i h v (l.map (nthP (inP d)))) 2 ([] ++ [k]) (k + 1) (cn (inP d) 36 - (k + 1)) v) (RR d m) (X9_holdings_L84 (nI 3) (nI i) (nI h))
    (fun n Z => by simp (disch := omega) only [X9_holdings_L84, li0, li1, li2, li3, li4, li5, li6, li7, li8, li11, li12, li16, li24, li25, li26, li31, li32, li36, li40, li48, li52, li58, li59, li60, li63, li64, li88, li96, li130, li192, li255, li2208, li2304, li9999, li9, li13, li14, li30, li35, li44, li45, li46, li47, li97, li98, li100, li101, li104, li105, li108, li110, li111, li112, li114, li117, li122, li999999, li1000000, li2147483647, cmp0, cmpl, cmpg, cmple, cmpge, nI_leI, nI_ltI, nI_eq, rL, rI, wL, wI, ob, aLet, nI_add, pk_mul, ↓reduceIte, if_true, if_false, eq_self, Nat.reduceEqDiff, Nat.reduceLeDiff, Nat.reduceLT, Nat.one_ne_zero, Nat.zero_ne_one, Nat.add_zero, Bool.false_eq_true, nI_neq, Nat.le_refl])
    (fun n p Z v _ hp hP hR => by
      have hlt : ¬ 36 ≤ p := by omega
      refine ⟨sA Z 11 (upd (Z.2.1 11) 0 (nI p)), ?_, RR_11 hR _⟩
      simp (disch := omega) only [X9_holdings_L84, X9_holdings_J123, li0, li1, li2, li3, li4, li5, li6, li7, li8, li11, li12, li16, li24, li25, li26, li31, li32, li36, li40, li48, li52, li58, li59, li60, li63, li64, li88, li96, li130, li192, li255, li2208, li2304, li9999, li9, li13, li14, li30, li35, li44, li45, li46, li47, li97, li98, li100, li101, li104, li105, li108, li110, li111, li112, li114, li117, li122, li999999, li1000000, li2147483647, cmp0, cmpl, cmpg, cmple, cmpge, nI_leI, nI_ltI, nI_eq, rL, rI, wL, wI, ob, aLet, nI_add, pk_mul, ↓reduceIte, if_true, if_false, eq_self, Nat.reduceEqDiff, Nat.reduceLeDiff, Nat.reduceLT, Nat.one_ne_zero, Nat.zero_ne_one, Nat.add_zero, Bool.false_eq_true, nI_neq, hlt]
      rw [afu, h129_no ok (RR_row hf (RR_11 hR _)) (by decide) (by decide) hp hP, ob])
    (fun n p Z v _ hp hP hR => by
      have hlt : ¬ 36 ≤ p := by omega
      obtain ⟨Z', t1, t2⟩ := r_h3j ok hf hi hh hp hP (RR_11 hR (upd (Z.2.1 11) 0 (nI p))) (by show upd (Z.2.1 11) 0 (nI p) 0 = nI p; exact pk_us)
      refine ⟨Z', ?_, t2⟩
      simp (disch := omega) only [X9_holdings_L84, X9_holdings_J123, t1, li0, li1, li2, li3, li4, li5, li6, li7, li8, li11, li12, li16, li24, li25, li26, li31, li32, li36, li40, li48, li52, li58, li59, li60, li63, li64, li88, li96, li130, li192, li255, li2208, li2304, li9999, li9, li13, li14, li30, li35, li44, li45, li46, li47, li97, li98, li100, li101, li104, li105, li108, li110, li111, li112, li114, li117, li122, li999999, li1000000, li2147483647, cmp0, cmpl, cmpg, cmple, cmpge, nI_leI, nI_ltI, nI_eq, rL, rI, wL, wI, ob, aLet, nI_add, pk_mul, ↓reduceIte, if_true, if_false, eq_self, Nat.reduceEqDiff, Nat.reduceLeDiff, Nat.reduceLT, Nat.one_ne_zero, Nat.zero_ne_one, Nat.add_zero, Bool.false_eq_true, nI_neq, hlt]) 36 0 aFu Z v (Nat.le_refl 0) rfl (by decide) hR
  have e2 : RR d m Z' (run1 (fun v k => rn (fun v l => gH d i h v (l.map (nthP (inP d)))) 2 ([] ++ [k]) (k + 1) (cn (inP d) 36 - (k + 1)) v) (cn (inP d) 36) 0 v) := e2
  rw [run_rn (fun v l => gH d i h v (l.map (nthP (inP d)))) 2 [] (cn (inP d) 36) (cn (inP d) 36) 0 v (by omega)] at e2
  exact ⟨Z', e1, e2⟩
/-! what to ask next -/
def dst (fit : Nat) (o : Nat → Nat) (p : Nat) : Nat := if 2 * o p ≤ fit then fit - 2 * o p else 2 * o p - fit
def nxt2 (d : LD) (fit : Nat) (o : Nat → Nat) : Nat → Option Nat
  | 0 => none
  | p + 1 => if inP d p = true then (match nxt2 d fit o p with
      | none => some p
      | some b => if dst fit o b ≤ dst fit o p then some b else some p) else nxt2 d fit o p
theorem nxt_lt {d : LD} {fit : Nat} {o : Nat → Nat} : ∀ {p b}, nxt2 d fit o p = some b → b < p
  | p + 1, b, h => by
    rw [nxt2] at h
    split at h
    · cases q : nxt2 d fit o p with
      | none =>
        rw [q] at h
        cases h
        omega
      | some a =>
        have := nxt_lt q
        rw [q] at h
        dsimp only at h
        split at h <;> cases h <;> omega
    · have := nxt_lt h
      omega
/-- how many places lie ahead of a cell -/
def pm (c : Nat) : Nat := 6 * min (c / 8) 6 + (if c / 8 < 6 then min (c % 8) 6 else 0)
def enN (o : Option Nat) : Int32 := match o with
  | none => -nI 4
  | some p => nI (cl p)
def enD (fit : Nat) (of : Nat → Nat) (o : Option Nat) : Int32 := match o with
  | none => nI 1000000
  | some p => nI (dst fit of p)
theorem a_abs_n {a b : Nat} (ha : a < 2 ^ 30) (hb : b < 2 ^ 30) : a_abs (nI a - nI b) = nI (if a ≤ b then b - a else a - b) := by
  unfold a_abs
  by_cases h : a < b
  · have n := pk_sneg (a := a) (b := b) hb h
    rw [if_neg (fa_of_lt n).2.1, if_pos (by omega)]
    apply Int32.toInt_inj.mp
    have e := pk_sub_toInt (a := a) (b := b) ha hb
    have z : (0 : Int32).toInt = 0 := rfl
    rw [fb_subI (by rw [e, z]; omega) (by rw [e, z]; omega), e, z, nI_toInt (by omega)]
    omega
  · rw [pk_sub (by omega), if_pos (nI_pos' (by omega))]
    by_cases q : a ≤ b
    · rw [if_pos q]
      congr 1
      omega
    · rw [if_neg q]
theorem c_next {d : LD} {S U : Rec} (ok : okL d) (hS : LandOf d S) {all : Nat} {v : HS} (hR : RH d all U v) (h1 : v.1 ≤ 8000) (h2 : ∀ p, v.2.1 p ≤ v.1) : X6_nextToAsk U S = some (if v.1 = 0 then -nI 4 else enN (nxt2 d v.1 v.2.1 36)) := by
  obtain ⟨r0, r1, r2⟩ := hR
  have := forUp (fun n j (s : Int32 × Int32) => X6_nextToAsk_L19 U S n s.1 s.2 j) 64 (fun c => (enN (nxt2 d v.1 v.2.1 (pm c)), enD v.1 v.2.1 (nxt2 d v.1 v.2.1 (pm c)))) (some (enN (nxt2 d v.1 v.2.1 (pm 64)))) (fun n c hc => ?_) (fun n => ?_) 64 0 aFu rfl (by decide)
  · have l : X6_nextToAsk_L19 U S aFu (-nI 4) (nI 1000000) (nI 0) = some (enN (nxt2 d v.1 v.2.1 36)) := this
    unfold X6_nextToAsk
    by_cases z : v.1 = 0
    · simp (disch := omega) only [r1, z, li0, li1, li2, li3, li4, li5, li6, li7, li8, li11, li12, li16, li24, li25, li26, li31, li32, li36, li40, li48, li52, li58, li59, li60, li63, li64, li88, li96, li130, li192, li255, li2208, li2304, li9999, li9, li13, li14, li30, li35, li44, li45, li46, li47, li97, li98, li100, li101, li104, li105, li108, li110, li111, li112, li114, li117, li122, li999999, li1000000, li2147483647, cmp0, cmpl, cmpg, cmple, cmpge, nI_leI, nI_ltI, nI_eq, rL, rI, wL, wI, ob, aLet, nI_add, pk_mul, ↓reduceIte, if_true, if_false, eq_self, Nat.reduceEqDiff, Nat.reduceLeDiff, Nat.reduceLT, Nat.one_ne_zero, Nat.zero_ne_one, Nat.add_zero, Bool.false_eq_true, nI_neq]
    · simp (disch := omega) only [r1, z, l, li0, li1, li2, li3, li4, li5, li6, li7, li8, li11, li12, li16, li24, li25, li26, li31, li32, li36, li40, li48, li52, li58, li59, li60, li63, li64, li88, li96, li130, li192, li255, li2208, li2304, li9999, li9, li13, li14, li30, li35, li44, li45, li46, li47, li97, li98, li100, li101, li104, li105, li108, li110, li111, li112, li114, li117, li122, li999999, li1000000, li2147483647, cmp0, cmpl, cmpg, cmple, cmpge, nI_leI, nI_ltI, nI_eq, rL, rI, wL, wI, ob, aLet, nI_add, pk_mul, ↓reduceIte, if_true, if_false, eq_self, Nat.reduceEqDiff, Nat.reduceLeDiff, Nat.reduceLT, Nat.one_ne_zero, Nat.zero_ne_one, Nat.add_zero, Bool.false_eq_true, nI_neq]
  · have hlt : ¬ 64 ≤ c := by omega
    have e := r2 c hc
    have cc := cC1 ok hS hc
    have b2 := h2 (pl c)
    cases q : inC d c
    · have pe : nxt2 d v.1 v.2.1 (pm (c + 1)) = nxt2 d v.1 v.2.1 (pm c) := by
        by_cases w : c / 8 < 6 ∧ c % 8 < 6
        · have e1 : pm (c + 1) = pm c + 1 := by
            unfold pm
            split <;> split <;> omega
          have e2 : pm c = pl c := by
            unfold pm pl
            rw [if_pos w.1]
            omega
          rw [e1, nxt2, if_neg]
          rw [e2, ← inC_cl, cl_pl w.2, q]
          decide
        · have e1 : pm (c + 1) = pm c := by
            unfold pm
            split <;> split <;> omega
          rw [e1]
      rw [q] at cc e
      have cc : X2_hasCell S (nI c) = some (nI 0) := cc
      have e : U.2.1 0 c = nI 0 := e
      simp (disch := omega) only [X6_nextToAsk_L19, e, r1, cc, pe, li0, li1, li2, li3, li4, li5, li6, li7, li8, li11, li12, li16, li24, li25, li26, li31, li32, li36, li40, li48, li52, li58, li59, li60, li63, li64, li88, li96, li130, li192, li255, li2208, li2304, li9999, li9, li13, li14, li30, li35, li44, li45, li46, li47, li97, li98, li100, li101, li104, li105, li108, li110, li111, li112, li114, li117, li122, li999999, li1000000, li2147483647, cmp0, cmpl, cmpg, cmple, cmpge, nI_leI, nI_ltI, nI_eq, rL, rI, wL, wI, ob, aLet, nI_add, pk_mul, ↓reduceIte, if_true, if_false, eq_self, Nat.reduceEqDiff, Nat.reduceLeDiff, Nat.reduceLT, Nat.one_ne_zero, Nat.zero_ne_one, Nat.add_zero, Bool.false_eq_true, nI_neq, hlt]
    · have hb := inC_b ok q
      have e1 : pm (c + 1) = pm c + 1 := by
        unfold pm
        split <;> split <;> omega
      have e2 : pm c = pl c := by
        unfold pm pl
        rw [if_pos hb.1]
        omega
      have ip : inP d (pl c) = true := by
        rw [← inC_cl, cl_pl hb.2.1]
        exact q
      rw [q] at cc e
      have cc : X2_hasCell S (nI c) = some (nI 1) := cc
      have e : U.2.1 0 c = nI (v.2.1 (pl c)) := e
      have ab : a_abs (nI (2 * v.2.1 (pl c)) - nI v.1) = nI (dst v.1 v.2.1 (pl c)) := a_abs_n (by omega) (by omega)
      have dl : dst v.1 v.2.1 (pl c) ≤ 16000 := by
        unfold dst
        split <;> omega
      have nx : nxt2 d v.1 v.2.1 (pm (c + 1)) = (match nxt2 d v.1 v.2.1 (pm c) with
        | none => some (pl c)
        | some b => if dst v.1 v.2.1 b ≤ dst v.1 v.2.1 (pl c) then some b else some (pl c)) := by
        rw [e1, nxt2, e2, if_pos ip]
      rw [nx]
      cases w : nxt2 d v.1 v.2.1 (pm c) with
      | none =>
        have mx : ¬ 1000000 ≤ dst v.1 v.2.1 (pl c) := by omega
        have ec : enN (some (pl c)) = nI c := by
          show nI (cl (pl c)) = _
          rw [cl_pl hb.2.1]
        simp (disch := omega) only [X6_nextToAsk_L19, enD, e, r1, cc, ab, mx, ec, li0, li1, li2, li3, li4, li5, li6, li7, li8, li11, li12, li16, li24, li25, li26, li31, li32, li36, li40, li48, li52, li58, li59, li60, li63, li64, li88, li96, li130, li192, li255, li2208, li2304, li9999, li9, li13, li14, li30, li35, li44, li45, li46, li47, li97, li98, li100, li101, li104, li105, li108, li110, li111, li112, li114, li117, li122, li999999, li1000000, li2147483647, cmp0, cmpl, cmpg, cmple, cmpge, nI_leI, nI_ltI, nI_eq, rL, rI, wL, wI, ob, aLet, nI_add, pk_mul, ↓reduceIte, if_true, if_false, eq_self, Nat.reduceEqDiff, Nat.reduceLeDiff, Nat.reduceLT, Nat.one_ne_zero, Nat.zero_ne_one, Nat.add_zero, Bool.false_eq_true, nI_neq, hlt]
      | some b =>
        have bl : b < 36 := by
          have := nxt_lt w
          omega
        have d2 : dst v.1 v.2.1 b ≤ 16000 := by
          have := h2 b
          unfold dst
          split <;> omega
        by_cases y : dst v.1 v.2.1 b ≤ dst v.1 v.2.1 (pl c)
        · simp (disch := omega) only [X6_nextToAsk_L19, enD, e, r1, cc, ab, y, li0, li1, li2, li3, li4, li5, li6, li7, li8, li11, li12, li16, li24, li25, li26, li31, li32, li36, li40, li48, li52, li58, li59, li60, li63, li64, li88, li96, li130, li192, li255, li2208, li2304, li9999, li9, li13, li14, li30, li35, li44, li45, li46, li47, li97, li98, li100, li101, li104, li105, li108, li110, li111, li112, li114, li117, li122, li999999, li1000000, li2147483647, cmp0, cmpl, cmpg, cmple, cmpge, nI_leI, nI_ltI, nI_eq, rL, rI, wL, wI, ob, aLet, nI_add, pk_mul, ↓reduceIte, if_true, if_false, eq_self, Nat.reduceEqDiff, Nat.reduceLeDiff, Nat.reduceLT, Nat.one_ne_zero, Nat.zero_ne_one, Nat.add_zero, Bool.false_eq_true, nI_neq, hlt]
        · have ec : enN (some (pl c)) = nI c := by
            show nI (cl (pl c)) = _
            rw [cl_pl hb.2.1]
          simp (disch := omega) only [X6_nextToAsk_L19, enD, e, r1, cc, ab, y, ec, li0, li1, li2, li3, li4, li5, li6, li7, li8, li11, li12, li16, li24, li25, li26, li31, li32, li36, li40, li48, li52, li58, li59, li60, li63, li64, li88, li96, li130, li192, li255, li2208, li2304, li9999, li9, li13, li14, li30, li35, li44, li45, li46, li47, li97, li98, li100, li101, li104, li105, li108, li110, li111, li112, li114, li117, li122, li999999, li1000000, li2147483647, cmp0, cmpl, cmpg, cmple, cmpge, nI_leI, nI_ltI, nI_eq, rL, rI, wL, wI, ob, aLet, nI_add, pk_mul, ↓reduceIte, if_true, if_false, eq_self, Nat.reduceEqDiff, Nat.reduceLeDiff, Nat.reduceLT, Nat.one_ne_zero, Nat.zero_ne_one, Nat.add_zero, Bool.false_eq_true, nI_neq, hlt]
  · simp (disch := omega) only [X6_nextToAsk_L19, li0, li1, li2, li3, li4, li5, li6, li7, li8, li11, li12, li16, li24, li25, li26, li31, li32, li36, li40, li48, li52, li58, li59, li60, li63, li64, li88, li96, li130, li192, li255, li2208, li2304, li9999, li9, li13, li14, li30, li35, li44, li45, li46, li47, li97, li98, li100, li101, li104, li105, li108, li110, li111, li112, li114, li117, li122, li999999, li1000000, li2147483647, cmp0, cmpl, cmpg, cmple, cmpge, nI_leI, nI_ltI, nI_eq, rL, rI, wL, wI, ob, aLet, nI_add, pk_mul, ↓reduceIte, if_true, if_false, eq_self, Nat.reduceEqDiff, Nat.reduceLeDiff, Nat.reduceLT, Nat.one_ne_zero, Nat.zero_ne_one, Nat.add_zero, Bool.false_eq_true, nI_neq, Nat.le_refl]
def enP (o : Option Nat) : Int32 := match o with
  | none => -nI 4
  | some p => nI p
def enL (fit : Nat) (of : Nat → Nat) (o : Option Nat) : Int32 := match o with
  | none => nI 0
  | some p => nI (dst fit of p)
theorem r_next {d : LD} {m Z : Rec} (ok : okL d) (hf : RowOf d (m.2.1 0)) {v : HS} (hR : RR d m Z v) (h1 : v.1 ≤ 8000) (h2 : ∀ p, v.2.1 p ≤ v.1) : X9_holdings_L270 Z aFu (-nI 4) (nI 0) (nI 0) = some (if v.1 = 0 then -nI 4 else enP (nxt2 d v.1 v.2.1 36)) := by
  have hf0 := RR_row hf hR
  obtain ⟨r0, r1, r2, r3⟩ := hR
  by_cases z : v.1 = 0
  · rw [if_pos z]
    rw [z] at r1
    show X9_holdings_L270 Z (99999 + 1) (-nI 4) (nI 0) (nI 0) = _
    simp (disch := omega) only [X9_holdings_L270, r1, li0, li1, li2, li3, li4, li5, li6, li7, li8, li11, li12, li16, li24, li25, li26, li31, li32, li36, li40, li48, li52, li58, li59, li60, li63, li64, li88, li96, li130, li192, li255, li2208, li2304, li9999, li9, li13, li14, li30, li35, li44, li45, li46, li47, li97, li98, li100, li101, li104, li105, li108, li110, li111, li112, li114, li117, li122, li999999, li1000000, li2147483647, cmp0, cmpl, cmpg, cmple, cmpge, nI_leI, nI_ltI, nI_eq, rL, rI, wL, wI, ob, aLet, nI_add, pk_mul, ↓reduceIte, if_true, if_false, eq_self, Nat.reduceEqDiff, Nat.reduceLeDiff, Nat.reduceLT, Nat.one_ne_zero, Nat.zero_ne_one, Nat.add_zero, Bool.false_eq_true, nI_neq, Nat.le_refl]
  · rw [if_neg z]
    have := forUp (fun n j (s : Int32 × Int32) => X9_holdings_L270 Z n s.1 s.2 j) 36 (fun p => (enP (nxt2 d v.1 v.2.1 p), enL v.1 v.2.1 (nxt2 d v.1 v.2.1 p))) (some (enP (nxt2 d v.1 v.2.1 36))) (fun n p hp => ?_) (fun n => ?_) 36 0 aFu rfl (by decide)
    · exact this
    · have hlt : ¬ 36 ≤ p := by omega
      have z0 : ¬ v.1 ≤ 0 := by omega
      have e := r3 p hp
      have b2 := h2 p
      have dl : dst v.1 v.2.1 p ≤ 16000 := by
        unfold dst
        split <;> omega
      have jj : ∀ k, X9_holdings_J331 Z (nI p) (enP (nxt2 d v.1 v.2.1 p)) (enL v.1 v.2.1 (nxt2 d v.1 v.2.1 p)) k (nI (dst v.1 v.2.1 p)) = k (enP (nxt2 d v.1 v.2.1 (p + 1))) (enL v.1 v.2.1 (nxt2 d v.1 v.2.1 (p + 1))) (nI (p + 1)) := fun k => by
        cases q : inP d p
        · have a := isIn0 ok hf0 hp q
          have nx : nxt2 d v.1 v.2.1 (p + 1) = nxt2 d v.1 v.2.1 p := by
            rw [nxt2, if_neg (by rw [q]; decide)]
          rw [nx]
          simp (disch := omega) only [X9_holdings_J331, a, li0, li1, li2, li3, li4, li5, li6, li7, li8, li11, li12, li16, li24, li25, li26, li31, li32, li36, li40, li48, li52, li58, li59, li60, li63, li64, li88, li96, li130, li192, li255, li2208, li2304, li9999, li9, li13, li14, li30, li35, li44, li45, li46, li47, li97, li98, li100, li101, li104, li105, li108, li110, li111, li112, li114, li117, li122, li999999, li1000000, li2147483647, cmp0, cmpl, cmpg, cmple, cmpge, nI_leI, nI_ltI, nI_eq, rL, rI, wL, wI, ob, aLet, nI_add, pk_mul, ↓reduceIte, if_true, if_false, eq_self, Nat.reduceEqDiff, Nat.reduceLeDiff, Nat.reduceLT, Nat.one_ne_zero, Nat.zero_ne_one, Nat.add_zero, Bool.false_eq_true, nI_neq]
        · have a := isIn1 ok hf0 hp q
          have nx : nxt2 d v.1 v.2.1 (p + 1) = (match nxt2 d v.1 v.2.1 p with
            | none => some p
            | some b => if dst v.1 v.2.1 b ≤ dst v.1 v.2.1 p then some b else some p) := by
            rw [nxt2, if_pos q]
          rw [nx]
          cases w : nxt2 d v.1 v.2.1 p with
          | none => simp (disch := omega) only [X9_holdings_J331, enP, enL, a, li0, li1, li2, li3, li4, li5, li6, li7, li8, li11, li12, li16, li24, li25, li26, li31, li32, li36, li40, li48, li52, li58, li59, li60, li63, li64, li88, li96, li130, li192, li255, li2208, li2304, li9999, li9, li13, li14, li30, li35, li44, li45, li46, li47, li97, li98, li100, li101, li104, li105, li108, li110, li111, li112, li114, li117, li122, li999999, li1000000, li2147483647, cmp0, cmpl, cmpg, cmple, cmpge, nI_leI, nI_ltI, nI_eq, rL, rI, wL, wI, ob, aLet, nI_add, pk_mul, ↓reduceIte, if_true, if_false, eq_self, Nat.reduceEqDiff, Nat.reduceLeDiff, Nat.reduceLT, Nat.one_ne_zero, Nat.zero_ne_one, Nat.add_zero, Bool.false_eq_true, nI_neq]
          | some b =>
            have bl : b < 36 := by
              have := nxt_lt w
              omega
            have d2 : dst v.1 v.2.1 b ≤ 16000 := by
              have := h2 b
              unfold dst
              split <;> omega
            by_cases y : dst v.1 v.2.1 b ≤ dst v.1 v.2.1 p
            · simp (disch := omega) only [X9_holdings_J331, enP, enL, a, y, li0, li1, li2, li3, li4, li5, li6, li7, li8, li11, li12, li16, li24, li25, li26, li31, li32, li36, li40, li48, li52, li58, li59, li60, li63, li64, li88, li96, li130, li192, li255, li2208, li2304, li9999, li9, li13, li14, li30, li35, li44, li45, li46, li47, li97, li98, li100, li101, li104, li105, li108, li110, li111, li112, li114, li117, li122, li999999, li1000000, li2147483647, cmp0, cmpl, cmpg, cmple, cmpge, nI_leI, nI_ltI, nI_eq, rL, rI, wL, wI, ob, aLet, nI_add, pk_mul, ↓reduceIte, if_true, if_false, eq_self, Nat.reduceEqDiff, Nat.reduceLeDiff, Nat.reduceLT, Nat.one_ne_zero, Nat.zero_ne_one, Nat.add_zero, Bool.false_eq_true, nI_neq]
            · simp (disch := omega) only [X9_holdings_J331, enP, enL, a, y, li0, li1, li2, li3, li4, li5, li6, li7, li8, li11, li12, li16, li24, li25, li26, li31, li32, li36, li40, li48, li52, li58, li59, li60, li63, li64, li88, li96, li130, li192, li255, li2208, li2304, li9999, li9, li13, li14, li30, li35, li44, li45, li46, li47, li97, li98, li100, li101, li104, li105, li108, li110, li111, li112, li114, li117, li122, li999999, li1000000, li2147483647, cmp0, cmpl, cmpg, cmple, cmpge, nI_leI, nI_ltI, nI_eq, rL, rI, wL, wI, ob, aLet, nI_add, pk_mul, ↓reduceIte, if_true, if_false, eq_self, Nat.reduceEqDiff, Nat.reduceLeDiff, Nat.reduceLT, Nat.one_ne_zero, Nat.zero_ne_one, Nat.add_zero, Bool.false_eq_true, nI_neq]
      by_cases y : 2 * v.2.1 p ≤ v.1
      · have ds : nI v.1 - nI (2 * v.2.1 p) = nI (dst v.1 v.2.1 p) := by
          unfold dst
          rw [if_pos y, pk_sub y]
        simp (disch := omega) only [X9_holdings_L270, r1, e, z0, y, ds, jj, li0, li1, li2, li3, li4, li5, li6, li7, li8, li11, li12, li16, li24, li25, li26, li31, li32, li36, li40, li48, li52, li58, li59, li60, li63, li64, li88, li96, li130, li192, li255, li2208, li2304, li9999, li9, li13, li14, li30, li35, li44, li45, li46, li47, li97, li98, li100, li101, li104, li105, li108, li110, li111, li112, li114, li117, li122, li999999, li1000000, li2147483647, cmp0, cmpl, cmpg, cmple, cmpge, nI_leI, nI_ltI, nI_eq, rL, rI, wL, wI, ob, aLet, nI_add, pk_mul, ↓reduceIte, if_true, if_false, eq_self, Nat.reduceEqDiff, Nat.reduceLeDiff, Nat.reduceLT, Nat.one_ne_zero, Nat.zero_ne_one, Nat.add_zero, Bool.false_eq_true, nI_neq, hlt]
      · have ds : nI (2 * v.2.1 p) - nI v.1 = nI (dst v.1 v.2.1 p) := by
          unfold dst
          rw [if_neg y, pk_sub (by omega)]
        simp (disch := omega) only [X9_holdings_L270, r1, e, z0, y, ds, jj, li0, li1, li2, li3, li4, li5, li6, li7, li8, li11, li12, li16, li24, li25, li26, li31, li32, li36, li40, li48, li52, li58, li59, li60, li63, li64, li88, li96, li130, li192, li255, li2208, li2304, li9999, li9, li13, li14, li30, li35, li44, li45, li46, li47, li97, li98, li100, li101, li104, li105, li108, li110, li111, li112, li114, li117, li122, li999999, li1000000, li2147483647, cmp0, cmpl, cmpg, cmple, cmpge, nI_leI, nI_ltI, nI_eq, rL, rI, wL, wI, ob, aLet, nI_add, pk_mul, ↓reduceIte, if_true, if_false, eq_self, Nat.reduceEqDiff, Nat.reduceLeDiff, Nat.reduceLT, Nat.one_ne_zero, Nat.zero_ne_one, Nat.add_zero, Bool.false_eq_true, nI_neq, hlt]
    · simp (disch := omega) only [X9_holdings_L270, li0, li1, li2, li3, li4, li5, li6, li7, li8, li11, li12, li16, li24, li25, li26, li31, li32, li36, li40, li48, li52, li58, li59, li60, li63, li64, li88, li96, li130, li192, li255, li2208, li2304, li9999, li9, li13, li14, li30, li35, li44, li45, li46, li47, li97, li98, li100, li101, li104, li105, li108, li110, li111, li112, li114, li117, li122, li999999, li1000000, li2147483647, cmp0, cmpl, cmpg, cmple, cmpge, nI_leI, nI_ltI, nI_eq, rL, rI, wL, wI, ob, aLet, nI_add, pk_mul, ↓reduceIte, if_true, if_false, eq_self, Nat.reduceEqDiff, Nat.reduceLeDiff, Nat.reduceLT, Nat.one_ne_zero, Nat.zero_ne_one, Nat.add_zero, Bool.false_eq_true, nI_neq, Nat.le_refl]
theorem r_number {p : Nat} (hp : p < 1000) : X9_numberOf (nI p) = nI (cl p) := by
  unfold X9_numberOf cl
  simp (disch := omega) only [li0, li1, li2, li3, li4, li5, li6, li7, li8, li11, li12, li16, li24, li25, li26, li31, li32, li36, li40, li48, li52, li58, li59, li60, li63, li64, li88, li96, li130, li192, li255, li2208, li2304, li9999, li9, li13, li14, li30, li35, li44, li45, li46, li47, li97, li98, li100, li101, li104, li105, li108, li110, li111, li112, li114, li117, li122, li999999, li1000000, li2147483647, cmp0, cmpl, cmpg, cmple, cmpge, nI_leI, nI_ltI, nI_eq, rL, rI, wL, wI, ob, aLet, nI_add, pk_mul, ↓reduceIte, if_true, if_false, eq_self, Nat.reduceEqDiff, Nat.reduceLeDiff, Nat.reduceLT, Nat.one_ne_zero, Nat.zero_ne_one, Nat.add_zero, Bool.false_eq_true, nI_neq, pk_div, pk_sub]
  rw [show p - p / 6 * 6 = p % 6 by omega]
theorem q_holdings {d : LD} {S U T m : Rec} (ok : okL d) (hS : LandOf d S) (hf : RowOf d (m.2.1 0)) (x1 x2 x3 x4 : Int32) : ∃ r U' T' m', X8_holdings S U T x1 x2 x3 x4 = some (r, U', T') ∧ X9_holdings m x1 x2 x3 x4 = some (r, m') ∧ Fr m m' := by
  have h6 := ok.1
  rcases hcase ok hS hf x1 with ⟨a, b⟩ | ⟨i, hi, rfl, a, b⟩
  · refine ⟨-nI 1, U, T, m, ?_, ?_, Fr_refl m⟩
    · simp (disch := omega) only [X8_holdings, a, li0, li1, li2, li3, li4, li5, li6, li7, li8, li11, li12, li16, li24, li25, li26, li31, li32, li36, li40, li48, li52, li58, li59, li60, li63, li64, li88, li96, li130, li192, li255, li2208, li2304, li9999, li9, li13, li14, li30, li35, li44, li45, li46, li47, li97, li98, li100, li101, li104, li105, li108, li110, li111, li112, li114, li117, li122, li999999, li1000000, li2147483647, cmp0, cmpl, cmpg, cmple, cmpge, nI_leI, nI_ltI, nI_eq, rL, rI, wL, wI, ob, aLet, nI_add, pk_mul, ↓reduceIte, if_true, if_false, eq_self, Nat.reduceEqDiff, Nat.reduceLeDiff, Nat.reduceLT, Nat.one_ne_zero, Nat.zero_ne_one, Nat.add_zero, Bool.false_eq_true, nI_neq]
    · simp (disch := omega) only [X9_holdings, b, li0, li1, li2, li3, li4, li5, li6, li7, li8, li11, li12, li16, li24, li25, li26, li31, li32, li36, li40, li48, li52, li58, li59, li60, li63, li64, li88, li96, li130, li192, li255, li2208, li2304, li9999, li9, li13, li14, li30, li35, li44, li45, li46, li47, li97, li98, li100, li101, li104, li105, li108, li110, li111, li112, li114, li117, li122, li999999, li1000000, li2147483647, cmp0, cmpl, cmpg, cmple, cmpge, nI_leI, nI_ltI, nI_eq, rL, rI, wL, wI, ob, aLet, nI_add, pk_mul, ↓reduceIte, if_true, if_false, eq_self, Nat.reduceEqDiff, Nat.reduceLeDiff, Nat.reduceLT, Nat.one_ne_zero, Nat.zero_ne_one, Nat.add_zero, Bool.false_eq_true, nI_neq]
  rcases rg_1_3 x2 with ⟨e, f, -⟩ | ⟨n, hn1, hn, rfl, e, f⟩
  · refine ⟨-nI 1, U, T, m, ?_, ?_, Fr_refl m⟩
    · simp (disch := omega) only [X8_holdings, a, e, li0, li1, li2, li3, li4, li5, li6, li7, li8, li11, li12, li16, li24, li25, li26, li31, li32, li36, li40, li48, li52, li58, li59, li60, li63, li64, li88, li96, li130, li192, li255, li2208, li2304, li9999, li9, li13, li14, li30, li35, li44, li45, li46, li47, li97, li98, li100, li101, li104, li105, li108, li110, li111, li112, li114, li117, li122, li999999, li1000000, li2147483647, cmp0, cmpl, cmpg, cmple, cmpge, nI_leI, nI_ltI, nI_eq, rL, rI, wL, wI, ob, aLet, nI_add, pk_mul, ↓reduceIte, if_true, if_false, eq_self, Nat.reduceEqDiff, Nat.reduceLeDiff, Nat.reduceLT, Nat.one_ne_zero, Nat.zero_ne_one, Nat.add_zero, Bool.false_eq_true, nI_neq]
    · simp (disch := omega) only [X9_holdings, b, f, li0, li1, li2, li3, li4, li5, li6, li7, li8, li11, li12, li16, li24, li25, li26, li31, li32, li36, li40, li48, li52, li58, li59, li60, li63, li64, li88, li96, li130, li192, li255, li2208, li2304, li9999, li9, li13, li14, li30, li35, li44, li45, li46, li47, li97, li98, li100, li101, li104, li105, li108, li110, li111, li112, li114, li117, li122, li999999, li1000000, li2147483647, cmp0, cmpl, cmpg, cmple, cmpge, nI_leI, nI_ltI, nI_eq, rL, rI, wL, wI, ob, aLet, nI_add, pk_mul, ↓reduceIte, if_true, if_false, eq_self, Nat.reduceEqDiff, Nat.reduceLeDiff, Nat.reduceLT, Nat.one_ne_zero, Nat.zero_ne_one, Nat.add_zero, Bool.false_eq_true, nI_neq]
  rcases rg_0_31 x3 with ⟨g, k, -⟩ | ⟨h, -, hh, rfl, g, k⟩
  · refine ⟨-nI 1, U, T, m, ?_, ?_, Fr_refl m⟩
    · simp (disch := omega) only [X8_holdings, a, e, g, li0, li1, li2, li3, li4, li5, li6, li7, li8, li11, li12, li16, li24, li25, li26, li31, li32, li36, li40, li48, li52, li58, li59, li60, li63, li64, li88, li96, li130, li192, li255, li2208, li2304, li9999, li9, li13, li14, li30, li35, li44, li45, li46, li47, li97, li98, li100, li101, li104, li105, li108, li110, li111, li112, li114, li117, li122, li999999, li1000000, li2147483647, cmp0, cmpl, cmpg, cmple, cmpge, nI_leI, nI_ltI, nI_eq, rL, rI, wL, wI, ob, aLet, nI_add, pk_mul, ↓reduceIte, if_true, if_false, eq_self, Nat.reduceEqDiff, Nat.reduceLeDiff, Nat.reduceLT, Nat.one_ne_zero, Nat.zero_ne_one, Nat.add_zero, Bool.false_eq_true, nI_neq]
    · simp (disch := omega) only [X9_holdings, b, f, k, li0, li1, li2, li3, li4, li5, li6, li7, li8, li11, li12, li16, li24, li25, li26, li31, li32, li36, li40, li48, li52, li58, li59, li60, li63, li64, li88, li96, li130, li192, li255, li2208, li2304, li9999, li9, li13, li14, li30, li35, li44, li45, li46, li47, li97, li98, li100, li101, li104, li105, li108, li110, li111, li112, li114, li117, li122, li999999, li1000000, li2147483647, cmp0, cmpl, cmpg, cmple, cmpge, nI_leI, nI_ltI, nI_eq, rL, rI, wL, wI, ob, aLet, nI_add, pk_mul, ↓reduceIte, if_true, if_false, eq_self, Nat.reduceEqDiff, Nat.reduceLeDiff, Nat.reduceLT, Nat.one_ne_zero, Nat.zero_ne_one, Nat.add_zero, Bool.false_eq_true, nI_neq]
  rcases rg_0_2 x4 with ⟨g2, k2, -⟩ | ⟨q, -, hq, rfl, g2, k2⟩
  · refine ⟨-nI 1, U, T, m, ?_, ?_, Fr_refl m⟩
    · simp (disch := omega) only [X8_holdings, a, e, g, g2, li0, li1, li2, li3, li4, li5, li6, li7, li8, li11, li12, li16, li24, li25, li26, li31, li32, li36, li40, li48, li52, li58, li59, li60, li63, li64, li88, li96, li130, li192, li255, li2208, li2304, li9999, li9, li13, li14, li30, li35, li44, li45, li46, li47, li97, li98, li100, li101, li104, li105, li108, li110, li111, li112, li114, li117, li122, li999999, li1000000, li2147483647, cmp0, cmpl, cmpg, cmple, cmpge, nI_leI, nI_ltI, nI_eq, rL, rI, wL, wI, ob, aLet, nI_add, pk_mul, ↓reduceIte, if_true, if_false, eq_self, Nat.reduceEqDiff, Nat.reduceLeDiff, Nat.reduceLT, Nat.one_ne_zero, Nat.zero_ne_one, Nat.add_zero, Bool.false_eq_true, nI_neq]
    · simp (disch := omega) only [X9_holdings, b, f, k, k2, li0, li1, li2, li3, li4, li5, li6, li7, li8, li11, li12, li16, li24, li25, li26, li31, li32, li36, li40, li48, li52, li58, li59, li60, li63, li64, li88, li96, li130, li192, li255, li2208, li2304, li9999, li9, li13, li14, li30, li35, li44, li45, li46, li47, li97, li98, li100, li101, li104, li105, li108, li110, li111, li112, li114, li117, li122, li999999, li1000000, li2147483647, cmp0, cmpl, cmpg, cmple, cmpge, nI_leI, nI_ltI, nI_eq, rL, rI, wL, wI, ob, aLet, nI_add, pk_mul, ↓reduceIte, if_true, if_false, eq_self, Nat.reduceEqDiff, Nat.reduceLeDiff, Nat.reduceLT, Nat.one_ne_zero, Nat.zero_ne_one, Nat.add_zero, Bool.false_eq_true, nI_neq]
  have s36 : cn (inP d) 36 ≤ 36 := cn_le _ _
  obtain ⟨U', T', c1, c2⟩ := c_ask (U := U) (T := T) (n := n) (h := h) ok hS hi (by omega) (by omega)
  -- the reference starts
  obtain ⟨M, m1, m2⟩ := forUpE (fun t j z => X9_holdings_L60 t j z) 36 (fun p M => Fr m M ∧ M.1 20 = nI 0 ∧ M.1 21 = nI 0 ∧ ∀ r, r < p → M.2.1 19 r = nI 0) (fun M => Fr m M ∧ M.1 20 = nI 0 ∧ M.1 21 = nI 0 ∧ ∀ r, r < 36 → M.2.1 19 r = nI 0) (fun t p M hp hM => by
      obtain ⟨y1, y2, y3, y4⟩ := hM
      have hlt : ¬ 36 ≤ p := by omega
      refine ⟨sA M 19 (upd (M.2.1 19) p (nI 0)), ?_, Fr_A y1 (by omega), y2, y3, fun r hr => ?_⟩
      · simp (disch := omega) only [X9_holdings_L60, li0, li1, li2, li3, li4, li5, li6, li7, li8, li11, li12, li16, li24, li25, li26, li31, li32, li36, li40, li48, li52, li58, li59, li60, li63, li64, li88, li96, li130, li192, li255, li2208, li2304, li9999, li9, li13, li14, li30, li35, li44, li45, li46, li47, li97, li98, li100, li101, li104, li105, li108, li110, li111, li112, li114, li117, li122, li999999, li1000000, li2147483647, cmp0, cmpl, cmpg, cmple, cmpge, nI_leI, nI_ltI, nI_eq, rL, rI, wL, wI, ob, aLet, nI_add, pk_mul, ↓reduceIte, if_true, if_false, eq_self, Nat.reduceEqDiff, Nat.reduceLeDiff, Nat.reduceLT, Nat.one_ne_zero, Nat.zero_ne_one, Nat.add_zero, Bool.false_eq_true, nI_neq, hlt]
      · show upd (M.2.1 19) p (nI 0) r = _
        by_cases y : r = p
        · rw [y, pk_us]
        · rw [pk_un y]
          exact y4 r (by omega)) (fun t M hM => ⟨M, by simp (disch := omega) only [X9_holdings_L60, li0, li1, li2, li3, li4, li5, li6, li7, li8, li11, li12, li16, li24, li25, li26, li31, li32, li36, li40, li48, li52, li58, li59, li60, li63, li64, li88, li96, li130, li192, li255, li2208, li2304, li9999, li9, li13, li14, li30, li35, li44, li45, li46, li47, li97, li98, li100, li101, li104, li105, li108, li110, li111, li112, li114, li117, li122, li999999, li1000000, li2147483647, cmp0, cmpl, cmpg, cmple, cmpge, nI_leI, nI_ltI, nI_eq, rL, rI, wL, wI, ob, aLet, nI_add, pk_mul, ↓reduceIte, if_true, if_false, eq_self, Nat.reduceEqDiff, Nat.reduceLeDiff, Nat.reduceLT, Nat.one_ne_zero, Nat.zero_ne_one, Nat.add_zero, Bool.false_eq_true, nI_neq, Nat.le_refl], hM⟩) 36 0 aFu (sI (sI m 20 (nI 0)) 21 (nI 0)) rfl (by decide) ⟨Fr_I (Fr_I (Fr_refl m) (by omega)) (by omega), rfl, rfl, fun r hr => absurd hr (by omega)⟩
  have mR : RR d m M (0, (fun _ => 0), 0) := m2
  obtain ⟨Z, z1, z2⟩ : ∃ Z', X9_holdings_L84 (nI n) (nI i) (nI h) aFu (nI 0) M = some Z' ∧ RR d m Z' (rn (fun v l => gH d i h v (l.map (nthP (inP d)))) n [] 0 (cn (inP d) 36) (0, (fun _ => 0), 0)) := by
    rcases (show n = 1 ∨ n = 2 ∨ n = 3 by omega) with rfl | rfl | rfl
    · exact r_h1 ok hf hi (by omega) mR
    · exact r_h2 ok hf hi (by omega) mR
    · exact r_h3 ok hf hi (by omega) mR
  have al := rn_all d i h (nthP (inP d)) n [] (cn (inP d) 36) 0 (0, (fun _ => 0), 0)
  have ft := rn_fit d i h (nthP (inP d)) n [] (cn (inP d) 36) 0 (0, (fun _ => 0), 0) (Nat.le_refl 0) (fun p => Nat.le_refl 0)
  have nwl : nw n (cn (inP d) 36) ≤ 7140 := by
    rcases (show n = 1 ∨ n = 2 ∨ n = 3 by omega) with rfl | rfl | rfl
    · exact (nw_step _ (by omega) 0 (by omega)).2.2
    · exact (nw_step _ (by omega) 1 (by omega)).2.2
    · exact (nw_step _ (by omega) 2 (by omega)).2.2
  generalize (rn (fun v l => gH d i h v (l.map (nthP (inP d)))) n [] 0 (cn (inP d) 36) (0, (fun _ => 0), 0)) = v at *
  have al : v.2.2 = nw n (cn (inP d) 36) := by
    rw [al]
    show 0 + _ = _
    rw [Nat.zero_add]
  have f8 : v.1 ≤ 8000 := by omega
  have nc := c_next ok hS c2 f8 ft.2
  have nr := r_next ok hf z2 f8 ft.2
  have e20 := z2.2.1
  have e21 := z2.2.2.1
  rw [al] at e21
  rcases (show q = 0 ∨ q = 1 ∨ q = 2 by omega) with rfl | rfl | rfl
  · refine ⟨nI v.1, U', T', Z, ?_, ?_, z2.1⟩
    · have : X6_fitting U' = nI v.1 := c2.2.1
      simp (disch := omega) only [X8_holdings, a, e, g, g2, c1, this, li0, li1, li2, li3, li4, li5, li6, li7, li8, li11, li12, li16, li24, li25, li26, li31, li32, li36, li40, li48, li52, li58, li59, li60, li63, li64, li88, li96, li130, li192, li255, li2208, li2304, li9999, li9, li13, li14, li30, li35, li44, li45, li46, li47, li97, li98, li100, li101, li104, li105, li108, li110, li111, li112, li114, li117, li122, li999999, li1000000, li2147483647, cmp0, cmpl, cmpg, cmple, cmpge, nI_leI, nI_ltI, nI_eq, rL, rI, wL, wI, ob, aLet, nI_add, pk_mul, ↓reduceIte, if_true, if_false, eq_self, Nat.reduceEqDiff, Nat.reduceLeDiff, Nat.reduceLT, Nat.one_ne_zero, Nat.zero_ne_one, Nat.add_zero, Bool.false_eq_true, nI_neq]
    · simp (disch := omega) only [X9_holdings, b, f, k, k2, m1, z1, nr, e20, li0, li1, li2, li3, li4, li5, li6, li7, li8, li11, li12, li16, li24, li25, li26, li31, li32, li36, li40, li48, li52, li58, li59, li60, li63, li64, li88, li96, li130, li192, li255, li2208, li2304, li9999, li9, li13, li14, li30, li35, li44, li45, li46, li47, li97, li98, li100, li101, li104, li105, li108, li110, li111, li112, li114, li117, li122, li999999, li1000000, li2147483647, cmp0, cmpl, cmpg, cmple, cmpge, nI_leI, nI_ltI, nI_eq, rL, rI, wL, wI, ob, aLet, nI_add, pk_mul, ↓reduceIte, if_true, if_false, eq_self, Nat.reduceEqDiff, Nat.reduceLeDiff, Nat.reduceLT, Nat.one_ne_zero, Nat.zero_ne_one, Nat.add_zero, Bool.false_eq_true, nI_neq]
  · refine ⟨nI (nw n (cn (inP d) 36)), U', T', Z, ?_, ?_, z2.1⟩
    · have : X6_inAll U' = nI (nw n (cn (inP d) 36)) := c2.1
      simp (disch := omega) only [X8_holdings, a, e, g, g2, c1, this, li0, li1, li2, li3, li4, li5, li6, li7, li8, li11, li12, li16, li24, li25, li26, li31, li32, li36, li40, li48, li52, li58, li59, li60, li63, li64, li88, li96, li130, li192, li255, li2208, li2304, li9999, li9, li13, li14, li30, li35, li44, li45, li46, li47, li97, li98, li100, li101, li104, li105, li108, li110, li111, li112, li114, li117, li122, li999999, li1000000, li2147483647, cmp0, cmpl, cmpg, cmple, cmpge, nI_leI, nI_ltI, nI_eq, rL, rI, wL, wI, ob, aLet, nI_add, pk_mul, ↓reduceIte, if_true, if_false, eq_self, Nat.reduceEqDiff, Nat.reduceLeDiff, Nat.reduceLT, Nat.one_ne_zero, Nat.zero_ne_one, Nat.add_zero, Bool.false_eq_true, nI_neq]
    · simp (disch := omega) only [X9_holdings, b, f, k, k2, m1, z1, nr, e21, li0, li1, li2, li3, li4, li5, li6, li7, li8, li11, li12, li16, li24, li25, li26, li31, li32, li36, li40, li48, li52, li58, li59, li60, li63, li64, li88, li96, li130, li192, li255, li2208, li2304, li9999, li9, li13, li14, li30, li35, li44, li45, li46, li47, li97, li98, li100, li101, li104, li105, li108, li110, li111, li112, li114, li117, li122, li999999, li1000000, li2147483647, cmp0, cmpl, cmpg, cmple, cmpge, nI_leI, nI_ltI, nI_eq, rL, rI, wL, wI, ob, aLet, nI_add, pk_mul, ↓reduceIte, if_true, if_false, eq_self, Nat.reduceEqDiff, Nat.reduceLeDiff, Nat.reduceLT, Nat.one_ne_zero, Nat.zero_ne_one, Nat.add_zero, Bool.false_eq_true, nI_neq]
  · refine ⟨if v.1 = 0 then -nI 4 else enN (nxt2 d v.1 v.2.1 36), U', T', Z, ?_, ?_, z2.1⟩
    · simp (disch := omega) only [X8_holdings, a, e, g, g2, c1, nc, li0, li1, li2, li3, li4, li5, li6, li7, li8, li11, li12, li16, li24, li25, li26, li31, li32, li36, li40, li48, li52, li58, li59, li60, li63, li64, li88, li96, li130, li192, li255, li2208, li2304, li9999, li9, li13, li14, li30, li35, li44, li45, li46, li47, li97, li98, li100, li101, li104, li105, li108, li110, li111, li112, li114, li117, li122, li999999, li1000000, li2147483647, cmp0, cmpl, cmpg, cmple, cmpge, nI_leI, nI_ltI, nI_eq, rL, rI, wL, wI, ob, aLet, nI_add, pk_mul, ↓reduceIte, if_true, if_false, eq_self, Nat.reduceEqDiff, Nat.reduceLeDiff, Nat.reduceLT, Nat.one_ne_zero, Nat.zero_ne_one, Nat.add_zero, Bool.false_eq_true, nI_neq]
    · by_cases w : v.1 = 0
      · rw [if_pos w] at nr
        rw [if_pos w]
        simp (disch := omega) only [X9_holdings, b, f, k, k2, m1, z1, nr, li0, li1, li2, li3, li4, li5, li6, li7, li8, li11, li12, li16, li24, li25, li26, li31, li32, li36, li40, li48, li52, li58, li59, li60, li63, li64, li88, li96, li130, li192, li255, li2208, li2304, li9999, li9, li13, li14, li30, li35, li44, li45, li46, li47, li97, li98, li100, li101, li104, li105, li108, li110, li111, li112, li114, li117, li122, li999999, li1000000, li2147483647, cmp0, cmpl, cmpg, cmple, cmpge, nI_leI, nI_ltI, nI_eq, rL, rI, wL, wI, ob, aLet, nI_add, pk_mul, ↓reduceIte, if_true, if_false, eq_self, Nat.reduceEqDiff, Nat.reduceLeDiff, Nat.reduceLT, Nat.one_ne_zero, Nat.zero_ne_one, Nat.add_zero, Bool.false_eq_true, nI_neq]
      · rw [if_neg w] at nr
        rw [if_neg w]
        cases y : nxt2 d v.1 v.2.1 36 with
        | none =>
          rw [y] at nr
          simp (disch := omega) only [X9_holdings, b, f, k, k2, m1, z1, nr, enP, enN, li0, li1, li2, li3, li4, li5, li6, li7, li8, li11, li12, li16, li24, li25, li26, li31, li32, li36, li40, li48, li52, li58, li59, li60, li63, li64, li88, li96, li130, li192, li255, li2208, li2304, li9999, li9, li13, li14, li30, li35, li44, li45, li46, li47, li97, li98, li100, li101, li104, li105, li108, li110, li111, li112, li114, li117, li122, li999999, li1000000, li2147483647, cmp0, cmpl, cmpg, cmple, cmpge, nI_leI, nI_ltI, nI_eq, rL, rI, wL, wI, ob, aLet, nI_add, pk_mul, ↓reduceIte, if_true, if_false, eq_self, Nat.reduceEqDiff, Nat.reduceLeDiff, Nat.reduceLT, Nat.one_ne_zero, Nat.zero_ne_one, Nat.add_zero, Bool.false_eq_true, nI_neq]
        | some p =>
          have := nxt_lt y
          rw [y] at nr
          have nn := r_number (p := p) (by omega)
          simp (disch := omega) only [X9_holdings, b, f, k, k2, m1, z1, nr, enP, enN, nn, li0, li1, li2, li3, li4, li5, li6, li7, li8, li11, li12, li16, li24, li25, li26, li31, li32, li36, li40, li48, li52, li58, li59, li60, li63, li64, li88, li96, li130, li192, li255, li2208, li2304, li9999, li9, li13, li14, li30, li35, li44, li45, li46, li47, li97, li98, li100, li101, li104, li105, li108, li110, li111, li112, li114, li117, li122, li999999, li1000000, li2147483647, cmp0, cmpl, cmpg, cmple, cmpge, nI_leI, nI_ltI, nI_eq, rL, rI, wL, wI, ob, aLet, nI_add, pk_mul, ↓reduceIte, if_true, if_false, eq_self, Nat.reduceEqDiff, Nat.reduceLeDiff, Nat.reduceLT, Nat.one_ne_zero, Nat.zero_ne_one, Nat.add_zero, Bool.false_eq_true, nI_neq]
theorem eq_holdings {c : CSt} {m : Rec} (hI : Inv c m) (x1 : Int32) (x2 : Int32) (x3 : Int32) (x4 : Int32) : ∃ (r : Int32) (c1 : CSt) (m1 : Rec), stC_holdings c x1 x2 x3 x4 = some (r, c1) ∧ stM_holdings m x1 x2 x3 x4 = some (r, m1) ∧ Inv c1 m1 := by
  obtain ⟨d, ok, hy, hS, hf⟩ := hI.1
  obtain ⟨r, U', T', m', a, b, hF⟩ := q_holdings (U := c_survey c) (T := c_sets c) ok hS hf x1 x2 x3 x4
  exact ⟨r, _, m', by unfold stC_holdings; rw [a]; rfl, by unfold stM_holdings; rw [b]; rfl, inv_fr hI hF (c_trial c) (c_earlier c) T' U' (c_marriages c) (c_finder c)⟩
