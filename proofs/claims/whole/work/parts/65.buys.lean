/-! buys: all sets in the reference -/
theorem bP_in {d : LD} {i p : Nat} (h : bP d i p = true) : inP d p = true := by
  unfold bP at h
  rw [Bool.and_eq_true] at h
  exact h.1
theorem r_isToBuy {d : LD} {Z : Rec} (ok : okL d) (hf : RowOf d (Z.2.1 0)) {i p : Nat} (hi : i < lH d) (hp : p < 36) : X9_isToBuy Z (nI p) (nI i) = some (if bP d i p = true then nI 1 else nI 0) := by
  have h6 := ok.1
  have e2 := hf.2.2.2.2.2.2.2.2.1 p hp
  have ho := ok.2.2.2.2.2.2.2.2.1 p hp
  unfold bP
  cases q : inP d p
  · have a := isIn0 ok hf hp q
    unfold X9_isToBuy
    simp (disch := omega) only [a, li0, li1, li2, li3, li4, li5, li6, li7, li8, li11, li12, li16, li24, li25, li26, li31, li32, li36, li40, li48, li52, li58, li59, li60, li63, li64, li88, li96, li130, li192, li255, li2208, li2304, li9999, li9, li13, li14, li30, li35, li44, li45, li46, li47, li97, li98, li100, li101, li104, li105, li108, li110, li111, li112, li114, li117, li122, li999999, li1000000, li2147483647, cmp0, cmpl, cmpg, cmple, cmpge, nI_leI, nI_ltI, nI_eq, rL, rI, wL, wI, ob, aLet, nI_add, pk_mul, ↓reduceIte, if_true, if_false, eq_self, Nat.reduceEqDiff, Nat.reduceLeDiff, Nat.reduceLT, Nat.one_ne_zero, Nat.zero_ne_one, Nat.add_zero, Bool.false_eq_true, nI_neq, Bool.false_and]
  · have a := isIn1 ok hf hp q
    unfold X9_isToBuy
    by_cases z : lO d p = i + 1
    · simp (disch := omega) only [a, e2, z, li0, li1, li2, li3, li4, li5, li6, li7, li8, li11, li12, li16, li24, li25, li26, li31, li32, li36, li40, li48, li52, li58, li59, li60, li63, li64, li88, li96, li130, li192, li255, li2208, li2304, li9999, li9, li13, li14, li30, li35, li44, li45, li46, li47, li97, li98, li100, li101, li104, li105, li108, li110, li111, li112, li114, li117, li122, li999999, li1000000, li2147483647, cmp0, cmpl, cmpg, cmple, cmpge, nI_leI, nI_ltI, nI_eq, rL, rI, wL, wI, ob, aLet, nI_add, pk_mul, ↓reduceIte, if_true, if_false, eq_self, Nat.reduceEqDiff, Nat.reduceLeDiff, Nat.reduceLT, Nat.one_ne_zero, Nat.zero_ne_one, Nat.add_zero, Bool.false_eq_true, nI_neq]
      simp
    · simp (disch := omega) only [a, e2, z, li0, li1, li2, li3, li4, li5, li6, li7, li8, li11, li12, li16, li24, li25, li26, li31, li32, li36, li40, li48, li52, li58, li59, li60, li63, li64, li88, li96, li130, li192, li255, li2208, li2304, li9999, li9, li13, li14, li30, li35, li44, li45, li46, li47, li97, li98, li100, li101, li104, li105, li108, li110, li111, li112, li114, li117, li122, li999999, li1000000, li2147483647, cmp0, cmpl, cmpg, cmple, cmpge, nI_leI, nI_ltI, nI_eq, rL, rI, wL, wI, ob, aLet, nI_add, pk_mul, ↓reduceIte, if_true, if_false, eq_self, Nat.reduceEqDiff, Nat.reduceLeDiff, Nat.reduceLT, Nat.one_ne_zero, Nat.zero_ne_one, Nat.add_zero, Bool.false_eq_true, nI_neq]
      simp
theorem toBuy1 {d : LD} {Z : Rec} (ok : okL d) (hf : RowOf d (Z.2.1 0)) {i p : Nat} (hi : i < lH d) (hp : p < 36) (h : bP d i p = true) : X9_isToBuy Z (nI p) (nI i) = some (nI 1) := by
  rw [r_isToBuy ok hf hi hp, if_pos h]
theorem toBuy0 {d : LD} {Z : Rec} (ok : okL d) (hf : RowOf d (Z.2.1 0)) {i p : Nat} (hi : i < lH d) (hp : p < 36) (h : bP d i p = false) : X9_isToBuy Z (nI p) (nI i) = some (nI 0) := by
  rw [r_isToBuy ok hf hi hp, if_neg (by rw [h]; decide)]
/-- what a run over the last place is -/
theorem runB_last {d : LD} {i w : Nat} (l : List Nat) (k S : Nat) (hk : k ≤ S) (v : BS) : run1 (fun v k => gB d i w v ((l ++ [k]).map (nthP (bP d i)))) (S - k) k v = rn (fun v l => gB d i w v (l.map (nthP (bP d i)))) 1 l k (S - k) v := by
  rw [← run_rn (fun v l => gB d i w v (l.map (nthP (bP d i)))) 0 l S (S - k) k v (by omega)]
  have ef : (fun (v : BS) k => rn (fun v l => gB d i w v (l.map (nthP (bP d i)))) 0 (l ++ [k]) (k + 1) (S - (k + 1)) v) = (fun v k => gB d i w v ((l ++ [k]).map (nthP (bP d i)))) := funext fun v => funext fun k => by rw [rn_0]
  rw [ef]
theorem r_b1 {d : LD} {m : Rec} (ok : okL d) (hf : RowOf d (m.2.1 0)) {i w : Nat} (hi : i < lH d) (hw : w < lW d) {Z : Rec} {v : BS} (hR : RT d m 1 Z v) : ∃ Z', X9_buys_L39 (nI i) (nI w) aFu (nI 0) Z = some Z' ∧ RT d m 1 Z' (rn (fun v l => gB d i w v (l.map (nthP (bP d i)))) 1 [] 0 (cn (bP d i) 36) v) := by
  have h6 := ok.1
  have h4 := ok.2.2.2.2.1
  obtain ⟨Z', e1, e2⟩ := ref1 0 (bP d i) (fun v k => gB d i w v (([] ++ [k]).map (nthP (bP d i)))) (RT d m 1) (X9_buys_L39 (nI i) (nI w))
    (fun n Z => by simp (disch := omega) only [X9_buys_L39, li0, li1, li2, li3, li4, li5, li6, li7, li8, li11, li12, li16, li24, li25, li26, li31, li32, li36, li40, li48, li52, li58, li59, li60, li63, li64, li88, li96, li130, li192, li255, li2208, li2304, li9999, li9, li13, li14, li30, li35, li44, li45, li46, li47, li97, li98, li100, li101, li104, li105, li108, li110, li111, li112, li114, li117, li122, li999999, li1000000, li2147483647, cmp0, cmpl, cmpg, cmple, cmpge, nI_leI, nI_ltI, nI_eq, rL, rI, wL, wI, ob, aLet, nI_add, pk_mul, ↓reduceIte, if_true, if_false, eq_self, Nat.reduceEqDiff, Nat.reduceLeDiff, Nat.reduceLT, Nat.one_ne_zero, Nat.zero_ne_one, Nat.add_zero, Bool.false_eq_true, nI_neq, Nat.le_refl])
    (fun n p Z v _ hp hP hR => by
      have hlt : ¬ 36 ≤ p := by omega
      have a := toBuy0 ok (RT_row hf hR) hi hp hP
      refine ⟨Z, ?_, hR⟩
      simp (disch := omega) only [X9_buys_L39, a, li0, li1, li2, li3, li4, li5, li6, li7, li8, li11, li12, li16, li24, li25, li26, li31, li32, li36, li40, li48, li52, li58, li59, li60, li63, li64, li88, li96, li130, li192, li255, li2208, li2304, li9999, li9, li13, li14, li30, li35, li44, li45, li46, li47, li97, li98, li100, li101, li104, li105, li108, li110, li111, li112, li114, li117, li122, li999999, li1000000, li2147483647, cmp0, cmpl, cmpg, cmple, cmpge, nI_leI, nI_ltI, nI_eq, rL, rI, wL, wI, ob, aLet, nI_add, pk_mul, ↓reduceIte, if_true, if_false, eq_self, Nat.reduceEqDiff, Nat.reduceLeDiff, Nat.reduceLT, Nat.one_ne_zero, Nat.zero_ne_one, Nat.add_zero, Bool.false_eq_true, nI_neq, hlt])
    (fun n p Z v _ hp hP hR => by
      have hlt : ¬ 36 ≤ p := by omega
      have a := toBuy1 ok (RT_row hf hR) hi hp hP
      obtain ⟨Z', t1, t2, t3⟩ := r_tryB ok hf (n := 1) hi hw (by omega) (RT_11 hR (upd (Z.2.1 11) 0 (nI p))) (pk := pk3 p 0 0) ⟨fun k hk => by
        obtain rfl : k = 0 := by omega
        exact ⟨hp, bP_in hP⟩, fun j k h1 h2 => by omega⟩ (fun k hk => by
        obtain rfl : k = 0 := by omega
        show upd (Z.2.1 11) 0 (nI p) 0 = nI p
        exact pk_us)
      rw [lst_1] at t2
      have em : ([] ++ [cn (bP d i) p]).map (nthP (bP d i)) = [p] := by
        show [nthP (bP d i) (cn (bP d i) p)] = _
        rw [(nth_of hp hP).2]
      refine ⟨Z', ?_, by rw [em]; exact t2⟩
      simp (disch := omega) only [X9_buys_L39, a, t1, li0, li1, li2, li3, li4, li5, li6, li7, li8, li11, li12, li16, li24, li25, li26, li31, li32, li36, li40, li48, li52, li58, li59, li60, li63, li64, li88, li96, li130, li192, li255, li2208, li2304, li9999, li9, li13, li14, li30, li35, li44, li45, li46, li47, li97, li98, li100, li101, li104, li105, li108, li110, li111, li112, li114, li117, li122, li999999, li1000000, li2147483647, cmp0, cmpl, cmpg, cmple, cmpge, nI_leI, nI_ltI, nI_eq, rL, rI, wL, wI, ob, aLet, nI_add, pk_mul, ↓reduceIte, if_true, if_false, eq_self, Nat.reduceEqDiff, Nat.reduceLeDiff, Nat.reduceLT, Nat.one_ne_zero, Nat.zero_ne_one, Nat.add_zero, Bool.false_eq_true, nI_neq, hlt]) 36 0 aFu Z v (Nat.le_refl 0) rfl (by decide) hR
  have e2 : RT d m 1 Z' (run1 (fun v k => gB d i w v (([] ++ [k]).map (nthP (bP d i)))) (cn (bP d i) 36 - 0) 0 v) := e2
  rw [runB_last _ _ _ (Nat.zero_le _)] at e2
  exact ⟨Z', e1, e2⟩
theorem r_b2i {d : LD} {m : Rec} (ok : okL d) (hf : RowOf d (m.2.1 0)) {i w : Nat} (hi : i < lH d) (hw : w < lW d) {p : Nat} (hp : p < 36) (hP : bP d i p = true) {Z : Rec} {v : BS} (hR : RT d m 2 Z v) : ∃ Z', X9_buys_L93 (nI p) (nI i) (nI w) aFu (nI (p + 1)) Z = some Z' ∧ RT d m 2 Z' (rn (fun v l => gB d i w v (l.map (nthP (bP d i)))) 1 [cn (bP d i) p] (cn (bP d i) p + 1) (cn (bP d i) 36 - (cn (bP d i) p + 1)) v) := by
  have h6 := ok.1
  have h4 := ok.2.2.2.2.1
  have cp := cn_yes (p := bP d i) hP
  have le := cn_mono (bP d i) (show p + 1 ≤ 36 by omega)
  obtain ⟨Z', e1, e2⟩ := ref1 (p + 1) (bP d i) (fun v k => gB d i w v (([cn (bP d i) p] ++ [k]).map (nthP (bP d i)))) (RT d m 2) (fun n j Z => X9_buys_L93 (nI p) (nI i) (nI w) n j Z)
    (fun n Z => by simp (disch := omega) only [X9_buys_L93, li0, li1, li2, li3, li4, li5, li6, li7, li8, li11, li12, li16, li24, li25, li26, li31, li32, li36, li40, li48, li52, li58, li59, li60, li63, li64, li88, li96, li130, li192, li255, li2208, li2304, li9999, li9, li13, li14, li30, li35, li44, li45, li46, li47, li97, li98, li100, li101, li104, li105, li108, li110, li111, li112, li114, li117, li122, li999999, li1000000, li2147483647, cmp0, cmpl, cmpg, cmple, cmpge, nI_leI, nI_ltI, nI_eq, rL, rI, wL, wI, ob, aLet, nI_add, pk_mul, ↓reduceIte, if_true, if_false, eq_self, Nat.reduceEqDiff, Nat.reduceLeDiff, Nat.reduceLT, Nat.one_ne_zero, Nat.zero_ne_one, Nat.add_zero, Bool.false_eq_true, nI_neq, Nat.le_refl])
    (fun n q Z v hb hq hQ hR => by
      have hlt : ¬ 36 ≤ q := by omega
      have a := toBuy1 ok (RT_row hf hR) hi hp hP
      have b := toBuy0 ok (RT_row hf hR) hi hq hQ
      refine ⟨Z, ?_, hR⟩
      simp (disch := omega) only [X9_buys_L93, a, b, li0, li1, li2, li3, li4, li5, li6, li7, li8, li11, li12, li16, li24, li25, li26, li31, li32, li36, li40, li48, li52, li58, li59, li60, li63, li64, li88, li96, li130, li192, li255, li2208, li2304, li9999, li9, li13, li14, li30, li35, li44, li45, li46, li47, li97, li98, li100, li101, li104, li105, li108, li110, li111, li112, li114, li117, li122, li999999, li1000000, li2147483647, cmp0, cmpl, cmpg, cmple, cmpge, nI_leI, nI_ltI, nI_eq, rL, rI, wL, wI, ob, aLet, nI_add, pk_mul, ↓reduceIte, if_true, if_false, eq_self, Nat.reduceEqDiff, Nat.reduceLeDiff, Nat.reduceLT, Nat.one_ne_zero, Nat.zero_ne_one, Nat.add_zero, Bool.false_eq_true, nI_neq, hlt])
    (fun n q Z v hb hq hQ hR => by
      have hlt : ¬ 36 ≤ q := by omega
      have a := toBuy1 ok (RT_row hf hR) hi hp hP
      have b := toBuy1 ok (RT_row hf hR) hi hq hQ
      have g : ∀ f, (sA Z 11 f).2.1 11 = f := fun f => rfl
      obtain ⟨Z', t1, t2, t3⟩ := r_tryB ok hf (n := 2) hi hw (by omega) (RT_11 (RT_11 hR (upd (Z.2.1 11) 0 (nI p))) (upd (upd (Z.2.1 11) 0 (nI p)) 1 (nI q))) (pk := pk3 p q 0) ⟨fun k hk => by
        rcases (show k = 0 ∨ k = 1 by omega) with rfl | rfl
        · exact ⟨hp, bP_in hP⟩
        · exact ⟨hq, bP_in hQ⟩, fun j k h1 h2 => by
        obtain rfl : j = 0 := by omega
        obtain rfl : k = 1 := by omega
        exact hb⟩ (fun k hk => by
        show upd (upd (Z.2.1 11) 0 (nI p)) 1 (nI q) k = nI (pk3 p q 0 k)
        rcases (show k = 0 ∨ k = 1 by omega) with rfl | rfl
        · rw [pk_un (by decide), pk_us]
          rfl
        · exact pk_us)
      rw [lst_2] at t2
      have em : ([cn (bP d i) p] ++ [cn (bP d i) q]).map (nthP (bP d i)) = [p, q] := by
        show [nthP (bP d i) (cn (bP d i) p), nthP (bP d i) (cn (bP d i) q)] = _
        rw [(nth_of hp hP).2, (nth_of hq hQ).2]
      refine ⟨Z', ?_, by rw [em]; exact t2⟩
      simp (disch := omega) only [X9_buys_L93, a, b, g, t1, li0, li1, li2, li3, li4, li5, li6, li7, li8, li11, li12, li16, li24, li25, li26, li31, li32, li36, li40, li48, li52, li58, li59, li60, li63, li64, li88, li96, li130, li192, li255, li2208, li2304, li9999, li9, li13, li14, li30, li35, li44, li45, li46, li47, li97, li98, li100, li101, li104, li105, li108, li110, li111, li112, li114, li117, li122, li999999, li1000000, li2147483647, cmp0, cmpl, cmpg, cmple, cmpge, nI_leI, nI_ltI, nI_eq, rL, rI, wL, wI, ob, aLet, nI_add, pk_mul, ↓reduceIte, if_true, if_false, eq_self, Nat.reduceEqDiff, Nat.reduceLeDiff, Nat.reduceLT, Nat.one_ne_zero, Nat.zero_ne_one, Nat.add_zero, Bool.false_eq_true, nI_neq, hlt]) (36 - (p + 1)) (p + 1) aFu Z v (Nat.le_refl _) (by omega) (by show _ < 100000; omega) hR
  rw [cp, runB_last _ _ _ (by omega)] at e2
  exact ⟨Z', e1, e2⟩
theorem b93_no {d : LD} {Z : Rec} (ok : okL d) (hf : RowOf d (Z.2.1 0)) {i p : Nat} (hi : i < lH d) (hp : p < 36) (h : bP d i p = false) (w : Int32) : X9_buys_L93 (nI p) (nI i) w aFu (nI (p + 1)) Z = some Z := by
  have a := toBuy0 ok hf hi hp h
  exact forUp (fun n j (_ : Unit) => X9_buys_L93 (nI p) (nI i) w n j Z) 36 (fun _ => ()) (some Z) (fun n k hk => by
    have hlt : ¬ 36 ≤ k := by omega
    simp (disch := omega) only [X9_buys_L93, a, li0, li1, li2, li3, li4, li5, li6, li7, li8, li11, li12, li16, li24, li25, li26, li31, li32, li36, li40, li48, li52, li58, li59, li60, li63, li64, li88, li96, li130, li192, li255, li2208, li2304, li9999, li9, li13, li14, li30, li35, li44, li45, li46, li47, li97, li98, li100, li101, li104, li105, li108, li110, li111, li112, li114, li117, li122, li999999, li1000000, li2147483647, cmp0, cmpl, cmpg, cmple, cmpge, nI_leI, nI_ltI, nI_eq, rL, rI, wL, wI, ob, aLet, nI_add, pk_mul, ↓reduceIte, if_true, if_false, eq_self, Nat.reduceEqDiff, Nat.reduceLeDiff, Nat.reduceLT, Nat.one_ne_zero, Nat.zero_ne_one, Nat.add_zero, Bool.false_eq_true, nI_neq, hlt]) (fun n => by simp (disch := omega) only [X9_buys_L93, li0, li1, li2, li3, li4, li5, li6, li7, li8, li11, li12, li16, li24, li25, li26, li31, li32, li36, li40, li48, li52, li58, li59, li60, li63, li64, li88, li96, li130, li192, li255, li2208, li2304, li9999, li9, li13, li14, li30, li35, li44, li45, li46, li47, li97, li98, li100, li101, li104, li105, li108, li110, li111, li112, li114, li117, li122, li999999, li1000000, li2147483647, cmp0, cmpl, cmpg, cmple, cmpge, nI_leI, nI_ltI, nI_eq, rL, rI, wL, wI, ob, aLet, nI_add, pk_mul, ↓reduceIte, if_true, if_false, eq_self, Nat.reduceEqDiff, Nat.reduceLeDiff, Nat.reduceLT, Nat.one_ne_zero, Nat.zero_ne_one, Nat.add_zero, Bool.false_eq_true, nI_neq, Nat.le_refl]) (36 - (p + 1)) (p + 1) aFu (by omega) (by show _ < 100000; omega)
theorem r_b2 {d : LD} {m : Rec} (ok : okL d) (hf : RowOf d (m.2.1 0)) {i w : Nat} (hi : i < lH d) (hw : w < lW d) {Z : Rec} {v : BS} (hR : RT d m 2 Z v) : ∃ Z', X9_buys_L80 (nI i) (nI w) aFu (nI 0) Z = some Z' ∧ RT d m 2 Z' (rn (fun v l => gB d i w v (l.map (nthP (bP d i)))) 2 [] 0 (cn (bP d i) 36) v) := by
  obtain ⟨Z', e1, e2⟩ := ref1 0 (bP d i) (fun v k => rn (fun v l => gB d i w v (l.map (nthP (bP d i)))) 1 ([] ++ [k]) (k + 1) (cn (bP d i) 36 - (k + 1)) v) (RT d m 2) (X9_buys_L80 (nI i) (nI w))
    (fun n Z => by simp (disch := omega) only [X9_buys_L80, li0, li1, li2, li3, li4, li5, li6, li7, li8, li11, li12, li16, li24, li25, li26, li31, li32, li36, li40, li48, li52, li58, li59, li60, li63, li64, li88, li96, li130, li192, li255, li2208, li2304, li9999, li9, li13, li14, li30, li35, li44, li45, li46, li47, li97, li98, li100, li101, li104, li105, li108, li110, li111, li112, li114, li117, li122, li999999, li1000000, li2147483647, cmp0, cmpl, cmpg, cmple, cmpge, nI_leI, nI_ltI, nI_eq, rL, rI, wL, wI, ob, aLet, nI_add, pk_mul, ↓reduceIte, if_true, if_false, eq_self, Nat.reduceEqDiff, Nat.reduceLeDiff, Nat.reduceLT, Nat.one_ne_zero, Nat.zero_ne_one, Nat.add_zero, Bool.false_eq_true, nI_neq, Nat.le_refl])
    (fun n p Z v _ hp hP hR => by
      have hlt : ¬ 36 ≤ p := by omega
      have t := b93_no ok (RT_row hf hR) hi hp hP (nI w)
      refine ⟨Z, ?_, hR⟩
      simp (disch := omega) only [X9_buys_L80, t, li0, li1, li2, li3, li4, li5, li6, li7, li8, li11, li12, li16, li24, li25, li26, li31, li32, li36, li40, li48, li52, li58, li59, li60, li63, li64, li88, li96, li130, li192, li255, li2208, li2304, li9999, li9, li13, li14, li30, li35, li44, li45, li46, li47, li97, li98, li100, li101, li104, li105, li108, li110, li111, li112, li114, li117, li122, li999999, li1000000, li2147483647, cmp0, cmpl, cmpg, cmple, cmpge, nI_leI, nI_ltI, nI_eq, rL, rI, wL, wI, ob, aLet, nI_add, pk_mul, ↓reduceIte, if_true, if_false, eq_self, Nat.reduceEqDiff, Nat.reduceLeDiff, Nat.reduceLT, Nat.one_ne_zero, Nat.zero_ne_one, Nat.add_zero, Bool.false_eq_true, nI_neq, hlt])
    (fun n p Z v _ hp hP hR => by
      have hlt : ¬ 36 ≤ p := by omega
      obtain ⟨Z', t1, t2⟩ := r_b2i ok hf hi hw hp hP hR
      refine ⟨Z', ?_, t2⟩
      simp (disch := omega) only [X9_buys_L80, t1, li0, li1, li2, li3, li4, li5, li6, li7, li8, li11, li12, li16, li24, li25, li26, li31, li32, li36, li40, li48, li52, li58, li59, li60, li63, li64, li88, li96, li130, li192, li255, li2208, li2304, li9999, li9, li13, li14, li30, li35, li44, li45, li46, li47, li97, li98, li100, li101, li104, li105, li108, li110, li111, li112, li114, li117, li122, li999999, li1000000, li2147483647, cmp0, cmpl, cmpg, cmple, cmpge, nI_leI, nI_ltI, nI_eq, rL, rI, wL, wI, ob, aLet, nI_add, pk_mul, ↓reduceIte, if_true, if_false, eq_self, Nat.reduceEqDiff, Nat.reduceLeDiff, Nat.reduceLT, Nat.one_ne_zero, Nat.zero_ne_one, Nat.add_zero, Bool.false_eq_true, nI_neq, hlt]) 36 0 aFu Z v (Nat.le_refl 0) rfl (by decide) hR
  have e2 : RT d m 2 Z' (run1 (fun v k => rn (fun v l => gB d i w v (l.map (nthP (bP d i)))) 1 ([] ++ [k]) (k + 1) (cn (bP d i) 36 - (k + 1)) v) (cn (bP d i) 36) 0 v) := e2
  rw [run_rn (fun v l => gB d i w v (l.map (nthP (bP d i)))) 1 [] (cn (bP d i) 36) (cn (bP d i) 36) 0 v (by omega)] at e2
  exact ⟨Z', e1, e2⟩
theorem r_b3i {d : LD} {m : Rec} (ok : okL d) (hf : RowOf d (m.2.1 0)) {i w : Nat} (hi : i < lH d) (hw : w < lW d) {p q : Nat} (hp : p < 36) (hP : bP d i p = true) (hpq : p < q) (hq : q < 36) (hQ : bP d i q = true) {Z : Rec} {v : BS} (hR : RT d m 3 Z v) : ∃ Z', X9_buys_L184 (nI p) (nI i) (nI q) (nI w) aFu (nI (q + 1)) Z = some Z' ∧ RT d m 3 Z' (rn (fun v l => gB d i w v (l.map (nthP (bP d i)))) 1 [cn (bP d i) p, cn (bP d i) q] (cn (bP d i) q + 1) (cn (bP d i) 36 - (cn (bP d i) q + 1)) v) := by
  have h6 := ok.1
  have h4 := ok.2.2.2.2.1
  have cp := cn_yes (p := bP d i) hQ
  have le := cn_mono (bP d i) (show q + 1 ≤ 36 by omega)
  obtain ⟨Z', e1, e2⟩ := ref1 (q + 1) (bP d i) (fun v k => gB d i w v (([cn (bP d i) p, cn (bP d i) q] ++ [k]).map (nthP (bP d i)))) (RT d m 3) (fun n j Z => X9_buys_L184 (nI p) (nI i) (nI q) (nI w) n j Z)
    (fun n Z => by simp (disch := omega) only [X9_buys_L184, li0, li1, li2, li3, li4, li5, li6, li7, li8, li11, li12, li16, li24, li25, li26, li31, li32, li36, li40, li48, li52, li58, li59, li60, li63, li64, li88, li96, li130, li192, li255, li2208, li2304, li9999, li9, li13, li14, li30, li35, li44, li45, li46, li47, li97, li98, li100, li101, li104, li105, li108, li110, li111, li112, li114, li117, li122, li999999, li1000000, li2147483647, cmp0, cmpl, cmpg, cmple, cmpge, nI_leI, nI_ltI, nI_eq, rL, rI, wL, wI, ob, aLet, nI_add, pk_mul, ↓reduceIte, if_true, if_false, eq_self, Nat.reduceEqDiff, Nat.reduceLeDiff, Nat.reduceLT, Nat.one_ne_zero, Nat.zero_ne_one, Nat.add_zero, Bool.false_eq_true, nI_neq, Nat.le_refl])
    (fun n r Z v hb hr hr2 hR => by
      have hlt : ¬ 36 ≤ r := by omega
      have a := toBuy1 ok (RT_row hf hR) hi hp hP
      have a2 := toBuy1 ok (RT_row hf hR) hi hq hQ
      have b := toBuy0 ok (RT_row hf hR) hi hr hr2
      refine ⟨Z, ?_, hR⟩
      simp (disch := omega) only [X9_buys_L184, a, a2, b, li0, li1, li2, li3, li4, li5, li6, li7, li8, li11, li12, li16, li24, li25, li26, li31, li32, li36, li40, li48, li52, li58, li59, li60, li63, li64, li88, li96, li130, li192, li255, li2208, li2304, li9999, li9, li13, li14, li30, li35, li44, li45, li46, li47, li97, li98, li100, li101, li104, li105, li108, li110, li111, li112, li114, li117, li122, li999999, li1000000, li2147483647, cmp0, cmpl, cmpg, cmple, cmpge, nI_leI, nI_ltI, nI_eq, rL, rI, wL, wI, ob, aLet, nI_add, pk_mul, ↓reduceIte, if_true, if_false, eq_self, Nat.reduceEqDiff, Nat.reduceLeDiff, Nat.reduceLT, Nat.one_ne_zero, Nat.zero_ne_one, Nat.add_zero, Bool.false_eq_true, nI_neq, hlt])
    (fun n r Z v hb hr hr2 hR => by
      have hlt : ¬ 36 ≤ r := by omega
      have a := toBuy1 ok (RT_row hf hR) hi hp hP
      have a2 := toBuy1 ok (RT_row hf hR) hi hq hQ
      have b := toBuy1 ok (RT_row hf hR) hi hr hr2
      have g : ∀ Y f, (sA Y 11 f).2.1 11 = f := fun Y f => rfl
      obtain ⟨Z', t1, t2, t3⟩ := r_tryB ok hf (n := 3) hi hw (by omega) (RT_11 (RT_11 (RT_11 hR (upd (Z.2.1 11) 0 (nI p))) (upd (upd (Z.2.1 11) 0 (nI p)) 1 (nI q))) (upd (upd (upd (Z.2.1 11) 0 (nI p)) 1 (nI q)) 2 (nI r))) (pk := pk3 p q r) ⟨fun k hk => by
        rcases (show k = 0 ∨ k = 1 ∨ k = 2 by omega) with rfl | rfl | rfl
        · exact ⟨hp, bP_in hP⟩
        · exact ⟨hq, bP_in hQ⟩
        · exact ⟨hr, bP_in hr2⟩, fun j k h1 h2 => by
        unfold pk3
        rcases (show (j = 0 ∧ k = 1) ∨ (j = 0 ∧ k = 2) ∨ (j = 1 ∧ k = 2) by omega) with ⟨rfl, rfl⟩ | ⟨rfl, rfl⟩ | ⟨rfl, rfl⟩
        · exact hpq
        · show p < r
          omega
        · show q < r
          omega⟩ (fun k hk => by
        show upd (upd (upd (Z.2.1 11) 0 (nI p)) 1 (nI q)) 2 (nI r) k = nI (pk3 p q r k)
        rcases (show k = 0 ∨ k = 1 ∨ k = 2 by omega) with rfl | rfl | rfl
        · rw [pk_un (by decide), pk_un (by decide), pk_us]
          rfl
        · rw [pk_un (by decide), pk_us]
          rfl
        · exact pk_us)
      rw [lst_3] at t2
      have em : ([cn (bP d i) p, cn (bP d i) q] ++ [cn (bP d i) r]).map (nthP (bP d i)) = [p, q, r] := by
        show [nthP (bP d i) (cn (bP d i) p), nthP (bP d i) (cn (bP d i) q), nthP (bP d i) (cn (bP d i) r)] = _
        rw [(nth_of hp hP).2, (nth_of hq hQ).2, (nth_of hr hr2).2]
      refine ⟨Z', ?_, by rw [em]; exact t2⟩
      simp (disch := omega) only [X9_buys_L184, a, a2, b, g, t1, li0, li1, li2, li3, li4, li5, li6, li7, li8, li11, li12, li16, li24, li25, li26, li31, li32, li36, li40, li48, li52, li58, li59, li60, li63, li64, li88, li96, li130, li192, li255, li2208, li2304, li9999, li9, li13, li14, li30, li35, li44, li45, li46, li47, li97, li98, li100, li101, li104, li105, li108, li110, li111, li112, li114, li117, li122, li999999, li1000000, li2147483647, cmp0, cmpl, cmpg, cmple, cmpge, nI_leI, nI_ltI, nI_eq, rL, rI, wL, wI, ob, aLet, nI_add, pk_mul, ↓reduceIte, if_true, if_false, eq_self, Nat.reduceEqDiff, Nat.reduceLeDiff, Nat.reduceLT, Nat.one_ne_zero, Nat.zero_ne_one, Nat.add_zero, Bool.false_eq_true, nI_neq, hlt]) (36 - (q + 1)) (q + 1) aFu Z v (Nat.le_refl _) (by omega) (by show _ < 100000; omega) hR
  rw [cp, runB_last _ _ _ (by omega)] at e2
  exact ⟨Z', e1, e2⟩
theorem b184_no {d : LD} {Z : Rec} (ok : okL d) (hf : RowOf d (Z.2.1 0)) {i p q : Nat} (hi : i < lH d) (hp : p < 36) (hq : q < 36) (h : bP d i p = false ∨ bP d i q = false) (w v : Int32) (f : Nat) : X9_buys_L184 (nI p) (nI i) (nI q) w (f + 1) v Z = some Z := by
  rw [X9_buys_L184]
  by_cases z : (36 : Int32) ≤ v
  · rw [if_pos z]
  · rw [if_neg z]
    cases y : bP d i p
    · rw [toBuy0 ok hf hi hp y, ob, if_pos (show nI 0 = (0 : Int32) from rfl)]
    · have y2 : bP d i q = false := by
        rcases h with h | h
        · rw [y] at h
          cases h
        · exact h
      rw [toBuy1 ok hf hi hp y, ob, if_neg (show ¬ nI 1 = (0 : Int32) by decide), toBuy0 ok hf hi hq y2, ob, if_pos (show nI 0 = (0 : Int32) from rfl)]
theorem r_b3j {d : LD} {m : Rec} (ok : okL d) (hf : RowOf d (m.2.1 0)) {i w : Nat} (hi : i < lH d) (hw : w < lW d) {p : Nat} (hp : p < 36) (hP : bP d i p = true) {Z : Rec} {v : BS} (hR : RT d m 3 Z v) : ∃ Z', X9_buys_L171 (nI p) (nI i) (nI w) aFu (nI (p + 1)) Z = some Z' ∧ RT d m 3 Z' (rn (fun v l => gB d i w v (l.map (nthP (bP d i)))) 2 [cn (bP d i) p] (cn (bP d i) p + 1) (cn (bP d i) 36 - (cn (bP d i) p + 1)) v) := by
  have cp := cn_yes (p := bP d i) hP
  have le := cn_mono (bP d i) (show p + 1 ≤ 36 by omega)
  obtain ⟨Z', e1, e2⟩ := ref1 (p + 1) (bP d i) (fun v k => rn (fun v l => gB d i w v (l.map (nthP (bP d i)))) 1 ([cn (bP d i) p] ++ [k]) (k + 1) (cn (bP d i) 36 - (k + 1)) v) (RT d m 3) (fun n j Z => X9_buys_L171 (nI p) (nI i) (nI w) n j Z)
    (fun n Z => by simp (disch := omega) only [X9_buys_L171, li0, li1, li2, li3, li4, li5, li6, li7, li8, li11, li12, li16, li24, li25, li26, li31, li32, li36, li40, li48, li52, li58, li59, li60, li63, li64, li88, li96, li130, li192, li255, li2208, li2304, li9999, li9, li13, li14, li30, li35, li44, li45, li46, li47, li97, li98, li100, li101, li104, li105, li108, li110, li111, li112, li114, li117, li122, li999999, li1000000, li2147483647, cmp0, cmpl, cmpg, cmple, cmpge, nI_leI, nI_ltI, nI_eq, rL, rI, wL, wI, ob, aLet, nI_add, pk_mul, ↓reduceIte, if_true, if_false, eq_self, Nat.reduceEqDiff, Nat.reduceLeDiff, Nat.reduceLT, Nat.one_ne_zero, Nat.zero_ne_one, Nat.add_zero, Bool.false_eq_true, nI_neq, Nat.le_refl])
    (fun n q Z v hb hq hQ hR => by
      have hlt : ¬ 36 ≤ q := by omega
      have t := b184_no ok (RT_row hf hR) hi hp hq (Or.inr hQ) (nI w) (nI (q + 1)) 99999
      rw [← afu] at t
      refine ⟨Z, ?_, hR⟩
      simp (disch := omega) only [X9_buys_L171, t, li0, li1, li2, li3, li4, li5, li6, li7, li8, li11, li12, li16, li24, li25, li26, li31, li32, li36, li40, li48, li52, li58, li59, li60, li63, li64, li88, li96, li130, li192, li255, li2208, li2304, li9999, li9, li13, li14, li30, li35, li44, li45, li46, li47, li97, li98, li100, li101, li104, li105, li108, li110, li111, li112, li114, li117, li122, li999999, li1000000, li2147483647, cmp0, cmpl, cmpg, cmple, cmpge, nI_leI, nI_ltI, nI_eq, rL, rI, wL, wI, ob, aLet, nI_add, pk_mul, ↓reduceIte, if_true, if_false, eq_self, Nat.reduceEqDiff, Nat.reduceLeDiff, Nat.reduceLT, Nat.one_ne_zero, Nat.zero_ne_one, Nat.add_zero, Bool.false_eq_true, nI_neq, hlt])
    (fun n q Z v hb hq hQ hR => by
      have hlt : ¬ 36 ≤ q := by omega
      obtain ⟨Z', t1, t2⟩ := r_b3i ok hf hi hw hp hP hb hq hQ hR
      refine ⟨Z', ?_, t2⟩
      simp (disch := omega) only [X9_buys_L171, t1, li0, li1, li2, li3, li4, li5, li6, li7, li8, li11, li12, li16, li24, li25, li26, li31, li32, li36, li40, li48, li52, li58, li59, li60, li63, li64, li88, li96, li130, li192, li255, li2208, li2304, li9999, li9, li13, li14, li30, li35, li44, li45, li46, li47, li97, li98, li100, li101, li104, li105, li108, li110, li111, li112, li114, li117, li122, li999999, li1000000, li2147483647, cmp0, cmpl, cmpg, cmple, cmpge, nI_leI, nI_ltI, nI_eq, rL, rI, wL, wI, ob, aLet, nI_add, pk_mul, ↓reduceIte, if_true, if_false, eq_self, Nat.reduceEqDiff, Nat.reduceLeDiff, Nat.reduceLT, Nat.one_ne_zero, Nat.zero_ne_one, Nat.add_zero, Bool.false_eq_true, nI_neq, hlt]) (36 - (p + 1)) (p + 1) aFu Z v (Nat.le_refl _) (by omega) (by show _ < 100000; omega) hR
  rw [cp, run_rn (fun v l => gB d i w v (l.map (nthP (bP d i)))) 1 [cn (bP d i) p] (cn (bP d i) 36) _ _ v (by omega)] at e2
  exact ⟨Z', e1, e2⟩
theorem b171_no {d : LD} {Z : Rec} (ok : okL d) (hf : RowOf d (Z.2.1 0)) {i p : Nat} (hi : i < lH d) (hp : p < 36) (h : bP d i p = false) (w : Int32) : X9_buys_L171 (nI p) (nI i) w aFu (nI (p + 1)) Z = some Z := by
  exact forUp (fun n j (_ : Unit) => X9_buys_L171 (nI p) (nI i) w n j Z) 36 (fun _ => ()) (some Z) (fun n k hk => by
    have hlt : ¬ 36 ≤ k := by omega
    have t := b184_no ok hf hi hp hk (Or.inl h) w (nI (k + 1)) 99999
    rw [← afu] at t
    simp (disch := omega) only [X9_buys_L171, t, li0, li1, li2, li3, li4, li5, li6, li7, li8, li11, li12, li16, li24, li25, li26, li31, li32, li36, li40, li48, li52, li58, li59, li60, li63, li64, li88, li96, li130, li192, li255, li2208, li2304, li9999, li9, li13, li14, li30, li35, li44, li45, li46, li47, li97, li98, li100, li101, li104, li105, li108, li110, li111, li112, li114, li117, li122, li999999, li1000000, li2147483647, cmp0, cmpl, cmpg, cmple, cmpge, nI_leI, nI_ltI, nI_eq, rL, rI, wL, wI, ob, aLet, nI_add, pk_mul, ↓reduceIte, if_true, if_false, eq_self, Nat.reduceEqDiff, Nat.reduceLeDiff, Nat.reduceLT, Nat.one_ne_zero, Nat.zero_ne_one, Nat.add_zero, Bool.false_eq_true, nI_neq, hlt]) (fun n => by simp (disch := omega) only [X9_buys_L171, li0, li1, li2, li3, li4, li5, li6, li7, li8, li11, li12, li16, li24, li25, li26, li31, li32, li36, li40, li48, li52, li58, li59, li60, li63, li64, li88, li96, li130, li192, li255, li2208, li2304, li9999, li9, li13, li14, li30, li35, li44, li45, li46, li47, li97, li98, li100, li101, li104, li105, li108, li110, li111, li112, li114, li117, li122, li999999, li1000000, li2147483647, cmp0, cmpl, cmpg, cmple, cmpge, nI_leI, nI_ltI, nI_eq, rL, rI, wL, wI, ob, aLet, nI_add, pk_mul, ↓reduceIte, if_true, if_false, eq_self, Nat.reduceEqDiff, Nat.reduceLeDiff, Nat.reduceLT, Nat.one_ne_zero, Nat.zero_ne_one, Nat.add_zero, Bool.false_eq_true, nI_neq, Nat.le_refl]) (36 - (p + 1)) (p + 1) aFu (by omega) (by show _ < 100000; omega)
theorem r_b3 {d : LD} {m : Rec} (ok : okL d) (hf : RowOf d (m.2.1 0)) {i w : Nat} (hi : i < lH d) (hw : w < lW d) {Z : Rec} {v : BS} (hR : RT d m 3 Z v) : ∃ Z', X9_buys_L158 (nI i) (nI w) aFu (nI 0) Z = some Z' ∧ RT d m 3 Z' (rn (fun v l => gB d i w v (l.map (nthP (bP d i)))) 3 [] 0 (cn (bP d i) 36) v) := by
  obtain ⟨Z', e1, e2⟩ := ref1 0 (bP d i) (fun v k => rn (fun v l => gB d i w v (l.map (nthP (bP d i)))) 2 ([] ++ [k]) (k + 1) (cn (bP d i) 36 - (k + 1)) v) (RT d m 3) (X9_buys_L158 (nI i) (nI w))
    (fun n Z => by simp (disch := omega) only [X9_buys_L158, li0, li1, li2, li3, li4, li5, li6, li7, li8, li11, li12, li16, li24, li25, li26, li31, li32, li36, li40, li48, li52, li58, li59, li60, li63, li64, li88, li96, li130, li192, li255, li2208, li2304, li9999, li9, li13, li14, li30, li35, li44, li45, li46, li47, li97, li98, li100, li101, li104, li105, li108, li110, li111, li112, li114, li117, li122, li999999, li1000000, li2147483647, cmp0, cmpl, cmpg, cmple, cmpge, nI_leI, nI_ltI, nI_eq, rL, rI, wL, wI, ob, aLet, nI_add, pk_mul, ↓reduceIte, if_true, if_false, eq_self, Nat.reduceEqDiff, Nat.reduceLeDiff, Nat.reduceLT, Nat.one_ne_zero, Nat.zero_ne_one, Nat.add_zero, Bool.false_eq_true, nI_neq, Nat.le_refl])
    (fun n p Z v _ hp hP hR => by
      have hlt : ¬ 36 ≤ p := by omega
      have t := b171_no ok (RT_row hf hR) hi hp hP (nI w)
      refine ⟨Z, ?_, hR⟩
      simp (disch := omega) only [X9_buys_L158, t, li0, li1, li2, li3, li4, li5, li6, li7, li8, li11, li12, li16, li24, li25, li26, li31, li32, li36, li40, li48, li52, li58, li59, li60, li63, li64, li88, li96, li130, li192, li255, li2208, li2304, li9999, li9, li13, li14, li30, li35, li44, li45, li46, li47, li97, li98, li100, li101, li104, li105, li108, li110, li111, li112, li114, li117, li122, li999999, li1000000, li2147483647, cmp0, cmpl, cmpg, cmple, cmpge, nI_leI, nI_ltI, nI_eq, rL, rI, wL, wI, ob, aLet, nI_add, pk_mul, ↓reduceIte, if_true, if_false, eq_self, Nat.reduceEqDiff, Nat.reduceLeDiff, Nat.reduceLT, Nat.one_ne_zero, Nat.zero_ne_one, Nat.add_zero, Bool.false_eq_true, nI_neq, hlt])
    (fun n p Z v _ hp hP hR => by
      have hlt : ¬ 36 ≤ p := by omega
      obtain ⟨Z', t1, t2⟩ := r_b3j ok hf hi hw hp hP hR
      refine ⟨Z', ?_, t2⟩
      simp (disch := omega) only [X9_buys_L158, t1, li0, li1, li2, li3, li4, li5, li6, li7, li8, li11, li12, li16, li24, li25, li26, li31, li32, li36, li40, li48, li52, li58, li59, li60, li63, li64, li88, li96, li130, li192, li255, li2208, li2304, li9999, li9, li13, li14, li30, li35, li44, li45, li46, li47, li97, li98, li100, li101, li104, li105, li108, li110, li111, li112, li114, li117, li122, li999999, li1000000, li2147483647, cmp0, cmpl, cmpg, cmple, cmpge, nI_leI, nI_ltI, nI_eq, rL, rI, wL, wI, ob, aLet, nI_add, pk_mul, ↓reduceIte, if_true, if_false, eq_self, Nat.reduceEqDiff, Nat.reduceLeDiff, Nat.reduceLT, Nat.one_ne_zero, Nat.zero_ne_one, Nat.add_zero, Bool.false_eq_true, nI_neq, hlt]) 36 0 aFu Z v (Nat.le_refl 0) rfl (by decide) hR
  have e2 : RT d m 3 Z' (run1 (fun v k => rn (fun v l => gB d i w v (l.map (nthP (bP d i)))) 2 ([] ++ [k]) (k + 1) (cn (bP d i) 36 - (k + 1)) v) (cn (bP d i) 36) 0 v) := e2
  rw [run_rn (fun v l => gB d i w v (l.map (nthP (bP d i)))) 2 [] (cn (bP d i) 36) (cn (bP d i) 36) 0 v (by omega)] at e2
  exact ⟨Z', e1, e2⟩
theorem q_buys {d : LD} {S T m : Rec} (ok : okL d) (hS : LandOf d S) (hf : RowOf d (m.2.1 0)) (x1 x2 x3 : Int32) : ∃ r T' m', X8_buys S T x1 x2 x3 = some (r, T') ∧ X9_buys m x1 x2 x3 = some (r, m') ∧ Fr m m' := by
  have h6 := ok.1
  have h4 := ok.2.2.2.2.1
  rcases hcase ok hS hf x1 with ⟨a, b⟩ | ⟨i, hi, rfl, a, b⟩
  · refine ⟨-nI 1, T, m, ?_, ?_, Fr_refl m⟩
    · simp (disch := omega) only [X8_buys, a, li0, li1, li2, li3, li4, li5, li6, li7, li8, li11, li12, li16, li24, li25, li26, li31, li32, li36, li40, li48, li52, li58, li59, li60, li63, li64, li88, li96, li130, li192, li255, li2208, li2304, li9999, li9, li13, li14, li30, li35, li44, li45, li46, li47, li97, li98, li100, li101, li104, li105, li108, li110, li111, li112, li114, li117, li122, li999999, li1000000, li2147483647, cmp0, cmpl, cmpg, cmple, cmpge, nI_leI, nI_ltI, nI_eq, rL, rI, wL, wI, ob, aLet, nI_add, pk_mul, ↓reduceIte, if_true, if_false, eq_self, Nat.reduceEqDiff, Nat.reduceLeDiff, Nat.reduceLT, Nat.one_ne_zero, Nat.zero_ne_one, Nat.add_zero, Bool.false_eq_true, nI_neq]
    · simp (disch := omega) only [X9_buys, b, li0, li1, li2, li3, li4, li5, li6, li7, li8, li11, li12, li16, li24, li25, li26, li31, li32, li36, li40, li48, li52, li58, li59, li60, li63, li64, li88, li96, li130, li192, li255, li2208, li2304, li9999, li9, li13, li14, li30, li35, li44, li45, li46, li47, li97, li98, li100, li101, li104, li105, li108, li110, li111, li112, li114, li117, li122, li999999, li1000000, li2147483647, cmp0, cmpl, cmpg, cmple, cmpge, nI_leI, nI_ltI, nI_eq, rL, rI, wL, wI, ob, aLet, nI_add, pk_mul, ↓reduceIte, if_true, if_false, eq_self, Nat.reduceEqDiff, Nat.reduceLeDiff, Nat.reduceLT, Nat.one_ne_zero, Nat.zero_ne_one, Nat.add_zero, Bool.false_eq_true, nI_neq]
  rcases wcase ok hS hf x2 with ⟨e, f⟩ | ⟨w, hw, rfl, e, f⟩
  · refine ⟨-nI 1, T, m, ?_, ?_, Fr_refl m⟩
    · simp (disch := omega) only [X8_buys, a, e, li0, li1, li2, li3, li4, li5, li6, li7, li8, li11, li12, li16, li24, li25, li26, li31, li32, li36, li40, li48, li52, li58, li59, li60, li63, li64, li88, li96, li130, li192, li255, li2208, li2304, li9999, li9, li13, li14, li30, li35, li44, li45, li46, li47, li97, li98, li100, li101, li104, li105, li108, li110, li111, li112, li114, li117, li122, li999999, li1000000, li2147483647, cmp0, cmpl, cmpg, cmple, cmpge, nI_leI, nI_ltI, nI_eq, rL, rI, wL, wI, ob, aLet, nI_add, pk_mul, ↓reduceIte, if_true, if_false, eq_self, Nat.reduceEqDiff, Nat.reduceLeDiff, Nat.reduceLT, Nat.one_ne_zero, Nat.zero_ne_one, Nat.add_zero, Bool.false_eq_true, nI_neq]
    · simp (disch := omega) only [X9_buys, b, f, li0, li1, li2, li3, li4, li5, li6, li7, li8, li11, li12, li16, li24, li25, li26, li31, li32, li36, li40, li48, li52, li58, li59, li60, li63, li64, li88, li96, li130, li192, li255, li2208, li2304, li9999, li9, li13, li14, li30, li35, li44, li45, li46, li47, li97, li98, li100, li101, li104, li105, li108, li110, li111, li112, li114, li117, li122, li999999, li1000000, li2147483647, cmp0, cmpl, cmpg, cmple, cmpge, nI_leI, nI_ltI, nI_eq, rL, rI, wL, wI, ob, aLet, nI_add, pk_mul, ↓reduceIte, if_true, if_false, eq_self, Nat.reduceEqDiff, Nat.reduceLeDiff, Nat.reduceLT, Nat.one_ne_zero, Nat.zero_ne_one, Nat.add_zero, Bool.false_eq_true, nI_neq]
  by_cases h1 : ¬ -nI 1 ≤ x3
  · refine ⟨-nI 1, T, m, ?_, ?_, Fr_refl m⟩
    · simp (disch := omega) only [X8_buys, a, e, h1, li0, li1, li2, li3, li4, li5, li6, li7, li8, li11, li12, li16, li24, li25, li26, li31, li32, li36, li40, li48, li52, li58, li59, li60, li63, li64, li88, li96, li130, li192, li255, li2208, li2304, li9999, li9, li13, li14, li30, li35, li44, li45, li46, li47, li97, li98, li100, li101, li104, li105, li108, li110, li111, li112, li114, li117, li122, li999999, li1000000, li2147483647, cmp0, cmpl, cmpg, cmple, cmpge, nI_leI, nI_ltI, nI_eq, rL, rI, wL, wI, ob, aLet, nI_add, pk_mul, ↓reduceIte, if_true, if_false, eq_self, Nat.reduceEqDiff, Nat.reduceLeDiff, Nat.reduceLT, Nat.one_ne_zero, Nat.zero_ne_one, Nat.add_zero, Bool.false_eq_true, nI_neq]
    · simp (disch := omega) only [X9_buys, b, f, h1, li0, li1, li2, li3, li4, li5, li6, li7, li8, li11, li12, li16, li24, li25, li26, li31, li32, li36, li40, li48, li52, li58, li59, li60, li63, li64, li88, li96, li130, li192, li255, li2208, li2304, li9999, li9, li13, li14, li30, li35, li44, li45, li46, li47, li97, li98, li100, li101, li104, li105, li108, li110, li111, li112, li114, li117, li122, li999999, li1000000, li2147483647, cmp0, cmpl, cmpg, cmple, cmpge, nI_leI, nI_ltI, nI_eq, rL, rI, wL, wI, ob, aLet, nI_add, pk_mul, ↓reduceIte, if_true, if_false, eq_self, Nat.reduceEqDiff, Nat.reduceLeDiff, Nat.reduceLT, Nat.one_ne_zero, Nat.zero_ne_one, Nat.add_zero, Bool.false_eq_true, nI_neq]
  have h1 : -nI 1 ≤ x3 := Decidable.not_not.mp h1
  have kE := (hS.2.2.2.2.2.2.2.2.2 w hw).2
  obtain ⟨acc, T', c1, c2⟩ := c_cheapest (T := T) ok hS hi hw
  -- the reference
  obtain ⟨Z0, z1, z2, -⟩ := r_tryB (v := none) ok hf (n := 0) hi hw (by omega) (Z := sI m 13 (-nI 4)) ⟨Fr_I (Fr_refl m) (by omega), rfl⟩ (pk := pk3 0 0 0) ⟨fun k hk => absurd hk (by omega), fun j k h1 h2 => absurd h2 (by omega)⟩ (fun k hk => absurd hk (by omega))
  have e1 : gB d i w none (lst 0 (pk3 0 0 0)) = bes3 d i w 1 := by
    show _ = rn (fun v l => gB d i w v (l.map (nthP (bP d i)))) 0 [] 0 (cn (bP d i) 36) none
    rw [rn_0]
    rfl
  rw [e1] at z2
  obtain ⟨Z1, y1, y2⟩ := r_b1 ok hf hi hw (RT_up (Nat.zero_le 1) z2)
  obtain ⟨Z2, y3, y4⟩ := r_b2 ok hf hi hw (RT_up (show 1 ≤ 2 by omega) y2)
  obtain ⟨Z3, y5, y6⟩ := r_b3 ok hf hi hw (RT_up (show 2 ≤ 3 by omega) y4)
  have y6 : RT d m 3 Z3 (bes3 d i w 4) := y6
  generalize bes3 d i w 4 = v at *
  cases v with
  | none =>
    have ac : acc.1 = -1 := by
      have : acc = (-1, nI 1000000) := c2
      rw [this]
    have z13 : Z3.1 13 = -nI 4 := y6.2
    refine ⟨-nI 4, T', Z3, ?_, ?_, y6.1⟩
    · have n4 : lg_cmp acc.1 (-1) = nI 0 := (cmp0 _ _).mpr ac
      simp (disch := omega) only [X8_buys, a, e, h1, kE, c1, n4, li0, li1, li2, li3, li4, li5, li6, li7, li8, li11, li12, li16, li24, li25, li26, li31, li32, li36, li40, li48, li52, li58, li59, li60, li63, li64, li88, li96, li130, li192, li255, li2208, li2304, li9999, li9, li13, li14, li30, li35, li44, li45, li46, li47, li97, li98, li100, li101, li104, li105, li108, li110, li111, li112, li114, li117, li122, li999999, li1000000, li2147483647, cmp0, cmpl, cmpg, cmple, cmpge, nI_leI, nI_ltI, nI_eq, rL, rI, wL, wI, ob, aLet, nI_add, pk_mul, ↓reduceIte, if_true, if_false, eq_self, Nat.reduceEqDiff, Nat.reduceLeDiff, Nat.reduceLT, Nat.one_ne_zero, Nat.zero_ne_one, Nat.add_zero, Bool.false_eq_true, nI_neq]
      rw [ac]
      rw [if_pos rfl]
    · simp (disch := omega) only [X9_buys, b, f, h1, z1, y1, y3, y5, z13, li0, li1, li2, li3, li4, li5, li6, li7, li8, li11, li12, li16, li24, li25, li26, li31, li32, li36, li40, li48, li52, li58, li59, li60, li63, li64, li88, li96, li130, li192, li255, li2208, li2304, li9999, li9, li13, li14, li30, li35, li44, li45, li46, li47, li97, li98, li100, li101, li104, li105, li108, li110, li111, li112, li114, li117, li122, li999999, li1000000, li2147483647, cmp0, cmpl, cmpg, cmple, cmpge, nI_leI, nI_ltI, nI_eq, rL, rI, wL, wI, ob, aLet, nI_add, pk_mul, ↓reduceIte, if_true, if_false, eq_self, Nat.reduceEqDiff, Nat.reduceLeDiff, Nat.reduceLT, Nat.one_ne_zero, Nat.zero_ne_one, Nat.add_zero, Bool.false_eq_true, nI_neq]
  | some bb =>
    obtain ⟨r1, r2, n, pk, hn, rfl, hI⟩ := c2
    obtain ⟨nb, pk2, g1, g2, g3, g4, g5, g6, g7⟩ := y6.2
    have p33 := prl_le hI hn
    have pr := set_price ok r2 hI
    have nm : ¬ acc.1 = -1 := fun q => by
      have := (r2 63).mp (by rw [q]; exact tb_m1 (by decide))
      have := (inC_b ok this.1).2.1
      omega
    have n4 : ¬ (nI (prl (lst n pk)) = -nI 4) := fun q => by
      rw [nI_neq (by decide) (by decide) (by omega)] at q
      exact q
    by_cases h2 : x3 = -nI 1
    · subst h2
      refine ⟨nI (prl (lst n pk)), T', Z3, ?_, ?_, y6.1⟩
      · simp (disch := omega) only [X8_buys, a, e, h1, kE, c1, pr, li0, li1, li2, li3, li4, li5, li6, li7, li8, li11, li12, li16, li24, li25, li26, li31, li32, li36, li40, li48, li52, li58, li59, li60, li63, li64, li88, li96, li130, li192, li255, li2208, li2304, li9999, li9, li13, li14, li30, li35, li44, li45, li46, li47, li97, li98, li100, li101, li104, li105, li108, li110, li111, li112, li114, li117, li122, li999999, li1000000, li2147483647, cmp0, cmpl, cmpg, cmple, cmpge, nI_leI, nI_ltI, nI_eq, rL, rI, wL, wI, ob, aLet, nI_add, pk_mul, ↓reduceIte, if_true, if_false, eq_self, Nat.reduceEqDiff, Nat.reduceLeDiff, Nat.reduceLT, Nat.one_ne_zero, Nat.zero_ne_one, Nat.add_zero, Bool.false_eq_true, nI_neq]
        rw [if_neg nm]
      · simp (disch := omega) only [X9_buys, b, f, h1, z1, y1, y3, y5, g5, n4, li0, li1, li2, li3, li4, li5, li6, li7, li8, li11, li12, li16, li24, li25, li26, li31, li32, li36, li40, li48, li52, li58, li59, li60, li63, li64, li88, li96, li130, li192, li255, li2208, li2304, li9999, li9, li13, li14, li30, li35, li44, li45, li46, li47, li97, li98, li100, li101, li104, li105, li108, li110, li111, li112, li114, li117, li122, li999999, li1000000, li2147483647, cmp0, cmpl, cmpg, cmple, cmpge, nI_leI, nI_ltI, nI_eq, rL, rI, wL, wI, ob, aLet, nI_add, pk_mul, ↓reduceIte, if_true, if_false, eq_self, Nat.reduceEqDiff, Nat.reduceLeDiff, Nat.reduceLT, Nat.one_ne_zero, Nat.zero_ne_one, Nat.add_zero, Bool.false_eq_true, nI_neq]
    · have x0 : ¬ x3 < 0 := fun q => by
        rw [fa_lt] at q
        rw [fa_le] at h1
        have z : (0 : Int32).toInt = 0 := rfl
        have o : (-nI 1).toInt = -1 := by decide
        apply h2
        rw [fa_eq]
        omega
      obtain ⟨k, hk, rfl⟩ := nI_of x0
      have kt := c_kth ok hn r2 hI hk
      -- the two tell the same list
      have same : nb = n ∧ ∀ j, j < n → pk2 j = pk j := by
        have len : ∀ n (pk : Nat → Nat), (lst n pk).length = n := fun n pk => by
          unfold lst
          rw [List.length_map, List.length_range]
        have e : nb = n := by
          rw [← len nb pk2, ← len n pk, g3]
        subst e
        refine ⟨rfl, fun j hj => ?_⟩
        have q : (lst nb pk)[j]? = (lst nb pk2)[j]? := by rw [g3]
        unfold lst at q
        rw [List.getElem?_map, List.getElem?_map, List.getElem?_range hj] at q
        exact (Option.some.inj q).symm
      obtain ⟨rfl, same⟩ := same
      refine ⟨if k < nb then nI (cl (pk k)) else -nI 4, T', Z3, ?_, ?_, y6.1⟩
      · simp (disch := omega) only [X8_buys, a, e, h1, kE, c1, kt, li0, li1, li2, li3, li4, li5, li6, li7, li8, li11, li12, li16, li24, li25, li26, li31, li32, li36, li40, li48, li52, li58, li59, li60, li63, li64, li88, li96, li130, li192, li255, li2208, li2304, li9999, li9, li13, li14, li30, li35, li44, li45, li46, li47, li97, li98, li100, li101, li104, li105, li108, li110, li111, li112, li114, li117, li122, li999999, li1000000, li2147483647, cmp0, cmpl, cmpg, cmple, cmpge, nI_leI, nI_ltI, nI_eq, rL, rI, wL, wI, ob, aLet, nI_add, pk_mul, ↓reduceIte, if_true, if_false, eq_self, Nat.reduceEqDiff, Nat.reduceLeDiff, Nat.reduceLT, Nat.one_ne_zero, Nat.zero_ne_one, Nat.add_zero, Bool.false_eq_true, nI_neq]
        rw [if_neg nm]
      · by_cases y : k < nb
        · have nk : ¬ nb ≤ k := by omega
          have g7' := g7 k y
          have p36 := (hI.1 k y).1
          rw [same k y] at g7'
          have nn := r_number (p := pk k) (by omega)
          rw [if_pos y]
          simp (disch := omega) only [X9_buys, b, f, h1, z1, y1, y3, y5, g5, g6, n4, nk, g7', nn, li0, li1, li2, li3, li4, li5, li6, li7, li8, li11, li12, li16, li24, li25, li26, li31, li32, li36, li40, li48, li52, li58, li59, li60, li63, li64, li88, li96, li130, li192, li255, li2208, li2304, li9999, li9, li13, li14, li30, li35, li44, li45, li46, li47, li97, li98, li100, li101, li104, li105, li108, li110, li111, li112, li114, li117, li122, li999999, li1000000, li2147483647, cmp0, cmpl, cmpg, cmple, cmpge, nI_leI, nI_ltI, nI_eq, rL, rI, wL, wI, ob, aLet, nI_add, pk_mul, ↓reduceIte, if_true, if_false, eq_self, Nat.reduceEqDiff, Nat.reduceLeDiff, Nat.reduceLT, Nat.one_ne_zero, Nat.zero_ne_one, Nat.add_zero, Bool.false_eq_true, nI_neq]
        · have nk : nb ≤ k := by omega
          rw [if_neg y]
          simp (disch := omega) only [X9_buys, b, f, h1, z1, y1, y3, y5, g5, g6, n4, nk, li0, li1, li2, li3, li4, li5, li6, li7, li8, li11, li12, li16, li24, li25, li26, li31, li32, li36, li40, li48, li52, li58, li59, li60, li63, li64, li88, li96, li130, li192, li255, li2208, li2304, li9999, li9, li13, li14, li30, li35, li44, li45, li46, li47, li97, li98, li100, li101, li104, li105, li108, li110, li111, li112, li114, li117, li122, li999999, li1000000, li2147483647, cmp0, cmpl, cmpg, cmple, cmpge, nI_leI, nI_ltI, nI_eq, rL, rI, wL, wI, ob, aLet, nI_add, pk_mul, ↓reduceIte, if_true, if_false, eq_self, Nat.reduceEqDiff, Nat.reduceLeDiff, Nat.reduceLT, Nat.one_ne_zero, Nat.zero_ne_one, Nat.add_zero, Bool.false_eq_true, nI_neq]
theorem eq_buys {c : CSt} {m : Rec} (hI : Inv c m) (x1 : Int32) (x2 : Int32) (x3 : Int32) : ∃ (r : Int32) (c1 : CSt) (m1 : Rec), stC_buys c x1 x2 x3 = some (r, c1) ∧ stM_buys m x1 x2 x3 = some (r, m1) ∧ Inv c1 m1 := by
  obtain ⟨d, ok, hy, hS, hf⟩ := hI.1
  obtain ⟨r, T', m', a, b, hF⟩ := q_buys (T := c_sets c) ok hS hf x1 x2 x3
  exact ⟨r, _, m', by unfold stC_buys; rw [a]; rfl, by unfold stM_buys; rw [b]; rfl, inv_fr hI hF (c_trial c) (c_earlier c) T' (c_survey c) (c_marriages c) (c_finder c)⟩
