/-! changes by pairs -/
theorem vow {z : Nat} {S : Rec} (hz : z ≤ 24) {k : Nat} (hk : k < z) : (X5_vowelAt z S (nI k) = some (-nI 1) ∧ X9_in (S.2.2 1 k) (0 : Int64) (4 : Int64) = nI 0) ∨ ∃ u, u < 5 ∧ S.2.2 1 k = lN u ∧ X5_vowelAt z S (nI k) = some (nI u) ∧ X9_in (S.2.2 1 k) (0 : Int64) (4 : Int64) = nI 1 := by
  have h1 : ¬ nI k < (0 : Int32) := nI_pos (by omega)
  have h2 : ¬ Int32.ofNat z ≤ nI k := nI_ge hk (by omega)
  have r := rL (f := S.2.2 1) hk (by omega)
  unfold X5_vowelAt X9_in
  rw [if_neg h1, if_neg h2, r, ob, ob, ob]
  generalize S.2.2 1 k = v
  simp only [lg_cmp_lt, lg_cmp_gt]
  by_cases a : v < 0
  · refine Or.inl ⟨?_, ?_⟩
    · rw [if_pos a]
      rfl
    · rw [if_pos a]
      rfl
  · obtain ⟨u, hu, rfl⟩ := pk_lOf a
    rw [if_neg a, if_neg a, show (5 : Int64) = lN 5 from rfl, show (4 : Int64) = lN 4 from rfl]
    by_cases b : u < 5
    · refine Or.inr ⟨u, b, rfl, ?_, ?_⟩
      · rw [if_pos ((pk_lLT hu (by decide)).mpr b), lN_i]
      · rw [if_neg (fun q => by have := (pk_lLT (by decide) hu).mp q; omega)]
        rfl
    · refine Or.inl ⟨?_, ?_⟩
      · rw [if_neg (fun q => b ((pk_lLT hu (by decide)).mp q))]
        rfl
      · rw [if_pos ((pk_lLT (by decide) hu).mpr (by omega))]
        rfl
def fxt (u : Nat → Nat) : Nat → Nat → Nat
  | 0 => fun _ => 9
  | t + 1 => fun v => if v = u (2 * t) then u (2 * t + 1) else fxt u t v
def qrt (u : Nat → Nat) : Nat → Bool
  | 0 => false
  | t + 1 => qrt u t || (!decide (fxt u t (u (2 * t)) = 9) && !decide (fxt u t (u (2 * t)) = u (2 * t + 1)))
theorem fxt_le {u : Nat → Nat} {n : Nat} (hu : ∀ k, k < 2 * n → u k < 5) : ∀ t, t ≤ n → ∀ v, fxt u t v < 5 ∨ fxt u t v = 9
  | 0, _, v => Or.inr rfl
  | t + 1, h, v => by
    rw [fxt]
    dsimp only
    split
    · exact Or.inl (hu _ (by omega))
    · exact fxt_le hu t (by omega) v
def enc (k x : Nat) : Int32 := if x = 9 then -nI k else nI x
def wys (fx : Nat → Nat) (b : Nat) : Nat → Nat
  | 0 => b
  | v + 1 => wys fx b v * (if fx v = 9 then 5 else 1)
theorem wys_le (fx : Nat → Nat) {b : Nat} (hb : b ≤ 1) : ∀ v, wys fx b v ≤ 5 ^ v
  | 0 => hb
  | v + 1 => by
    have := wys_le fx hb v
    rw [wys, Nat.pow_succ]
    exact Nat.mul_le_mul this (by split <;> omega)
theorem c_compare {z : Nat} {S T : Rec} {i n : Nat} {u : Nat → Nat} (hz : z ≤ 24) (hi : i + 2 * n ≤ z) (hu : ∀ k, k < 2 * n → u k < 5 ∧ X5_vowelAt z T (nI (i + k)) = some (nI (u k))) : ∃ S', X1_compare S z T (nI i) (nI n) = some S' ∧ S'.1 1 = (if qrt u n then nI 0 else nI 1) ∧ ∀ v, v < 5 → S'.2.1 0 v = enc 1 (fxt u n v) := by
  obtain ⟨Z, c1, c2, c3⟩ := forUpE (fun n j s => X1_compare_L8 n j s) 5 (fun k Z => Z.1 1 = nI 1 ∧ ∀ v, v < k → Z.2.1 0 v = -nI 1) (fun Z => Z.1 1 = nI 1 ∧ ∀ v, v < 5 → Z.2.1 0 v = -nI 1) (fun n k Z hk hZ => by
      have h : ¬ 5 ≤ k := by omega
      refine ⟨sA Z 0 (upd (Z.2.1 0) k (-nI 1)), ?_, hZ.1, fun v hv => ?_⟩
      · simp (disch := omega) only [X1_compare_L8, li0, li1, li2, li3, li4, li5, li6, li7, li8, li11, li12, li16, li24, li25, li26, li31, li32, li36, li40, li48, li52, li58, li59, li60, li63, li64, li88, li96, li130, li192, li255, li2208, li2304, li9999, li9, li13, li14, li30, li35, li44, li45, li46, li47, li97, li98, li100, li101, li104, li105, li108, li110, li111, li112, li114, li117, li122, li999999, li1000000, li2147483647, cmp0, cmpl, cmpg, cmple, cmpge, nI_leI, nI_ltI, nI_eq, rL, rI, wL, wI, ob, aLet, nI_add, pk_mul, ↓reduceIte, if_true, if_false, eq_self, Nat.reduceEqDiff, Nat.reduceLeDiff, Nat.reduceLT, Nat.one_ne_zero, Nat.zero_ne_one, Nat.add_zero, Bool.false_eq_true, nI_neq, h]
      · show upd (Z.2.1 0) k (-nI 1) v = _
        by_cases y : v = k
        · rw [y, pk_us]
        · rw [pk_un y]
          exact hZ.2 v (by omega)) (fun n Z hZ => ⟨Z, by simp (disch := omega) only [X1_compare_L8, li0, li1, li2, li3, li4, li5, li6, li7, li8, li11, li12, li16, li24, li25, li26, li31, li32, li36, li40, li48, li52, li58, li59, li60, li63, li64, li88, li96, li130, li192, li255, li2208, li2304, li9999, li9, li13, li14, li30, li35, li44, li45, li46, li47, li97, li98, li100, li101, li104, li105, li108, li110, li111, li112, li114, li117, li122, li999999, li1000000, li2147483647, cmp0, cmpl, cmpg, cmple, cmpge, nI_leI, nI_ltI, nI_eq, rL, rI, wL, wI, ob, aLet, nI_add, pk_mul, ↓reduceIte, if_true, if_false, eq_self, Nat.reduceEqDiff, Nat.reduceLeDiff, Nat.reduceLT, Nat.one_ne_zero, Nat.zero_ne_one, Nat.add_zero, Bool.false_eq_true, nI_neq, Nat.le_refl], hZ⟩) 5 0 aFu (sI S 1 (nI 1)) rfl (by decide) ⟨rfl, fun v hv => absurd hv (by omega)⟩
  obtain ⟨S', d1, d2, d3⟩ := forUpE (fun m j s => X1_compare_L31 (nI n) z T (nI i) m j s) n (fun k Z => Z.1 1 = (if qrt u k then nI 0 else nI 1) ∧ ∀ v, v < 5 → Z.2.1 0 v = enc 1 (fxt u k v)) (fun Z => Z.1 1 = (if qrt u n then nI 0 else nI 1) ∧ ∀ v, v < 5 → Z.2.1 0 v = enc 1 (fxt u n v)) (fun m k Z hk hZ => by
      have h : ¬ n ≤ k := by omega
      obtain ⟨u1, v1⟩ := hu (2 * k) (by omega)
      obtain ⟨u2, v2⟩ := hu (2 * k + 1) (by omega)
      have v2 : X5_vowelAt z T (nI (i + 2 * k + 1)) = some (nI (u (2 * k + 1))) := v2
      obtain ⟨z1, z2⟩ := hZ
      have fe := z2 (u (2 * k)) u1
      have fl := fxt_le (u := u) (n := n) (fun j hj => (hu j hj).1) k (by omega) (u (2 * k))
      have h0 : ¬ u (2 * k) < 0 := by omega
      have key : ∃ Z', X1_bind Z (nI (u (2 * k))) (nI (u (2 * k + 1))) = some Z' ∧ Z'.1 1 = (if qrt u (k + 1) then nI 0 else nI 1) ∧ Z'.2.1 0 = upd (Z.2.1 0) (u (2 * k)) (nI (u (2 * k + 1))) := by
        have e5 : ∀ v, (sI Z 1 v).2.1 0 = Z.2.1 0 := fun v => rfl
        by_cases y : fxt u k (u (2 * k)) = 9
        · rw [enc, if_pos y] at fe
          refine ⟨sA Z 0 (upd (Z.2.1 0) (u (2 * k)) (nI (u (2 * k + 1)))), ?_, ?_, rfl⟩
          · simp (disch := omega) only [X1_bind, h0, u1, fe, li0, li1, li2, li3, li4, li5, li6, li7, li8, li11, li12, li16, li24, li25, li26, li31, li32, li36, li40, li48, li52, li58, li59, li60, li63, li64, li88, li96, li130, li192, li255, li2208, li2304, li9999, li9, li13, li14, li30, li35, li44, li45, li46, li47, li97, li98, li100, li101, li104, li105, li108, li110, li111, li112, li114, li117, li122, li999999, li1000000, li2147483647, cmp0, cmpl, cmpg, cmple, cmpge, nI_leI, nI_ltI, nI_eq, rL, rI, wL, wI, ob, aLet, nI_add, pk_mul, ↓reduceIte, if_true, if_false, eq_self, Nat.reduceEqDiff, Nat.reduceLeDiff, Nat.reduceLT, Nat.one_ne_zero, Nat.zero_ne_one, Nat.add_zero, Bool.false_eq_true, nI_neq]
          · show Z.1 1 = _
            rw [z1, qrt, y]
            simp
        · rw [enc, if_neg y] at fe
          have ne : ∀ x, x < 5 → ¬ (nI x = -nI 1) := fun x hx q => by
            rw [nI_neq (by decide) (by decide) (by omega)] at q
            exact q
          by_cases w : fxt u k (u (2 * k)) = u (2 * k + 1)
          · refine ⟨sA Z 0 (upd (Z.2.1 0) (u (2 * k)) (nI (u (2 * k + 1)))), ?_, ?_, rfl⟩
            · rw [w] at fe
              simp (disch := omega) only [X1_bind, h0, u1, fe, ne _ u2, li0, li1, li2, li3, li4, li5, li6, li7, li8, li11, li12, li16, li24, li25, li26, li31, li32, li36, li40, li48, li52, li58, li59, li60, li63, li64, li88, li96, li130, li192, li255, li2208, li2304, li9999, li9, li13, li14, li30, li35, li44, li45, li46, li47, li97, li98, li100, li101, li104, li105, li108, li110, li111, li112, li114, li117, li122, li999999, li1000000, li2147483647, cmp0, cmpl, cmpg, cmple, cmpge, nI_leI, nI_ltI, nI_eq, rL, rI, wL, wI, ob, aLet, nI_add, pk_mul, ↓reduceIte, if_true, if_false, eq_self, Nat.reduceEqDiff, Nat.reduceLeDiff, Nat.reduceLT, Nat.one_ne_zero, Nat.zero_ne_one, Nat.add_zero, Bool.false_eq_true, nI_neq]
            · show Z.1 1 = _
              rw [z1, qrt, w]
              simp
          · refine ⟨sA (sI Z 1 (nI 0)) 0 (upd (Z.2.1 0) (u (2 * k)) (nI (u (2 * k + 1)))), ?_, ?_, rfl⟩
            · have ne1 := ne (fxt u k (u (2 * k))) (by omega)
              simp (disch := omega) only [X1_bind, h0, u1, fe, ne1, w, e5, li0, li1, li2, li3, li4, li5, li6, li7, li8, li11, li12, li16, li24, li25, li26, li31, li32, li36, li40, li48, li52, li58, li59, li60, li63, li64, li88, li96, li130, li192, li255, li2208, li2304, li9999, li9, li13, li14, li30, li35, li44, li45, li46, li47, li97, li98, li100, li101, li104, li105, li108, li110, li111, li112, li114, li117, li122, li999999, li1000000, li2147483647, cmp0, cmpl, cmpg, cmple, cmpge, nI_leI, nI_ltI, nI_eq, rL, rI, wL, wI, ob, aLet, nI_add, pk_mul, ↓reduceIte, if_true, if_false, eq_self, Nat.reduceEqDiff, Nat.reduceLeDiff, Nat.reduceLT, Nat.one_ne_zero, Nat.zero_ne_one, Nat.add_zero, Bool.false_eq_true, nI_neq]
            · show nI 0 = _
              rw [qrt]
              simp [y, w]
      obtain ⟨Z', b1, b2, b3⟩ := key
      refine ⟨Z', ?_, b2, fun v hv => ?_⟩
      · simp (disch := omega) only [X1_compare_L31, v1, v2, b1, li0, li1, li2, li3, li4, li5, li6, li7, li8, li11, li12, li16, li24, li25, li26, li31, li32, li36, li40, li48, li52, li58, li59, li60, li63, li64, li88, li96, li130, li192, li255, li2208, li2304, li9999, li9, li13, li14, li30, li35, li44, li45, li46, li47, li97, li98, li100, li101, li104, li105, li108, li110, li111, li112, li114, li117, li122, li999999, li1000000, li2147483647, cmp0, cmpl, cmpg, cmple, cmpge, nI_leI, nI_ltI, nI_eq, rL, rI, wL, wI, ob, aLet, nI_add, pk_mul, ↓reduceIte, if_true, if_false, eq_self, Nat.reduceEqDiff, Nat.reduceLeDiff, Nat.reduceLT, Nat.one_ne_zero, Nat.zero_ne_one, Nat.add_zero, Bool.false_eq_true, nI_neq, h]
      · rw [b3, fxt]
        dsimp only
        by_cases y : v = u (2 * k)
        · rw [y, pk_us, if_pos rfl, enc, if_neg (by omega)]
        · rw [pk_un y, if_neg y]
          exact z2 v hv) (fun m Z hZ => ⟨Z, by simp (disch := omega) only [X1_compare_L31, li0, li1, li2, li3, li4, li5, li6, li7, li8, li11, li12, li16, li24, li25, li26, li31, li32, li36, li40, li48, li52, li58, li59, li60, li63, li64, li88, li96, li130, li192, li255, li2208, li2304, li9999, li9, li13, li14, li30, li35, li44, li45, li46, li47, li97, li98, li100, li101, li104, li105, li108, li110, li111, li112, li114, li117, li122, li999999, li1000000, li2147483647, cmp0, cmpl, cmpg, cmple, cmpge, nI_leI, nI_ltI, nI_eq, rL, rI, wL, wI, ob, aLet, nI_add, pk_mul, ↓reduceIte, if_true, if_false, eq_self, Nat.reduceEqDiff, Nat.reduceLeDiff, Nat.reduceLT, Nat.one_ne_zero, Nat.zero_ne_one, Nat.add_zero, Bool.false_eq_true, nI_neq, Nat.le_refl], hZ⟩) n 0 aFu Z (by omega) (by show _ < 100000; omega) ⟨c2, fun v hv => (c3 v hv).trans (by rw [fxt, enc, if_pos rfl])⟩
  refine ⟨S', ?_, d2, d3⟩
  simp (disch := omega) only [X1_compare, c1, d1, li0, li1, li2, li3, li4, li5, li6, li7, li8, li11, li12, li16, li24, li25, li26, li31, li32, li36, li40, li48, li52, li58, li59, li60, li63, li64, li88, li96, li130, li192, li255, li2208, li2304, li9999, li9, li13, li14, li30, li35, li44, li45, li46, li47, li97, li98, li100, li101, li104, li105, li108, li110, li111, li112, li114, li117, li122, li999999, li1000000, li2147483647, cmp0, cmpl, cmpg, cmple, cmpge, nI_leI, nI_ltI, nI_eq, rL, rI, wL, wI, ob, aLet, nI_add, pk_mul, ↓reduceIte, if_true, if_false, eq_self, Nat.reduceEqDiff, Nat.reduceLeDiff, Nat.reduceLT, Nat.one_ne_zero, Nat.zero_ne_one, Nat.add_zero, Bool.false_eq_true, nI_neq]
theorem c_howMany {S : Rec} {fx : Nat → Nat} {q : Bool} (h1 : S.1 1 = (if q then nI 0 else nI 1)) (h2 : ∀ v, v < 5 → S.2.1 0 v = enc 1 (fx v)) (hf : ∀ v, fx v < 5 ∨ fx v = 9) : X1_howMany S = some (nI (wys fx (if q then 0 else 1) 5)) := by
  have key : ∀ b, b ≤ 1 → X1_howMany_J12 S (nI b) = some (nI (wys fx b 5)) := by
    intro b hb
    have := forUp (fun n j s => X1_howMany_L15 S n s j) 5 (fun k => nI (wys fx b k)) (some (nI (wys fx b 5))) (fun n k hk => ?_) (fun n => ?_) 5 0 aFu rfl (by decide)
    · have l : X1_howMany_L15 S aFu (nI b) (nI 0) = some (nI (wys fx b 5)) := this
      simp (disch := omega) only [X1_howMany_J12, l, li0, li1, li2, li3, li4, li5, li6, li7, li8, li11, li12, li16, li24, li25, li26, li31, li32, li36, li40, li48, li52, li58, li59, li60, li63, li64, li88, li96, li130, li192, li255, li2208, li2304, li9999, li9, li13, li14, li30, li35, li44, li45, li46, li47, li97, li98, li100, li101, li104, li105, li108, li110, li111, li112, li114, li117, li122, li999999, li1000000, li2147483647, cmp0, cmpl, cmpg, cmple, cmpge, nI_leI, nI_ltI, nI_eq, rL, rI, wL, wI, ob, aLet, nI_add, pk_mul, ↓reduceIte, if_true, if_false, eq_self, Nat.reduceEqDiff, Nat.reduceLeDiff, Nat.reduceLT, Nat.one_ne_zero, Nat.zero_ne_one, Nat.add_zero, Bool.false_eq_true, nI_neq]
    · have h : ¬ 5 ≤ k := by omega
      have e := h2 k hk
      unfold enc at e
      rcases hf k with y | y
      · have ne : ¬ (nI (fx k) = -nI 1) := fun q => by
          rw [nI_neq (by decide) (by decide) (by omega)] at q
          exact q
        rw [if_neg (by omega)] at e
        simp (disch := omega) only [X1_howMany_L15, e, ne, li0, li1, li2, li3, li4, li5, li6, li7, li8, li11, li12, li16, li24, li25, li26, li31, li32, li36, li40, li48, li52, li58, li59, li60, li63, li64, li88, li96, li130, li192, li255, li2208, li2304, li9999, li9, li13, li14, li30, li35, li44, li45, li46, li47, li97, li98, li100, li101, li104, li105, li108, li110, li111, li112, li114, li117, li122, li999999, li1000000, li2147483647, cmp0, cmpl, cmpg, cmple, cmpge, nI_leI, nI_ltI, nI_eq, rL, rI, wL, wI, ob, aLet, nI_add, pk_mul, ↓reduceIte, if_true, if_false, eq_self, Nat.reduceEqDiff, Nat.reduceLeDiff, Nat.reduceLT, Nat.one_ne_zero, Nat.zero_ne_one, Nat.add_zero, Bool.false_eq_true, nI_neq, h]
        rw [wys, if_neg (by omega)]
      · rw [if_pos y] at e
        simp (disch := omega) only [X1_howMany_L15, e, li0, li1, li2, li3, li4, li5, li6, li7, li8, li11, li12, li16, li24, li25, li26, li31, li32, li36, li40, li48, li52, li58, li59, li60, li63, li64, li88, li96, li130, li192, li255, li2208, li2304, li9999, li9, li13, li14, li30, li35, li44, li45, li46, li47, li97, li98, li100, li101, li104, li105, li108, li110, li111, li112, li114, li117, li122, li999999, li1000000, li2147483647, cmp0, cmpl, cmpg, cmple, cmpge, nI_leI, nI_ltI, nI_eq, rL, rI, wL, wI, ob, aLet, nI_add, pk_mul, ↓reduceIte, if_true, if_false, eq_self, Nat.reduceEqDiff, Nat.reduceLeDiff, Nat.reduceLT, Nat.one_ne_zero, Nat.zero_ne_one, Nat.add_zero, Bool.false_eq_true, nI_neq, h]
        rw [wys, if_pos y]
    · simp (disch := omega) only [X1_howMany_L15, li0, li1, li2, li3, li4, li5, li6, li7, li8, li11, li12, li16, li24, li25, li26, li31, li32, li36, li40, li48, li52, li58, li59, li60, li63, li64, li88, li96, li130, li192, li255, li2208, li2304, li9999, li9, li13, li14, li30, li35, li44, li45, li46, li47, li97, li98, li100, li101, li104, li105, li108, li110, li111, li112, li114, li117, li122, li999999, li1000000, li2147483647, cmp0, cmpl, cmpg, cmple, cmpge, nI_leI, nI_ltI, nI_eq, rL, rI, wL, wI, ob, aLet, nI_add, pk_mul, ↓reduceIte, if_true, if_false, eq_self, Nat.reduceEqDiff, Nat.reduceLeDiff, Nat.reduceLT, Nat.one_ne_zero, Nat.zero_ne_one, Nat.add_zero, Bool.false_eq_true, nI_neq, Nat.le_refl]
  unfold X1_howMany
  rw [h1]
  cases q
  · exact key 1 (by omega)
  · exact key 0 (by omega)
theorem c_becomes {S : Rec} {fx : Nat → Nat} {q : Bool} (h1 : S.1 1 = (if q then nI 0 else nI 1)) (h2 : ∀ v, v < 5 → S.2.1 0 v = enc 1 (fx v)) (hf : ∀ v, fx v < 5 ∨ fx v = 9) {v : Nat} (hv : v < 5) : X1_becomes S (nI v) = some (if q then -nI 4 else if fx v = 9 then nI 0 else nI (fx v)) := by
  have e := h2 v hv
  have h0 : ¬ v < 0 := by omega
  unfold enc at e
  cases q
  · have h1 : S.1 1 = nI 1 := h1
    rcases hf v with y | y
    · rw [if_neg (by omega)] at e
      simp (disch := omega) only [X1_becomes, h1, h0, hv, e, a_max_n, li0, li1, li2, li3, li4, li5, li6, li7, li8, li11, li12, li16, li24, li25, li26, li31, li32, li36, li40, li48, li52, li58, li59, li60, li63, li64, li88, li96, li130, li192, li255, li2208, li2304, li9999, li9, li13, li14, li30, li35, li44, li45, li46, li47, li97, li98, li100, li101, li104, li105, li108, li110, li111, li112, li114, li117, li122, li999999, li1000000, li2147483647, cmp0, cmpl, cmpg, cmple, cmpge, nI_leI, nI_ltI, nI_eq, rL, rI, wL, wI, ob, aLet, nI_add, pk_mul, ↓reduceIte, if_true, if_false, eq_self, Nat.reduceEqDiff, Nat.reduceLeDiff, Nat.reduceLT, Nat.one_ne_zero, Nat.zero_ne_one, Nat.add_zero, Bool.false_eq_true, nI_neq]
      rw [if_neg (by omega), show max (fx v) 0 = fx v by omega]
    · rw [if_pos y] at e
      have am : a_max (-nI 1) (nI 0) = nI 0 := by decide
      simp (disch := omega) only [X1_becomes, h1, h0, hv, e, am, y, li0, li1, li2, li3, li4, li5, li6, li7, li8, li11, li12, li16, li24, li25, li26, li31, li32, li36, li40, li48, li52, li58, li59, li60, li63, li64, li88, li96, li130, li192, li255, li2208, li2304, li9999, li9, li13, li14, li30, li35, li44, li45, li46, li47, li97, li98, li100, li101, li104, li105, li108, li110, li111, li112, li114, li117, li122, li999999, li1000000, li2147483647, cmp0, cmpl, cmpg, cmple, cmpge, nI_leI, nI_ltI, nI_eq, rL, rI, wL, wI, ob, aLet, nI_add, pk_mul, ↓reduceIte, if_true, if_false, eq_self, Nat.reduceEqDiff, Nat.reduceLeDiff, Nat.reduceLT, Nat.one_ne_zero, Nat.zero_ne_one, Nat.add_zero, Bool.false_eq_true, nI_neq]
  · have h1 : S.1 1 = nI 0 := h1
    simp (disch := omega) only [X1_becomes, h1, li0, li1, li2, li3, li4, li5, li6, li7, li8, li11, li12, li16, li24, li25, li26, li31, li32, li36, li40, li48, li52, li58, li59, li60, li63, li64, li88, li96, li130, li192, li255, li2208, li2304, li9999, li9, li13, li14, li30, li35, li44, li45, li46, li47, li97, li98, li100, li101, li104, li105, li108, li110, li111, li112, li114, li117, li122, li999999, li1000000, li2147483647, cmp0, cmpl, cmpg, cmple, cmpge, nI_leI, nI_ltI, nI_eq, rL, rI, wL, wI, ob, aLet, nI_add, pk_mul, ↓reduceIte, if_true, if_false, eq_self, Nat.reduceEqDiff, Nat.reduceLeDiff, Nat.reduceLT, Nat.one_ne_zero, Nat.zero_ne_one, Nat.add_zero, Bool.false_eq_true, nI_neq]
theorem r_ways {e : Int32 × Rec} {fx : Nat → Nat} (h2 : ∀ v, v < 5 → e.2.2.1 29 v = enc 4 (fx v)) (hf : ∀ v, fx v < 5 ∨ fx v = 9) (b : Nat) (hb : b ≤ 1) : X9_changes_L259 e aFu (nI b) (nI 0) = some (nI (wys fx b 5)) := by
  have := forUp (fun n j s => X9_changes_L259 e n s j) 5 (fun k => nI (wys fx b k)) (some (nI (wys fx b 5))) (fun n k hk => ?_) (fun n => ?_) 5 0 aFu rfl (by decide)
  · exact this
  · have h : ¬ 5 ≤ k := by omega
    have e := h2 k hk
    unfold enc at e
    rcases hf k with y | y
    · have ne : ¬ (nI (fx k) = -nI 4) := fun q => by
        rw [nI_neq (by decide) (by decide) (by omega)] at q
        exact q
      rw [if_neg (by omega)] at e
      simp (disch := omega) only [X9_changes_L259, e, ne, li0, li1, li2, li3, li4, li5, li6, li7, li8, li11, li12, li16, li24, li25, li26, li31, li32, li36, li40, li48, li52, li58, li59, li60, li63, li64, li88, li96, li130, li192, li255, li2208, li2304, li9999, li9, li13, li14, li30, li35, li44, li45, li46, li47, li97, li98, li100, li101, li104, li105, li108, li110, li111, li112, li114, li117, li122, li999999, li1000000, li2147483647, cmp0, cmpl, cmpg, cmple, cmpge, nI_leI, nI_ltI, nI_eq, rL, rI, wL, wI, ob, aLet, nI_add, pk_mul, ↓reduceIte, if_true, if_false, eq_self, Nat.reduceEqDiff, Nat.reduceLeDiff, Nat.reduceLT, Nat.one_ne_zero, Nat.zero_ne_one, Nat.add_zero, Bool.false_eq_true, nI_neq, h]
      rw [wys, if_neg (by omega)]
    · rw [if_pos y] at e
      simp (disch := omega) only [X9_changes_L259, e, li0, li1, li2, li3, li4, li5, li6, li7, li8, li11, li12, li16, li24, li25, li26, li31, li32, li36, li40, li48, li52, li58, li59, li60, li63, li64, li88, li96, li130, li192, li255, li2208, li2304, li9999, li9, li13, li14, li30, li35, li44, li45, li46, li47, li97, li98, li100, li101, li104, li105, li108, li110, li111, li112, li114, li117, li122, li999999, li1000000, li2147483647, cmp0, cmpl, cmpg, cmple, cmpge, nI_leI, nI_ltI, nI_eq, rL, rI, wL, wI, ob, aLet, nI_add, pk_mul, ↓reduceIte, if_true, if_false, eq_self, Nat.reduceEqDiff, Nat.reduceLeDiff, Nat.reduceLT, Nat.one_ne_zero, Nat.zero_ne_one, Nat.add_zero, Bool.false_eq_true, nI_neq, h]
      rw [wys, if_pos y]
  · simp (disch := omega) only [X9_changes_L259, li0, li1, li2, li3, li4, li5, li6, li7, li8, li11, li12, li16, li24, li25, li26, li31, li32, li36, li40, li48, li52, li58, li59, li60, li63, li64, li88, li96, li130, li192, li255, li2208, li2304, li9999, li9, li13, li14, li30, li35, li44, li45, li46, li47, li97, li98, li100, li101, li104, li105, li108, li110, li111, li112, li114, li117, li122, li999999, li1000000, li2147483647, cmp0, cmpl, cmpg, cmple, cmpge, nI_leI, nI_ltI, nI_eq, rL, rI, wL, wI, ob, aLet, nI_add, pk_mul, ↓reduceIte, if_true, if_false, eq_self, Nat.reduceEqDiff, Nat.reduceLeDiff, Nat.reduceLT, Nat.one_ne_zero, Nat.zero_ne_one, Nat.add_zero, Bool.false_eq_true, nI_neq, Nat.le_refl]
theorem r_changes154 {m : Rec} {b n : Nat} {u : Nat → Nat} (hb : b + 2 * n ≤ 96) (hu : ∀ k, k < 2 * n → u k < 5 ∧ m.2.2 28 (b + k) = lN (u k)) (h0 : ∀ v, v < 5 → m.2.1 29 v = -nI 4) : ∃ e : Int32 × Rec, X9_changes_L154 (nI n) (nI b) aFu (nI 0) (nI 0) m = some e ∧ e.1 = (if qrt u n then nI 1 else nI 0) ∧ (∀ v, v < 5 → e.2.2.1 29 v = enc 4 (fxt u n v)) ∧ Fr m e.2 := by
  obtain ⟨e, c1, c2⟩ := forUpE (fun k j (s : Int32 × Rec) => X9_changes_L154 (nI n) (nI b) k s.1 j s.2) n (fun k e => e.1 = (if qrt u k then nI 1 else nI 0) ∧ (∀ v, v < 5 → e.2.2.1 29 v = enc 4 (fxt u k v)) ∧ Fr m e.2 ∧ e.2.2.2 = m.2.2) (fun e => e.1 = (if qrt u n then nI 1 else nI 0) ∧ (∀ v, v < 5 → e.2.2.1 29 v = enc 4 (fxt u n v)) ∧ Fr m e.2) (fun t k e hk hI => by
      obtain ⟨e1, e2, e3, e4⟩ := hI
      have h : ¬ n ≤ k := by omega
      obtain ⟨u1, v1⟩ := hu (2 * k) (by omega)
      obtain ⟨u2, v2⟩ := hu (2 * k + 1) (by omega)
      have v1' : e.2.2.2 28 (b + 2 * k) = lN (u (2 * k)) := by rw [e4]; exact v1
      have v2' : e.2.2.2 28 (b + 2 * k + 1) = lN (u (2 * k + 1)) := by rw [e4]; exact v2
      have fe := e2 (u (2 * k)) u1
      have fl := fxt_le (u := u) (n := n) (fun j hj => (hu j hj).1) k (by omega) (u (2 * k))
      have up : ∀ v, v < 5 → upd (e.2.2.1 29) (u (2 * k)) (nI (u (2 * k + 1))) v = enc 4 (fxt u (k + 1) v) := fun v hv => by
        rw [fxt]
        dsimp only
        by_cases y : v = u (2 * k)
        · rw [y, pk_us, if_pos rfl, enc, if_neg (by omega)]
        · rw [pk_un y, if_neg y]
          exact e2 v hv
      refine ⟨(if qrt u (k + 1) then nI 1 else nI 0, sA e.2 29 (upd (e.2.2.1 29) (u (2 * k)) (nI (u (2 * k + 1))))), ?_, rfl, up, Fr_A e3 (by omega), e4⟩
      dsimp only
      rw [e1]
      cases hq : qrt u k
      · by_cases y : fxt u k (u (2 * k)) = 9
        · have hq2 : qrt u (k + 1) = false := by rw [qrt, hq, y]; simp
          rw [enc, if_pos y] at fe
          rw [hq2]
          simp (disch := omega) only [X9_changes_L154, v1', v2', lN_i, fe, li0, li1, li2, li3, li4, li5, li6, li7, li8, li11, li12, li16, li24, li25, li26, li31, li32, li36, li40, li48, li52, li58, li59, li60, li63, li64, li88, li96, li130, li192, li255, li2208, li2304, li9999, li9, li13, li14, li30, li35, li44, li45, li46, li47, li97, li98, li100, li101, li104, li105, li108, li110, li111, li112, li114, li117, li122, li999999, li1000000, li2147483647, cmp0, cmpl, cmpg, cmple, cmpge, nI_leI, nI_ltI, nI_eq, rL, rI, wL, wI, ob, aLet, nI_add, pk_mul, ↓reduceIte, if_true, if_false, eq_self, Nat.reduceEqDiff, Nat.reduceLeDiff, Nat.reduceLT, Nat.one_ne_zero, Nat.zero_ne_one, Nat.add_zero, Bool.false_eq_true, nI_neq, h]
        · have ne : ∀ x, x < 5 → ¬ (nI x = -nI 4) := fun x hx q => by
            rw [nI_neq (by decide) (by decide) (by omega)] at q
            exact q
          rw [enc, if_neg y] at fe
          by_cases w : fxt u k (u (2 * k)) = u (2 * k + 1)
          · have hq2 : qrt u (k + 1) = false := by rw [qrt, hq, w]; simp
            rw [hq2]
            rw [w] at fe
            simp (disch := omega) only [X9_changes_L154, v1', v2', lN_i, fe, ne _ u2, li0, li1, li2, li3, li4, li5, li6, li7, li8, li11, li12, li16, li24, li25, li26, li31, li32, li36, li40, li48, li52, li58, li59, li60, li63, li64, li88, li96, li130, li192, li255, li2208, li2304, li9999, li9, li13, li14, li30, li35, li44, li45, li46, li47, li97, li98, li100, li101, li104, li105, li108, li110, li111, li112, li114, li117, li122, li999999, li1000000, li2147483647, cmp0, cmpl, cmpg, cmple, cmpge, nI_leI, nI_ltI, nI_eq, rL, rI, wL, wI, ob, aLet, nI_add, pk_mul, ↓reduceIte, if_true, if_false, eq_self, Nat.reduceEqDiff, Nat.reduceLeDiff, Nat.reduceLT, Nat.one_ne_zero, Nat.zero_ne_one, Nat.add_zero, Bool.false_eq_true, nI_neq, h]
          · have hq2 : qrt u (k + 1) = true := by rw [qrt, hq]; simp [y, w]
            have ne1 := ne (fxt u k (u (2 * k))) (by omega)
            rw [hq2]
            simp (disch := omega) only [X9_changes_L154, v1', v2', lN_i, fe, ne1, w, li0, li1, li2, li3, li4, li5, li6, li7, li8, li11, li12, li16, li24, li25, li26, li31, li32, li36, li40, li48, li52, li58, li59, li60, li63, li64, li88, li96, li130, li192, li255, li2208, li2304, li9999, li9, li13, li14, li30, li35, li44, li45, li46, li47, li97, li98, li100, li101, li104, li105, li108, li110, li111, li112, li114, li117, li122, li999999, li1000000, li2147483647, cmp0, cmpl, cmpg, cmple, cmpge, nI_leI, nI_ltI, nI_eq, rL, rI, wL, wI, ob, aLet, nI_add, pk_mul, ↓reduceIte, if_true, if_false, eq_self, Nat.reduceEqDiff, Nat.reduceLeDiff, Nat.reduceLT, Nat.one_ne_zero, Nat.zero_ne_one, Nat.add_zero, Bool.false_eq_true, nI_neq, h]
      · have hq2 : qrt u (k + 1) = true := by rw [qrt, hq]; simp
        rw [hq2]
        simp (disch := omega) only [X9_changes_L154, v1', v2', lN_i, li0, li1, li2, li3, li4, li5, li6, li7, li8, li11, li12, li16, li24, li25, li26, li31, li32, li36, li40, li48, li52, li58, li59, li60, li63, li64, li88, li96, li130, li192, li255, li2208, li2304, li9999, li9, li13, li14, li30, li35, li44, li45, li46, li47, li97, li98, li100, li101, li104, li105, li108, li110, li111, li112, li114, li117, li122, li999999, li1000000, li2147483647, cmp0, cmpl, cmpg, cmple, cmpge, nI_leI, nI_ltI, nI_eq, rL, rI, wL, wI, ob, aLet, nI_add, pk_mul, ↓reduceIte, if_true, if_false, eq_self, Nat.reduceEqDiff, Nat.reduceLeDiff, Nat.reduceLT, Nat.one_ne_zero, Nat.zero_ne_one, Nat.add_zero, Bool.false_eq_true, nI_neq, h]) (fun t e hI => ⟨e, by simp (disch := omega) only [X9_changes_L154, li0, li1, li2, li3, li4, li5, li6, li7, li8, li11, li12, li16, li24, li25, li26, li31, li32, li36, li40, li48, li52, li58, li59, li60, li63, li64, li88, li96, li130, li192, li255, li2208, li2304, li9999, li9, li13, li14, li30, li35, li44, li45, li46, li47, li97, li98, li100, li101, li104, li105, li108, li110, li111, li112, li114, li117, li122, li999999, li1000000, li2147483647, cmp0, cmpl, cmpg, cmple, cmpge, nI_leI, nI_ltI, nI_eq, rL, rI, wL, wI, ob, aLet, nI_add, pk_mul, ↓reduceIte, if_true, if_false, eq_self, Nat.reduceEqDiff, Nat.reduceLeDiff, Nat.reduceLT, Nat.one_ne_zero, Nat.zero_ne_one, Nat.add_zero, Bool.false_eq_true, nI_neq, Nat.le_refl], hI.1, hI.2.1, hI.2.2.1⟩) n 0 aFu (nI 0, m) (by omega) (by show _ < 100000; omega) ⟨rfl, fun v hv => (h0 v hv).trans (by rw [fxt, enc, if_pos rfl]), Fr_refl m, rfl⟩
  exact ⟨e, c1, c2⟩
theorem r_changes127 (m : Rec) : ∃ Z, X9_changes_L127 aFu (nI 0) m = some Z ∧ (∀ v, v < 5 → Z.2.1 29 v = -nI 4) ∧ Fr m Z := by
  obtain ⟨Z, c1, c2⟩ := forUpE (fun n j s => X9_changes_L127 n j s) 5 (fun k Z => (∀ v, v < k → Z.2.1 29 v = -nI 4) ∧ Fr m Z) (fun Z => (∀ v, v < 5 → Z.2.1 29 v = -nI 4) ∧ Fr m Z) (fun n k Z hk hZ => by
      have h : ¬ 5 ≤ k := by omega
      refine ⟨sA Z 29 (upd (Z.2.1 29) k (-nI 4)), ?_, fun v hv => ?_, Fr_A hZ.2 (by omega)⟩
      · simp (disch := omega) only [X9_changes_L127, li0, li1, li2, li3, li4, li5, li6, li7, li8, li11, li12, li16, li24, li25, li26, li31, li32, li36, li40, li48, li52, li58, li59, li60, li63, li64, li88, li96, li130, li192, li255, li2208, li2304, li9999, li9, li13, li14, li30, li35, li44, li45, li46, li47, li97, li98, li100, li101, li104, li105, li108, li110, li111, li112, li114, li117, li122, li999999, li1000000, li2147483647, cmp0, cmpl, cmpg, cmple, cmpge, nI_leI, nI_ltI, nI_eq, rL, rI, wL, wI, ob, aLet, nI_add, pk_mul, ↓reduceIte, if_true, if_false, eq_self, Nat.reduceEqDiff, Nat.reduceLeDiff, Nat.reduceLT, Nat.one_ne_zero, Nat.zero_ne_one, Nat.add_zero, Bool.false_eq_true, nI_neq, h]
      · show upd (Z.2.1 29) k (-nI 4) v = _
        by_cases y : v = k
        · rw [y, pk_us]
        · rw [pk_un y]
          exact hZ.1 v (by omega)) (fun n Z hZ => ⟨Z, by simp (disch := omega) only [X9_changes_L127, li0, li1, li2, li3, li4, li5, li6, li7, li8, li11, li12, li16, li24, li25, li26, li31, li32, li36, li40, li48, li52, li58, li59, li60, li63, li64, li88, li96, li130, li192, li255, li2208, li2304, li9999, li9, li13, li14, li30, li35, li44, li45, li46, li47, li97, li98, li100, li101, li104, li105, li108, li110, li111, li112, li114, li117, li122, li999999, li1000000, li2147483647, cmp0, cmpl, cmpg, cmple, cmpge, nI_leI, nI_ltI, nI_eq, rL, rI, wL, wI, ob, aLet, nI_add, pk_mul, ↓reduceIte, if_true, if_false, eq_self, Nat.reduceEqDiff, Nat.reduceLeDiff, Nat.reduceLT, Nat.one_ne_zero, Nat.zero_ne_one, Nat.add_zero, Bool.false_eq_true, nI_neq, Nat.le_refl], hZ⟩) 5 0 aFu m rfl (by decide) ⟨fun v hv => absurd hv (by omega), Fr_refl m⟩
  exact ⟨Z, c1, c2⟩
/-- items that are all vowels, or one that is none: in class and reference alike -/
theorem vows {m : Rec} {z s i n : Nat} {T : Rec} (hz : z ≤ 24) (hs : s < 4) (hi : i + n ≤ z) (hT : ∀ k, k < z → T.2.2 1 k = m.2.2 28 (24 * s + k)) {x4 : Int32} (hx : nI 2 * x4 = nI n) :
    (X5_hasVowelsAlone z T (nI i) (nI n) = some (nI 0) ∧ X9_changes_L86 x4 m (nI (24 * s + i)) aFu (nI 0) = some (.inl (-nI 2, m))) ∨ ∃ u : Nat → Nat, (∀ k, k < n → u k < 5 ∧ X5_vowelAt z T (nI (i + k)) = some (nI (u k)) ∧ m.2.2 28 (24 * s + i + k) = lN (u k)) ∧ X5_hasVowelsAlone z T (nI i) (nI n) = some (nI 1) ∧ X9_changes_L86 x4 m (nI (24 * s + i)) aFu (nI 0) = some (.inr ()) := by
  have key : ∀ d k n1 n2, k + d = n → d < n1 → d < n2 → (X5_hasVowelsAlone_L2 (nI n) z T (nI i) n1 (nI k) = some (.inl (nI 0)) ∧ X9_changes_L86 x4 m (nI (24 * s + i)) n2 (nI k) = some (.inl (-nI 2, m))) ∨ ((∀ j, k ≤ j → j < n → ∃ u, u < 5 ∧ X5_vowelAt z T (nI (i + j)) = some (nI u) ∧ m.2.2 28 (24 * s + i + j) = lN u) ∧ X5_hasVowelsAlone_L2 (nI n) z T (nI i) n1 (nI k) = some (.inr ()) ∧ X9_changes_L86 x4 m (nI (24 * s + i)) n2 (nI k) = some (.inr ())) := by
    intro d
    induction d with
    | zero =>
      intro k n1 n2 h1 h2 h3
      obtain ⟨n1, rfl⟩ : ∃ z, n1 = z + 1 := ⟨n1 - 1, by omega⟩
      obtain ⟨n2, rfl⟩ : ∃ z, n2 = z + 1 := ⟨n2 - 1, by omega⟩
      have h : n ≤ k := by omega
      refine Or.inr ⟨fun j h4 h5 => absurd h5 (by omega), ?_, ?_⟩
      · simp (disch := omega) only [X5_hasVowelsAlone_L2, li0, li1, li2, li3, li4, li5, li6, li7, li8, li11, li12, li16, li24, li25, li26, li31, li32, li36, li40, li48, li52, li58, li59, li60, li63, li64, li88, li96, li130, li192, li255, li2208, li2304, li9999, li9, li13, li14, li30, li35, li44, li45, li46, li47, li97, li98, li100, li101, li104, li105, li108, li110, li111, li112, li114, li117, li122, li999999, li1000000, li2147483647, cmp0, cmpl, cmpg, cmple, cmpge, nI_leI, nI_ltI, nI_eq, rL, rI, wL, wI, ob, aLet, nI_add, pk_mul, ↓reduceIte, if_true, if_false, eq_self, Nat.reduceEqDiff, Nat.reduceLeDiff, Nat.reduceLT, Nat.one_ne_zero, Nat.zero_ne_one, Nat.add_zero, Bool.false_eq_true, nI_neq, h]
      · rw [X9_changes_L86, show (2 : Int32) = nI 2 from rfl, hx, if_pos (nI_le h (by omega))]
    | succ d ih =>
      intro k n1 n2 h1 h2 h3
      obtain ⟨n1, rfl⟩ : ∃ z, n1 = z + 1 := ⟨n1 - 1, by omega⟩
      obtain ⟨n2, rfl⟩ : ∃ z, n2 = z + 1 := ⟨n2 - 1, by omega⟩
      have h : ¬ n ≤ k := by omega
      have eT := hT (i + k) (by omega)
      rw [show 24 * s + (i + k) = 24 * s + i + k by omega] at eT
      have rd : rdL (m.2.2 28) 96 (nI (24 * s + i) + nI k) = some (m.2.2 28 (24 * s + i + k)) := by
        rw [nI_add]
        exact rL (by omega) (by decide)
      have step : X9_changes_L86 x4 m (nI (24 * s + i)) (n2 + 1) (nI k) = if X9_in (m.2.2 28 (24 * s + i + k)) (0 : Int64) (4 : Int64) = 0 then some (.inl ((-2 : Int32), m)) else X9_changes_L86 x4 m (nI (24 * s + i)) n2 (nI (k + 1)) := by
        rw [X9_changes_L86, show (2 : Int32) = nI 2 from rfl, hx, if_neg (nI_ge (by omega) (by omega)), rd, ob, aLet, nI_1]
      rcases vow (S := T) hz (k := i + k) (by omega) with ⟨p1, p2⟩ | ⟨u, p1, p2, p3, p4⟩
      · refine Or.inl ⟨?_, ?_⟩
        · simp (disch := omega) only [X5_hasVowelsAlone_L2, p1, neg1, li0, li1, li2, li3, li4, li5, li6, li7, li8, li11, li12, li16, li24, li25, li26, li31, li32, li36, li40, li48, li52, li58, li59, li60, li63, li64, li88, li96, li130, li192, li255, li2208, li2304, li9999, li9, li13, li14, li30, li35, li44, li45, li46, li47, li97, li98, li100, li101, li104, li105, li108, li110, li111, li112, li114, li117, li122, li999999, li1000000, li2147483647, cmp0, cmpl, cmpg, cmple, cmpge, nI_leI, nI_ltI, nI_eq, rL, rI, wL, wI, ob, aLet, nI_add, pk_mul, ↓reduceIte, if_true, if_false, eq_self, Nat.reduceEqDiff, Nat.reduceLeDiff, Nat.reduceLT, Nat.one_ne_zero, Nat.zero_ne_one, Nat.add_zero, Bool.false_eq_true, nI_neq, h]
        · rw [step, ← eT, p2]
          rfl
      · have u0 : (0 ≤ u) = True := by simp
        have s1 : X5_hasVowelsAlone_L2 (nI n) z T (nI i) (n1 + 1) (nI k) = X5_hasVowelsAlone_L2 (nI n) z T (nI i) n1 (nI (k + 1)) := by
          simp (disch := omega) only [X5_hasVowelsAlone_L2, p3, u0, li0, li1, li2, li3, li4, li5, li6, li7, li8, li11, li12, li16, li24, li25, li26, li31, li32, li36, li40, li48, li52, li58, li59, li60, li63, li64, li88, li96, li130, li192, li255, li2208, li2304, li9999, li9, li13, li14, li30, li35, li44, li45, li46, li47, li97, li98, li100, li101, li104, li105, li108, li110, li111, li112, li114, li117, li122, li999999, li1000000, li2147483647, cmp0, cmpl, cmpg, cmple, cmpge, nI_leI, nI_ltI, nI_eq, rL, rI, wL, wI, ob, aLet, nI_add, pk_mul, ↓reduceIte, if_true, if_false, eq_self, Nat.reduceEqDiff, Nat.reduceLeDiff, Nat.reduceLT, Nat.one_ne_zero, Nat.zero_ne_one, Nat.add_zero, Bool.false_eq_true, nI_neq, h]
        have s2 : X9_changes_L86 x4 m (nI (24 * s + i)) (n2 + 1) (nI k) = X9_changes_L86 x4 m (nI (24 * s + i)) n2 (nI (k + 1)) := by
          rw [step, ← eT, p4]
          rfl
        rw [s1, s2]
        rcases ih (k + 1) n1 n2 (by omega) (by omega) (by omega) with g | ⟨g1, g2⟩
        · exact Or.inl g
        · refine Or.inr ⟨fun j h4 h5 => ?_, g2⟩
          by_cases y : j = k
          · subst y
            exact ⟨u, p1, p3, by rw [← eT]; exact p2⟩
          · exact g1 j (by omega) h5
  rcases key n 0 aFu aFu (by omega) (by show _ < 100000; omega) (by show _ < 100000; omega) with ⟨g1, g2⟩ | ⟨g1, g2, g3⟩
  · refine Or.inl ⟨?_, g2⟩
    unfold X5_hasVowelsAlone
    have g1 : X5_hasVowelsAlone_L2 (nI n) z T (nI i) aFu 0 = _ := g1
    rw [g1]
    rfl
  · have cf : ∃ u : Nat → Nat, ∀ j, j < n → u j < 5 ∧ X5_vowelAt z T (nI (i + j)) = some (nI (u j)) ∧ m.2.2 28 (24 * s + i + j) = lN (u j) := by
      refine ⟨fun j => if h : j < n then (g1 j (by omega) h).choose else 0, fun j hj => ?_⟩
      dsimp only
      rw [dif_pos hj]
      exact (g1 j (by omega) hj).choose_spec
    obtain ⟨u, hu⟩ := cf
    refine Or.inr ⟨u, hu, ?_, g3⟩
    unfold X5_hasVowelsAlone
    have g2 : X5_hasVowelsAlone_L2 (nI n) z T (nI i) aFu 0 = _ := g2
    rw [g2]
    rfl
theorem eq_changes {c : CSt} {m : Rec} (hI : Inv c m) (x1 : Int32) (x2 : Int32) (x3 : Int32) (x4 : Int32) (x5 : Int32) : ∃ (r : Int32) (c1 : CSt) (m1 : Rec), stC_changes c x1 x2 x3 x4 x5 = some (r, c1) ∧ stM_changes m x1 x2 x3 x4 x5 = some (r, m1) ∧ Inv c1 m1 := by
  obtain ⟨hL, hT, hP, hImg, hSh⟩ := id hI
  have fin : ∀ v f' m', X8_changes (c_D c) (c_finder c) x1 x2 x3 x4 x5 = some (v, f') → X9_changes m x1 x2 x3 x4 x5 = some (v, m') → Fr m m' → ∃ (r : Int32) (c1 : CSt) (m1 : Rec), stC_changes c x1 x2 x3 x4 x5 = some (r, c1) ∧ stM_changes m x1 x2 x3 x4 x5 = some (r, m1) ∧ Inv c1 m1 := fun v f' m' h1 h2 h3 => ⟨v, (c_tape c, c_now c, c_past c, c_D c, c_trial c, c_earlier c, c_sets c, c_survey c, c_marriages c, f'), m', by unfold stC_changes; rw [h1]; rfl, by unfold stM_changes; rw [h2]; rfl, inv_fr hI h3 _ _ _ _ _ _⟩
  have refuse : ∀ v, X8_changes (c_D c) (c_finder c) x1 x2 x3 x4 x5 = some (v, c_finder c) → X9_changes m x1 x2 x3 x4 x5 = some (v, m) → ∃ (r : Int32) (c1 : CSt) (m1 : Rec), stC_changes c x1 x2 x3 x4 x5 = some (r, c1) ∧ stM_changes m x1 x2 x3 x4 x5 = some (r, m1) ∧ Inv c1 m1 := fun v h1 h2 => fin v _ _ h1 h2 (Fr_refl m)
  have k11 : ¬ (-nI 11 = nI 0) := by decide
  have k12 : ¬ (-nI 12 = nI 0) := by decide
  have k13 : ¬ (-nI 13 = nI 0) := by decide
  rcases rg_0_3 x1 with ⟨a, b, -⟩ | ⟨s, -, hs, rfl, a, b⟩
  · refine refuse (-nI 1) ?_ ?_
    · simp (disch := omega) only [X8_changes, a, li0, li1, li2, li3, li4, li5, li6, li7, li8, li11, li12, li16, li24, li25, li26, li31, li32, li36, li40, li48, li52, li58, li59, li60, li63, li64, li88, li96, li130, li192, li255, li2208, li2304, li9999, li9, li13, li14, li30, li35, li44, li45, li46, li47, li97, li98, li100, li101, li104, li105, li108, li110, li111, li112, li114, li117, li122, li999999, li1000000, li2147483647, cmp0, cmpl, cmpg, cmple, cmpge, nI_leI, nI_ltI, nI_eq, rL, rI, wL, wI, ob, aLet, nI_add, pk_mul, ↓reduceIte, if_true, if_false, eq_self, Nat.reduceEqDiff, Nat.reduceLeDiff, Nat.reduceLT, Nat.one_ne_zero, Nat.zero_ne_one, Nat.add_zero, Bool.false_eq_true, nI_neq]
    · simp (disch := omega) only [X9_changes, X9_isSheet, b, li0, li1, li2, li3, li4, li5, li6, li7, li8, li11, li12, li16, li24, li25, li26, li31, li32, li36, li40, li48, li52, li58, li59, li60, li63, li64, li88, li96, li130, li192, li255, li2208, li2304, li9999, li9, li13, li14, li30, li35, li44, li45, li46, li47, li97, li98, li100, li101, li104, li105, li108, li110, li111, li112, li114, li117, li122, li999999, li1000000, li2147483647, cmp0, cmpl, cmpg, cmple, cmpge, nI_leI, nI_ltI, nI_eq, rL, rI, wL, wI, ob, aLet, nI_add, pk_mul, ↓reduceIte, if_true, if_false, eq_self, Nat.reduceEqDiff, Nat.reduceLeDiff, Nat.reduceLT, Nat.one_ne_zero, Nat.zero_ne_one, Nat.add_zero, Bool.false_eq_true, nI_neq]
  rcases rg_0_3 x2 with ⟨e, f, -⟩ | ⟨l, -, hl, rfl, e, f⟩
  · refine refuse (-nI 1) ?_ ?_
    · simp (disch := omega) only [X8_changes, a, e, li0, li1, li2, li3, li4, li5, li6, li7, li8, li11, li12, li16, li24, li25, li26, li31, li32, li36, li40, li48, li52, li58, li59, li60, li63, li64, li88, li96, li130, li192, li255, li2208, li2304, li9999, li9, li13, li14, li30, li35, li44, li45, li46, li47, li97, li98, li100, li101, li104, li105, li108, li110, li111, li112, li114, li117, li122, li999999, li1000000, li2147483647, cmp0, cmpl, cmpg, cmple, cmpge, nI_leI, nI_ltI, nI_eq, rL, rI, wL, wI, ob, aLet, nI_add, pk_mul, ↓reduceIte, if_true, if_false, eq_self, Nat.reduceEqDiff, Nat.reduceLeDiff, Nat.reduceLT, Nat.one_ne_zero, Nat.zero_ne_one, Nat.add_zero, Bool.false_eq_true, nI_neq]
    · simp (disch := omega) only [X9_changes, X9_isSheet, b, f, li0, li1, li2, li3, li4, li5, li6, li7, li8, li11, li12, li16, li24, li25, li26, li31, li32, li36, li40, li48, li52, li58, li59, li60, li63, li64, li88, li96, li130, li192, li255, li2208, li2304, li9999, li9, li13, li14, li30, li35, li44, li45, li46, li47, li97, li98, li100, li101, li104, li105, li108, li110, li111, li112, li114, li117, li122, li999999, li1000000, li2147483647, cmp0, cmpl, cmpg, cmple, cmpge, nI_leI, nI_ltI, nI_eq, rL, rI, wL, wI, ob, aLet, nI_add, pk_mul, ↓reduceIte, if_true, if_false, eq_self, Nat.reduceEqDiff, Nat.reduceLeDiff, Nat.reduceLT, Nat.one_ne_zero, Nat.zero_ne_one, Nat.add_zero, Bool.false_eq_true, nI_neq]
  rcases rg_1_12 x4 with ⟨g, h, -⟩ | ⟨n, hn1, hn, rfl, g, h⟩
  · refine refuse (-nI 1) ?_ ?_
    · simp (disch := omega) only [X8_changes, a, e, g, li0, li1, li2, li3, li4, li5, li6, li7, li8, li11, li12, li16, li24, li25, li26, li31, li32, li36, li40, li48, li52, li58, li59, li60, li63, li64, li88, li96, li130, li192, li255, li2208, li2304, li9999, li9, li13, li14, li30, li35, li44, li45, li46, li47, li97, li98, li100, li101, li104, li105, li108, li110, li111, li112, li114, li117, li122, li999999, li1000000, li2147483647, cmp0, cmpl, cmpg, cmple, cmpge, nI_leI, nI_ltI, nI_eq, rL, rI, wL, wI, ob, aLet, nI_add, pk_mul, ↓reduceIte, if_true, if_false, eq_self, Nat.reduceEqDiff, Nat.reduceLeDiff, Nat.reduceLT, Nat.one_ne_zero, Nat.zero_ne_one, Nat.add_zero, Bool.false_eq_true, nI_neq]
    · simp (disch := omega) only [X9_changes, X9_isSheet, b, f, h, li0, li1, li2, li3, li4, li5, li6, li7, li8, li11, li12, li16, li24, li25, li26, li31, li32, li36, li40, li48, li52, li58, li59, li60, li63, li64, li88, li96, li130, li192, li255, li2208, li2304, li9999, li9, li13, li14, li30, li35, li44, li45, li46, li47, li97, li98, li100, li101, li104, li105, li108, li110, li111, li112, li114, li117, li122, li999999, li1000000, li2147483647, cmp0, cmpl, cmpg, cmple, cmpge, nI_leI, nI_ltI, nI_eq, rL, rI, wL, wI, ob, aLet, nI_add, pk_mul, ↓reduceIte, if_true, if_false, eq_self, Nat.reduceEqDiff, Nat.reduceLeDiff, Nat.reduceLT, Nat.one_ne_zero, Nat.zero_ne_one, Nat.add_zero, Bool.false_eq_true, nI_neq]
  have cs : (nI s).toNatClampNeg = s := nI_clamp (by omega)
  have m2 : nI 2 * nI n = nI (2 * n) := pk_mul 2 n
  rcases (show x5 = -nI 4 ∨ (¬ x5 = -nI 4 ∧ X8_within x5 (nI 0) (nI 4) = nI 0 ∧ X9_in x5.toInt64 (0 : Int64) (4 : Int64) = nI 0) ∨ ∃ v, v < 5 ∧ x5 = nI v ∧ X8_within (nI v) (nI 0) (nI 4) = nI 1 ∧ X9_in (nI v).toInt64 (0 : Int64) (4 : Int64) = nI 1 by
    by_cases y : x5 = -nI 4
    · exact Or.inl y
    · rcases rg_0_4 x5 with ⟨q1, q2, -⟩ | ⟨v, -, hv, rfl, q1, q2⟩
      · exact Or.inr (Or.inl ⟨y, q1, q2⟩)
      · exact Or.inr (Or.inr ⟨v, by omega, rfl, q1, q2⟩)) with rfl | ⟨a1, a2, a3⟩ | ⟨v, hv, rfl, a2, a3⟩
  · rcases refusal hSh (s := s) (l := l) (by omega) (by omega) x3 (n := 2 * n) (by omega) with ⟨q1, q2⟩ | ⟨q, w, q1, q3, q4, q5, q2⟩ | ⟨q, q1, q3, q4, q2⟩ | ⟨q, i, q1, q3, rfl, q4, q5, q6, q2⟩
    · refine refuse (-nI 11) ?_ ?_
      · simp (disch := omega) only [X8_changes, a, e, g, rQ, q1, aQs, li0, li1, li2, li3, li4, li5, li6, li7, li8, li11, li12, li16, li24, li25, li26, li31, li32, li36, li40, li48, li52, li58, li59, li60, li63, li64, li88, li96, li130, li192, li255, li2208, li2304, li9999, li9, li13, li14, li30, li35, li44, li45, li46, li47, li97, li98, li100, li101, li104, li105, li108, li110, li111, li112, li114, li117, li122, li999999, li1000000, li2147483647, cmp0, cmpl, cmpg, cmple, cmpge, nI_leI, nI_ltI, nI_eq, rL, rI, wL, wI, ob, aLet, nI_add, pk_mul, ↓reduceIte, if_true, if_false, eq_self, Nat.reduceEqDiff, Nat.reduceLeDiff, Nat.reduceLT, Nat.one_ne_zero, Nat.zero_ne_one, Nat.add_zero, Bool.false_eq_true, nI_neq]
      · simp (disch := omega) only [X9_changes, X9_changes_J54, X9_isSheet, b, f, h, q2, k11, li0, li1, li2, li3, li4, li5, li6, li7, li8, li11, li12, li16, li24, li25, li26, li31, li32, li36, li40, li48, li52, li58, li59, li60, li63, li64, li88, li96, li130, li192, li255, li2208, li2304, li9999, li9, li13, li14, li30, li35, li44, li45, li46, li47, li97, li98, li100, li101, li104, li105, li108, li110, li111, li112, li114, li117, li122, li999999, li1000000, li2147483647, cmp0, cmpl, cmpg, cmple, cmpge, nI_leI, nI_ltI, nI_eq, rL, rI, wL, wI, ob, aLet, nI_add, pk_mul, ↓reduceIte, if_true, if_false, eq_self, Nat.reduceEqDiff, Nat.reduceLeDiff, Nat.reduceLT, Nat.one_ne_zero, Nat.zero_ne_one, Nat.add_zero, Bool.false_eq_true, nI_neq]
    · refine refuse (-nI 12) ?_ ?_
      · simp (disch := omega) only [X8_changes, a, e, g, rQ, q1, aQs, cs, q4, q5, li0, li1, li2, li3, li4, li5, li6, li7, li8, li11, li12, li16, li24, li25, li26, li31, li32, li36, li40, li48, li52, li58, li59, li60, li63, li64, li88, li96, li130, li192, li255, li2208, li2304, li9999, li9, li13, li14, li30, li35, li44, li45, li46, li47, li97, li98, li100, li101, li104, li105, li108, li110, li111, li112, li114, li117, li122, li999999, li1000000, li2147483647, cmp0, cmpl, cmpg, cmple, cmpge, nI_leI, nI_ltI, nI_eq, rL, rI, wL, wI, ob, aLet, nI_add, pk_mul, ↓reduceIte, if_true, if_false, eq_self, Nat.reduceEqDiff, Nat.reduceLeDiff, Nat.reduceLT, Nat.one_ne_zero, Nat.zero_ne_one, Nat.add_zero, Bool.false_eq_true, nI_neq]
      · simp (disch := omega) only [X9_changes, X9_changes_J54, X9_isSheet, b, f, h, q2, k12, li0, li1, li2, li3, li4, li5, li6, li7, li8, li11, li12, li16, li24, li25, li26, li31, li32, li36, li40, li48, li52, li58, li59, li60, li63, li64, li88, li96, li130, li192, li255, li2208, li2304, li9999, li9, li13, li14, li30, li35, li44, li45, li46, li47, li97, li98, li100, li101, li104, li105, li108, li110, li111, li112, li114, li117, li122, li999999, li1000000, li2147483647, cmp0, cmpl, cmpg, cmple, cmpge, nI_leI, nI_ltI, nI_eq, rL, rI, wL, wI, ob, aLet, nI_add, pk_mul, ↓reduceIte, if_true, if_false, eq_self, Nat.reduceEqDiff, Nat.reduceLeDiff, Nat.reduceLT, Nat.one_ne_zero, Nat.zero_ne_one, Nat.add_zero, Bool.false_eq_true, nI_neq]
    · refine refuse (-nI 13) ?_ ?_
      · simp (disch := omega) only [X8_changes, a, e, g, rQ, q1, aQs, cs, q3, q4, li0, li1, li2, li3, li4, li5, li6, li7, li8, li11, li12, li16, li24, li25, li26, li31, li32, li36, li40, li48, li52, li58, li59, li60, li63, li64, li88, li96, li130, li192, li255, li2208, li2304, li9999, li9, li13, li14, li30, li35, li44, li45, li46, li47, li97, li98, li100, li101, li104, li105, li108, li110, li111, li112, li114, li117, li122, li999999, li1000000, li2147483647, cmp0, cmpl, cmpg, cmple, cmpge, nI_leI, nI_ltI, nI_eq, rL, rI, wL, wI, ob, aLet, nI_add, pk_mul, ↓reduceIte, if_true, if_false, eq_self, Nat.reduceEqDiff, Nat.reduceLeDiff, Nat.reduceLT, Nat.one_ne_zero, Nat.zero_ne_one, Nat.add_zero, Bool.false_eq_true, nI_neq]
      · simp (disch := omega) only [X9_changes, X9_changes_J54, X9_isSheet, b, f, h, q2, k13, li0, li1, li2, li3, li4, li5, li6, li7, li8, li11, li12, li16, li24, li25, li26, li31, li32, li36, li40, li48, li52, li58, li59, li60, li63, li64, li88, li96, li130, li192, li255, li2208, li2304, li9999, li9, li13, li14, li30, li35, li44, li45, li46, li47, li97, li98, li100, li101, li104, li105, li108, li110, li111, li112, li114, li117, li122, li999999, li1000000, li2147483647, cmp0, cmpl, cmpg, cmple, cmpge, nI_leI, nI_ltI, nI_eq, rL, rI, wL, wI, ob, aLet, nI_add, pk_mul, ↓reduceIte, if_true, if_false, eq_self, Nat.reduceEqDiff, Nat.reduceLeDiff, Nat.reduceLT, Nat.one_ne_zero, Nat.zero_ne_one, Nat.add_zero, Bool.false_eq_true, nI_neq]
    have hTm : ∀ k, k < (c_D c).2.2.2.1 (26 + s) → ((c_D c).2.2.2.2.1 (26 + s)).2.2 1 k = m.2.2 28 (24 * s + k) := by
      rcases hSh s (by omega) with ⟨u1, u2⟩ | ⟨u1, u2, u3, u4, u5⟩
      · rw [u1] at q1
        cases q1
      · exact u5
    rcases vows (m := m) q5 (show s < 4 by omega) q4 hTm m2 with ⟨v1, v2⟩ | ⟨u, v0, v1, v2⟩
    · refine refuse (-nI 2) ?_ ?_
      · simp (disch := omega) only [X8_changes, a, e, g, rQ, q1, aQs, cs, q3, q6, v1, li0, li1, li2, li3, li4, li5, li6, li7, li8, li11, li12, li16, li24, li25, li26, li31, li32, li36, li40, li48, li52, li58, li59, li60, li63, li64, li88, li96, li130, li192, li255, li2208, li2304, li9999, li9, li13, li14, li30, li35, li44, li45, li46, li47, li97, li98, li100, li101, li104, li105, li108, li110, li111, li112, li114, li117, li122, li999999, li1000000, li2147483647, cmp0, cmpl, cmpg, cmple, cmpge, nI_leI, nI_ltI, nI_eq, rL, rI, wL, wI, ob, aLet, nI_add, pk_mul, ↓reduceIte, if_true, if_false, eq_self, Nat.reduceEqDiff, Nat.reduceLeDiff, Nat.reduceLT, Nat.one_ne_zero, Nat.zero_ne_one, Nat.add_zero, Bool.false_eq_true, nI_neq]
      · have v2' : X9_changes_L86 (nI n) m (nI (24 * s) + nI i) aFu (nI 0) = some (.inl (-nI 2, m)) := by rw [nI_add]; exact v2
        simp (disch := omega) only [X9_changes, X9_changes_J54, X9_isSheet, b, f, h, q2, v2, aCs, li0, li1, li2, li3, li4, li5, li6, li7, li8, li11, li12, li16, li24, li25, li26, li31, li32, li36, li40, li48, li52, li58, li59, li60, li63, li64, li88, li96, li130, li192, li255, li2208, li2304, li9999, li9, li13, li14, li30, li35, li44, li45, li46, li47, li97, li98, li100, li101, li104, li105, li108, li110, li111, li112, li114, li117, li122, li999999, li1000000, li2147483647, cmp0, cmpl, cmpg, cmple, cmpge, nI_leI, nI_ltI, nI_eq, rL, rI, wL, wI, ob, aLet, nI_add, pk_mul, ↓reduceIte, if_true, if_false, eq_self, Nat.reduceEqDiff, Nat.reduceLeDiff, Nat.reduceLT, Nat.one_ne_zero, Nat.zero_ne_one, Nat.add_zero, Bool.false_eq_true, nI_neq]
    have hu : ∀ k, k < 2 * n → u k < 5 := fun k hk => (v0 k hk).1
    obtain ⟨F', c1, c2, c3⟩ := c_compare (S := c_finder c) q5 q4 (fun k hk => ⟨(v0 k hk).1, (v0 k hk).2.1⟩)
    have fl : ∀ v, fxt u n v < 5 ∨ fxt u n v = 9 := fxt_le hu n (Nat.le_refl n)
    obtain ⟨M1, d1, d2, d3⟩ := r_changes127 m
    obtain ⟨E, e1, e2, e3, e4⟩ := r_changes154 (m := M1) (b := 24 * s + i) (n := n) (u := u) (by omega) (fun k hk => ⟨(v0 k hk).1, by rw [d3.2.2.2.2.2.2.2.2.2]; exact (v0 k hk).2.2⟩) d2
    have rw0 := r_ways e3 fl 0 (by omega)
    have rw1 := r_ways e3 fl 1 (by omega)
    have hm := c_howMany c2 c3 fl
    refine fin (nI (wys (fxt u n) (if qrt u n then 0 else 1) 5)) F' E.2 ?_ ?_ (Fr_trans d3 e4)
    · simp (disch := omega) only [X8_changes, a, e, g, rQ, q1, aQs, cs, q3, q6, v1, c1, hm, li0, li1, li2, li3, li4, li5, li6, li7, li8, li11, li12, li16, li24, li25, li26, li31, li32, li36, li40, li48, li52, li58, li59, li60, li63, li64, li88, li96, li130, li192, li255, li2208, li2304, li9999, li9, li13, li14, li30, li35, li44, li45, li46, li47, li97, li98, li100, li101, li104, li105, li108, li110, li111, li112, li114, li117, li122, li999999, li1000000, li2147483647, cmp0, cmpl, cmpg, cmple, cmpge, nI_leI, nI_ltI, nI_eq, rL, rI, wL, wI, ob, aLet, nI_add, pk_mul, ↓reduceIte, if_true, if_false, eq_self, Nat.reduceEqDiff, Nat.reduceLeDiff, Nat.reduceLT, Nat.one_ne_zero, Nat.zero_ne_one, Nat.add_zero, Bool.false_eq_true, nI_neq]
    · cases hq : qrt u n
      · rw [hq] at e2
        have e2 : E.1 = nI 0 := e2
        simp (disch := omega) only [X9_changes, X9_changes_J54, X9_changes_J254, X9_isSheet, b, f, h, q2, v2, aCs, d1, e1, e2, rw1, li0, li1, li2, li3, li4, li5, li6, li7, li8, li11, li12, li16, li24, li25, li26, li31, li32, li36, li40, li48, li52, li58, li59, li60, li63, li64, li88, li96, li130, li192, li255, li2208, li2304, li9999, li9, li13, li14, li30, li35, li44, li45, li46, li47, li97, li98, li100, li101, li104, li105, li108, li110, li111, li112, li114, li117, li122, li999999, li1000000, li2147483647, cmp0, cmpl, cmpg, cmple, cmpge, nI_leI, nI_ltI, nI_eq, rL, rI, wL, wI, ob, aLet, nI_add, pk_mul, ↓reduceIte, if_true, if_false, eq_self, Nat.reduceEqDiff, Nat.reduceLeDiff, Nat.reduceLT, Nat.one_ne_zero, Nat.zero_ne_one, Nat.add_zero, Bool.false_eq_true, nI_neq]
      · rw [hq] at e2
        have e2 : E.1 = nI 1 := e2
        simp (disch := omega) only [X9_changes, X9_changes_J54, X9_changes_J254, X9_isSheet, b, f, h, q2, v2, aCs, d1, e1, e2, rw0, li0, li1, li2, li3, li4, li5, li6, li7, li8, li11, li12, li16, li24, li25, li26, li31, li32, li36, li40, li48, li52, li58, li59, li60, li63, li64, li88, li96, li130, li192, li255, li2208, li2304, li9999, li9, li13, li14, li30, li35, li44, li45, li46, li47, li97, li98, li100, li101, li104, li105, li108, li110, li111, li112, li114, li117, li122, li999999, li1000000, li2147483647, cmp0, cmpl, cmpg, cmple, cmpge, nI_leI, nI_ltI, nI_eq, rL, rI, wL, wI, ob, aLet, nI_add, pk_mul, ↓reduceIte, if_true, if_false, eq_self, Nat.reduceEqDiff, Nat.reduceLeDiff, Nat.reduceLT, Nat.one_ne_zero, Nat.zero_ne_one, Nat.add_zero, Bool.false_eq_true, nI_neq]
  · refine refuse (-nI 1) ?_ ?_
    · simp (disch := omega) only [X8_changes, a, e, g, a1, a2, li0, li1, li2, li3, li4, li5, li6, li7, li8, li11, li12, li16, li24, li25, li26, li31, li32, li36, li40, li48, li52, li58, li59, li60, li63, li64, li88, li96, li130, li192, li255, li2208, li2304, li9999, li9, li13, li14, li30, li35, li44, li45, li46, li47, li97, li98, li100, li101, li104, li105, li108, li110, li111, li112, li114, li117, li122, li999999, li1000000, li2147483647, cmp0, cmpl, cmpg, cmple, cmpge, nI_leI, nI_ltI, nI_eq, rL, rI, wL, wI, ob, aLet, nI_add, pk_mul, ↓reduceIte, if_true, if_false, eq_self, Nat.reduceEqDiff, Nat.reduceLeDiff, Nat.reduceLT, Nat.one_ne_zero, Nat.zero_ne_one, Nat.add_zero, Bool.false_eq_true, nI_neq]
    · simp (disch := omega) only [X9_changes, X9_isSheet, b, f, h, a1, a3, li0, li1, li2, li3, li4, li5, li6, li7, li8, li11, li12, li16, li24, li25, li26, li31, li32, li36, li40, li48, li52, li58, li59, li60, li63, li64, li88, li96, li130, li192, li255, li2208, li2304, li9999, li9, li13, li14, li30, li35, li44, li45, li46, li47, li97, li98, li100, li101, li104, li105, li108, li110, li111, li112, li114, li117, li122, li999999, li1000000, li2147483647, cmp0, cmpl, cmpg, cmple, cmpge, nI_leI, nI_ltI, nI_eq, rL, rI, wL, wI, ob, aLet, nI_add, pk_mul, ↓reduceIte, if_true, if_false, eq_self, Nat.reduceEqDiff, Nat.reduceLeDiff, Nat.reduceLT, Nat.one_ne_zero, Nat.zero_ne_one, Nat.add_zero, Bool.false_eq_true, nI_neq]
  · rcases refusal hSh (s := s) (l := l) (by omega) (by omega) x3 (n := 2 * n) (by omega) with ⟨q1, q2⟩ | ⟨q, w, q1, q3, q4, q5, q2⟩ | ⟨q, q1, q3, q4, q2⟩ | ⟨q, i, q1, q3, rfl, q4, q5, q6, q2⟩
    · refine refuse (-nI 11) ?_ ?_
      · simp (disch := omega) only [X8_changes, a, e, g, a2, rQ, q1, aQs, li0, li1, li2, li3, li4, li5, li6, li7, li8, li11, li12, li16, li24, li25, li26, li31, li32, li36, li40, li48, li52, li58, li59, li60, li63, li64, li88, li96, li130, li192, li255, li2208, li2304, li9999, li9, li13, li14, li30, li35, li44, li45, li46, li47, li97, li98, li100, li101, li104, li105, li108, li110, li111, li112, li114, li117, li122, li999999, li1000000, li2147483647, cmp0, cmpl, cmpg, cmple, cmpge, nI_leI, nI_ltI, nI_eq, rL, rI, wL, wI, ob, aLet, nI_add, pk_mul, ↓reduceIte, if_true, if_false, eq_self, Nat.reduceEqDiff, Nat.reduceLeDiff, Nat.reduceLT, Nat.one_ne_zero, Nat.zero_ne_one, Nat.add_zero, Bool.false_eq_true, nI_neq]
      · simp (disch := omega) only [X9_changes, X9_changes_J54, X9_isSheet, b, f, h, a3, q2, k11, li0, li1, li2, li3, li4, li5, li6, li7, li8, li11, li12, li16, li24, li25, li26, li31, li32, li36, li40, li48, li52, li58, li59, li60, li63, li64, li88, li96, li130, li192, li255, li2208, li2304, li9999, li9, li13, li14, li30, li35, li44, li45, li46, li47, li97, li98, li100, li101, li104, li105, li108, li110, li111, li112, li114, li117, li122, li999999, li1000000, li2147483647, cmp0, cmpl, cmpg, cmple, cmpge, nI_leI, nI_ltI, nI_eq, rL, rI, wL, wI, ob, aLet, nI_add, pk_mul, ↓reduceIte, if_true, if_false, eq_self, Nat.reduceEqDiff, Nat.reduceLeDiff, Nat.reduceLT, Nat.one_ne_zero, Nat.zero_ne_one, Nat.add_zero, Bool.false_eq_true, nI_neq]
    · refine refuse (-nI 12) ?_ ?_
      · simp (disch := omega) only [X8_changes, a, e, g, a2, rQ, q1, aQs, cs, q4, q5, li0, li1, li2, li3, li4, li5, li6, li7, li8, li11, li12, li16, li24, li25, li26, li31, li32, li36, li40, li48, li52, li58, li59, li60, li63, li64, li88, li96, li130, li192, li255, li2208, li2304, li9999, li9, li13, li14, li30, li35, li44, li45, li46, li47, li97, li98, li100, li101, li104, li105, li108, li110, li111, li112, li114, li117, li122, li999999, li1000000, li2147483647, cmp0, cmpl, cmpg, cmple, cmpge, nI_leI, nI_ltI, nI_eq, rL, rI, wL, wI, ob, aLet, nI_add, pk_mul, ↓reduceIte, if_true, if_false, eq_self, Nat.reduceEqDiff, Nat.reduceLeDiff, Nat.reduceLT, Nat.one_ne_zero, Nat.zero_ne_one, Nat.add_zero, Bool.false_eq_true, nI_neq]
      · simp (disch := omega) only [X9_changes, X9_changes_J54, X9_isSheet, b, f, h, a3, q2, k12, li0, li1, li2, li3, li4, li5, li6, li7, li8, li11, li12, li16, li24, li25, li26, li31, li32, li36, li40, li48, li52, li58, li59, li60, li63, li64, li88, li96, li130, li192, li255, li2208, li2304, li9999, li9, li13, li14, li30, li35, li44, li45, li46, li47, li97, li98, li100, li101, li104, li105, li108, li110, li111, li112, li114, li117, li122, li999999, li1000000, li2147483647, cmp0, cmpl, cmpg, cmple, cmpge, nI_leI, nI_ltI, nI_eq, rL, rI, wL, wI, ob, aLet, nI_add, pk_mul, ↓reduceIte, if_true, if_false, eq_self, Nat.reduceEqDiff, Nat.reduceLeDiff, Nat.reduceLT, Nat.one_ne_zero, Nat.zero_ne_one, Nat.add_zero, Bool.false_eq_true, nI_neq]
    · refine refuse (-nI 13) ?_ ?_
      · simp (disch := omega) only [X8_changes, a, e, g, a2, rQ, q1, aQs, cs, q3, q4, li0, li1, li2, li3, li4, li5, li6, li7, li8, li11, li12, li16, li24, li25, li26, li31, li32, li36, li40, li48, li52, li58, li59, li60, li63, li64, li88, li96, li130, li192, li255, li2208, li2304, li9999, li9, li13, li14, li30, li35, li44, li45, li46, li47, li97, li98, li100, li101, li104, li105, li108, li110, li111, li112, li114, li117, li122, li999999, li1000000, li2147483647, cmp0, cmpl, cmpg, cmple, cmpge, nI_leI, nI_ltI, nI_eq, rL, rI, wL, wI, ob, aLet, nI_add, pk_mul, ↓reduceIte, if_true, if_false, eq_self, Nat.reduceEqDiff, Nat.reduceLeDiff, Nat.reduceLT, Nat.one_ne_zero, Nat.zero_ne_one, Nat.add_zero, Bool.false_eq_true, nI_neq]
      · simp (disch := omega) only [X9_changes, X9_changes_J54, X9_isSheet, b, f, h, a3, q2, k13, li0, li1, li2, li3, li4, li5, li6, li7, li8, li11, li12, li16, li24, li25, li26, li31, li32, li36, li40, li48, li52, li58, li59, li60, li63, li64, li88, li96, li130, li192, li255, li2208, li2304, li9999, li9, li13, li14, li30, li35, li44, li45, li46, li47, li97, li98, li100, li101, li104, li105, li108, li110, li111, li112, li114, li117, li122, li999999, li1000000, li2147483647, cmp0, cmpl, cmpg, cmple, cmpge, nI_leI, nI_ltI, nI_eq, rL, rI, wL, wI, ob, aLet, nI_add, pk_mul, ↓reduceIte, if_true, if_false, eq_self, Nat.reduceEqDiff, Nat.reduceLeDiff, Nat.reduceLT, Nat.one_ne_zero, Nat.zero_ne_one, Nat.add_zero, Bool.false_eq_true, nI_neq]
    have hTm : ∀ k, k < (c_D c).2.2.2.1 (26 + s) → ((c_D c).2.2.2.2.1 (26 + s)).2.2 1 k = m.2.2 28 (24 * s + k) := by
      rcases hSh s (by omega) with ⟨u1, u2⟩ | ⟨u1, u2, u3, u4, u5⟩
      · rw [u1] at q1
        cases q1
      · exact u5
    rcases vows (m := m) q5 (show s < 4 by omega) q4 hTm m2 with ⟨v1, v2⟩ | ⟨u, v0, v1, v2⟩
    · refine refuse (-nI 2) ?_ ?_
      · simp (disch := omega) only [X8_changes, a, e, g, a2, rQ, q1, aQs, cs, q3, q6, v1, li0, li1, li2, li3, li4, li5, li6, li7, li8, li11, li12, li16, li24, li25, li26, li31, li32, li36, li40, li48, li52, li58, li59, li60, li63, li64, li88, li96, li130, li192, li255, li2208, li2304, li9999, li9, li13, li14, li30, li35, li44, li45, li46, li47, li97, li98, li100, li101, li104, li105, li108, li110, li111, li112, li114, li117, li122, li999999, li1000000, li2147483647, cmp0, cmpl, cmpg, cmple, cmpge, nI_leI, nI_ltI, nI_eq, rL, rI, wL, wI, ob, aLet, nI_add, pk_mul, ↓reduceIte, if_true, if_false, eq_self, Nat.reduceEqDiff, Nat.reduceLeDiff, Nat.reduceLT, Nat.one_ne_zero, Nat.zero_ne_one, Nat.add_zero, Bool.false_eq_true, nI_neq]
      · have v2' : X9_changes_L86 (nI n) m (nI (24 * s) + nI i) aFu (nI 0) = some (.inl (-nI 2, m)) := by rw [nI_add]; exact v2
        simp (disch := omega) only [X9_changes, X9_changes_J54, X9_isSheet, b, f, h, a3, q2, v2, aCs, li0, li1, li2, li3, li4, li5, li6, li7, li8, li11, li12, li16, li24, li25, li26, li31, li32, li36, li40, li48, li52, li58, li59, li60, li63, li64, li88, li96, li130, li192, li255, li2208, li2304, li9999, li9, li13, li14, li30, li35, li44, li45, li46, li47, li97, li98, li100, li101, li104, li105, li108, li110, li111, li112, li114, li117, li122, li999999, li1000000, li2147483647, cmp0, cmpl, cmpg, cmple, cmpge, nI_leI, nI_ltI, nI_eq, rL, rI, wL, wI, ob, aLet, nI_add, pk_mul, ↓reduceIte, if_true, if_false, eq_self, Nat.reduceEqDiff, Nat.reduceLeDiff, Nat.reduceLT, Nat.one_ne_zero, Nat.zero_ne_one, Nat.add_zero, Bool.false_eq_true, nI_neq]
    have hu : ∀ k, k < 2 * n → u k < 5 := fun k hk => (v0 k hk).1
    obtain ⟨F', c1, c2, c3⟩ := c_compare (S := c_finder c) q5 q4 (fun k hk => ⟨(v0 k hk).1, (v0 k hk).2.1⟩)
    have fl : ∀ v, fxt u n v < 5 ∨ fxt u n v = 9 := fxt_le hu n (Nat.le_refl n)
    obtain ⟨M1, d1, d2, d3⟩ := r_changes127 m
    obtain ⟨E, e1, e2, e3, e4⟩ := r_changes154 (m := M1) (b := 24 * s + i) (n := n) (u := u) (by omega) (fun k hk => ⟨(v0 k hk).1, by rw [d3.2.2.2.2.2.2.2.2.2]; exact (v0 k hk).2.2⟩) d2
    have rw0 := r_ways e3 fl 0 (by omega)
    have rw1 := r_ways e3 fl 1 (by omega)
    have hm := c_howMany c2 c3 fl
    have bc := c_becomes c2 c3 fl hv
    have eE := e3 v hv
    unfold enc at eE
    refine fin (if qrt u n then -nI 4 else if fxt u n v = 9 then nI 0 else nI (fxt u n v)) F' E.2 ?_ ?_ (Fr_trans d3 e4)
    · simp (disch := omega) only [X8_changes, a, e, g, a2, rQ, q1, aQs, cs, q3, q6, v1, c1, bc, li0, li1, li2, li3, li4, li5, li6, li7, li8, li11, li12, li16, li24, li25, li26, li31, li32, li36, li40, li48, li52, li58, li59, li60, li63, li64, li88, li96, li130, li192, li255, li2208, li2304, li9999, li9, li13, li14, li30, li35, li44, li45, li46, li47, li97, li98, li100, li101, li104, li105, li108, li110, li111, li112, li114, li117, li122, li999999, li1000000, li2147483647, cmp0, cmpl, cmpg, cmple, cmpge, nI_leI, nI_ltI, nI_eq, rL, rI, wL, wI, ob, aLet, nI_add, pk_mul, ↓reduceIte, if_true, if_false, eq_self, Nat.reduceEqDiff, Nat.reduceLeDiff, Nat.reduceLT, Nat.one_ne_zero, Nat.zero_ne_one, Nat.add_zero, Bool.false_eq_true, nI_neq]
    · cases hq : qrt u n
      · rw [hq] at e2
        have e2 : E.1 = nI 0 := e2
        rcases fl v with y | y
        · have ne : ¬ fxt u n v = 9 := by omega
          rw [if_neg ne] at eE
          simp (disch := omega) only [X9_changes, X9_changes_J54, X9_changes_J254, X9_isSheet, b, f, h, a3, q2, v2, aCs, d1, e1, e2, rw1, eE, ne, li0, li1, li2, li3, li4, li5, li6, li7, li8, li11, li12, li16, li24, li25, li26, li31, li32, li36, li40, li48, li52, li58, li59, li60, li63, li64, li88, li96, li130, li192, li255, li2208, li2304, li9999, li9, li13, li14, li30, li35, li44, li45, li46, li47, li97, li98, li100, li101, li104, li105, li108, li110, li111, li112, li114, li117, li122, li999999, li1000000, li2147483647, cmp0, cmpl, cmpg, cmple, cmpge, nI_leI, nI_ltI, nI_eq, rL, rI, wL, wI, ob, aLet, nI_add, pk_mul, ↓reduceIte, if_true, if_false, eq_self, Nat.reduceEqDiff, Nat.reduceLeDiff, Nat.reduceLT, Nat.one_ne_zero, Nat.zero_ne_one, Nat.add_zero, Bool.false_eq_true, nI_neq]
        · rw [if_pos y] at eE
          simp (disch := omega) only [X9_changes, X9_changes_J54, X9_changes_J254, X9_isSheet, b, f, h, a3, q2, v2, aCs, d1, e1, e2, rw1, eE, y, li0, li1, li2, li3, li4, li5, li6, li7, li8, li11, li12, li16, li24, li25, li26, li31, li32, li36, li40, li48, li52, li58, li59, li60, li63, li64, li88, li96, li130, li192, li255, li2208, li2304, li9999, li9, li13, li14, li30, li35, li44, li45, li46, li47, li97, li98, li100, li101, li104, li105, li108, li110, li111, li112, li114, li117, li122, li999999, li1000000, li2147483647, cmp0, cmpl, cmpg, cmple, cmpge, nI_leI, nI_ltI, nI_eq, rL, rI, wL, wI, ob, aLet, nI_add, pk_mul, ↓reduceIte, if_true, if_false, eq_self, Nat.reduceEqDiff, Nat.reduceLeDiff, Nat.reduceLT, Nat.one_ne_zero, Nat.zero_ne_one, Nat.add_zero, Bool.false_eq_true, nI_neq]
      · rw [hq] at e2
        have e2 : E.1 = nI 1 := e2
        simp (disch := omega) only [X9_changes, X9_changes_J54, X9_changes_J254, X9_isSheet, b, f, h, a3, q2, v2, aCs, d1, e1, e2, rw0, li0, li1, li2, li3, li4, li5, li6, li7, li8, li11, li12, li16, li24, li25, li26, li31, li32, li36, li40, li48, li52, li58, li59, li60, li63, li64, li88, li96, li130, li192, li255, li2208, li2304, li9999, li9, li13, li14, li30, li35, li44, li45, li46, li47, li97, li98, li100, li101, li104, li105, li108, li110, li111, li112, li114, li117, li122, li999999, li1000000, li2147483647, cmp0, cmpl, cmpg, cmple, cmpge, nI_leI, nI_ltI, nI_eq, rL, rI, wL, wI, ob, aLet, nI_add, pk_mul, ↓reduceIte, if_true, if_false, eq_self, Nat.reduceEqDiff, Nat.reduceLeDiff, Nat.reduceLT, Nat.one_ne_zero, Nat.zero_ne_one, Nat.add_zero, Bool.false_eq_true, nI_neq]
