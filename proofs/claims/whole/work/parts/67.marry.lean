/-! marry: the program and the reference -/
def adjD (d : LD) (t a b : Nat) : Bool := decide (a < lH d) && decide (b < lH d) && tk d a t b
theorem adj_lt {d : LD} {t a b : Nat} (h : adjD d t a b = true) : a < lH d ∧ b < lH d := by
  unfold adjD at h
  simp only [Bool.and_eq_true, decide_eq_true_eq] at h
  exact h.1
def tlk (d : LD) (t a : Nat) : Nat := if a < lH d then ms (tk d a t) (lH d) else 0
theorem tlk_lt {d : LD} (ok : okL d) (t a : Nat) : tlk d t a < 64 := by
  unfold tlk
  split
  · have := ms_lt (tk d a t) (lH d)
    have : 2 ^ lH d ≤ 2 ^ 6 := Nat.pow_le_pow_right (by decide) ok.1
    omega
  · decide
theorem tlk_bit (d : LD) (t a b : Nat) : (tlk d t a).testBit b = adjD d t a b := by
  unfold tlk adjD
  by_cases h : a < lH d
  · rw [if_pos h, ms_bit, decide_eq_true h, Bool.true_and]
  · rw [if_neg h, decide_eq_false h, Nat.zero_testBit]
    rfl
theorem g_rm3 : ∀ g, g < 64 → ∀ a, a < 6 → ∀ b, b < 6 → (a = b ∨ (rm g a).testBit b = g.testBit b) ∧ (rm (rm g a) b).testBit a = false ∧ (g.testBit a = true ∨ rm g a = g) := by decide +kernel
theorem bit01 (b : Bool) : (nI b.toNat = nI 0) = (b = false) := by
  cases b
  · simp
  · simp
    decide
theorem c_mayPair {d : LD} {t : Nat} (ok : okL d) {Z : Rec} (hT : ∀ a, a < 6 → Z.2.1 1 a = nI (tlk d t a)) {a b g : Nat} (ha : a < 6) (hb : b < 6) (hg : g < 64) : X3_mayPair Z (nI a) (nI b) (nI g) = some (if g.testBit b = true ∧ adjD d t a b = true then nI 1 else nI 0) := by
  have g1 := (g_rm g hg b hb).2.1
  have g2 := (g_rm (tlk d t a) (tlk_lt ok t a) b hb).2.1
  rw [tlk_bit] at g2
  have h6 : ¬ 6 ≤ a := by omega
  unfold X3_mayPair
  simp (disch := omega) only [li0, li1, li2, li3, li4, li5, li6, li7, li8, li11, li12, li16, li24, li25, li26, li31, li32, li36, li40, li48, li52, li58, li59, li60, li63, li64, li88, li96, li130, li192, li255, li2208, li2304, li9999, li9, li13, li14, li30, li35, li44, li45, li46, li47, li97, li98, li100, li101, li104, li105, li108, li110, li111, li112, li114, li117, li122, li999999, li1000000, li2147483647, cmp0, cmpl, cmpg, cmple, cmpge, nI_leI, nI_ltI, nI_eq, rL, rI, wL, wI, ob, aLet, nI_add, pk_mul, ↓reduceIte, if_true, if_false, eq_self, Nat.reduceEqDiff, Nat.reduceLeDiff, Nat.reduceLT, Nat.one_ne_zero, Nat.zero_ne_one, Nat.add_zero, Bool.false_eq_true, nI_neq, h6, g1, hT a ha, g2, bit01]
  cases g.testBit b
  · simp
  · cases adjD d t a b
    · simp
    · simp
theorem c_mostIn {Z : Rec} {g v : Nat} (hg : g < 64) (h : Z.2.1 0 g = nI v) : X3_mostIn Z (nI g) = some (nI v) := by
  have z0 : ¬ g < 0 := by omega
  have z1 : ¬ 64 ≤ g := by omega
  unfold X3_mostIn
  simp (disch := omega) only [li0, li1, li2, li3, li4, li5, li6, li7, li8, li11, li12, li16, li24, li25, li26, li31, li32, li36, li40, li48, li52, li58, li59, li60, li63, li64, li88, li96, li130, li192, li255, li2208, li2304, li9999, li9, li13, li14, li30, li35, li44, li45, li46, li47, li97, li98, li100, li101, li104, li105, li108, li110, li111, li112, li114, li117, li122, li999999, li1000000, li2147483647, cmp0, cmpl, cmpg, cmple, cmpge, nI_leI, nI_ltI, nI_eq, rL, rI, wL, wI, ob, aLet, nI_add, pk_mul, ↓reduceIte, if_true, if_false, eq_self, Nat.reduceEqDiff, Nat.reduceLeDiff, Nat.reduceLT, Nat.one_ne_zero, Nat.zero_ne_one, Nat.add_zero, Bool.false_eq_true, nI_neq, z0, z1, h]
theorem fo_early {adj : Nat → Nat → Bool} {M : Nat → Nat} {g : Nat} : ∀ {k}, k ≤ lw g + 1 → fo adj M g k = M (rm g (lw g))
  | 0, _ => rfl
  | k + 1, h => by
    rw [fo, if_neg (fun z => by omega)]
    exact fo_early (by omega)
theorem fo_late {adj : Nat → Nat → Bool} {M : Nat → Nat} {g H : Nat} (ha : ∀ a b, adj a b = true → a < H ∧ b < H) : ∀ e, fo adj M g (H + e) = fo adj M g H
  | 0 => rfl
  | e + 1 => by
    show fo adj M g (H + e + 1) = _
    rw [fo, if_neg (fun z => by have := (ha _ _ z.2.2).2; omega)]
    exact fo_late ha e
theorem forUpB {σ τ : Type} (b : Nat) (F : Nat → Int32 → σ → Option τ) (N : Nat) (st : Nat → σ) (out : Option τ) (hs : ∀ n k, b ≤ k → k < N → F (n + 1) (nI k) (st k) = F n (nI (k + 1)) (st (k + 1))) (he : ∀ n, F (n + 1) (nI N) (st N) = out) : ∀ d k n, b ≤ k → k + d = N → d < n → F n (nI k) (st k) = out := by
  intro d
  induction d with
  | zero =>
    intro k n h0 h1 h2
    obtain ⟨n, rfl⟩ : ∃ z, n = z + 1 := ⟨n - 1, by omega⟩
    obtain rfl : k = N := h1
    exact he n
  | succ d ih =>
    intro k n h0 h1 h2
    obtain ⟨n, rfl⟩ : ∃ z, n = z + 1 := ⟨n - 1, by omega⟩
    rw [hs n k h0 (by omega)]
    exact ih (k + 1) n (by omega) (by omega) (by omega)
theorem c_mostOf {d : LD} {t : Nat} (ok : okL d) {Z : Rec} (hT : ∀ a, a < 6 → Z.2.1 1 a = nI (tlk d t a)) {g : Nat} (hg : g < 64) (h0 : 0 < g) (hM : ∀ x, x < g → Z.2.1 0 x = nI (mo (adjD d t) x)) : X3_mostOf Z (nI g) = some (nI (mo (adjD d t) g)) := by
  obtain ⟨l1, l2, l3, l4, l5⟩ := g_low g hg h0
  have fl := fo_le (adjD d t) hg h0
  have := forUpB (lw g + 1) (fun n j s => X3_mostOf_L24 Z (nI (lw g)) (nI (rm g (lw g))) n s j) 6 (fun k => nI (fo (adjD d t) (mo (adjD d t)) g k)) (some (nI (mo (adjD d t) g))) (fun n k hb hk => ?_) (fun n => ?_)
  · have l := this (6 - (lw g + 1)) (lw g + 1) aFu (Nat.le_refl _) (by omega) (by show _ < 100000; omega)
    rw [fo_early (Nat.le_refl _)] at l
    have m1 := c_mostIn (by omega) (hM (rm g (lw g)) l5)
    simp (disch := omega) only [X3_mostOf, l1, l2, m1, l, li0, li1, li2, li3, li4, li5, li6, li7, li8, li11, li12, li16, li24, li25, li26, li31, li32, li36, li40, li48, li52, li58, li59, li60, li63, li64, li88, li96, li130, li192, li255, li2208, li2304, li9999, li9, li13, li14, li30, li35, li44, li45, li46, li47, li97, li98, li100, li101, li104, li105, li108, li110, li111, li112, li114, li117, li122, li999999, li1000000, li2147483647, cmp0, cmpl, cmpg, cmple, cmpge, nI_leI, nI_ltI, nI_eq, rL, rI, wL, wI, ob, aLet, nI_add, pk_mul, ↓reduceIte, if_true, if_false, eq_self, Nat.reduceEqDiff, Nat.reduceLeDiff, Nat.reduceLT, Nat.one_ne_zero, Nat.zero_ne_one, Nat.add_zero, Bool.false_eq_true, nI_neq]
  · have h : ¬ 6 ≤ k := by omega
    have mp := c_mayPair ok hT l3 hk (show rm g (lw g) < 64 by omega)
    have gr := g_rm (rm g (lw g)) (by omega) k hk
    have m2 := c_mostIn (Z := Z) (by omega) (hM (rm (rm g (lw g)) k) (by omega))
    have ml := mo_le (adjD d t) (rm (rm g (lw g)) k) (by omega)
    have fk := fl k (by omega)
    rw [fo]
    by_cases q : (rm g (lw g)).testBit k = true ∧ adjD d t (lw g) k = true
    · rw [if_pos q] at mp
      rw [if_pos ⟨by omega, q⟩]
      simp (disch := omega) only [X3_mostOf_L24, mp, gr.1, m2, a_max_n, li0, li1, li2, li3, li4, li5, li6, li7, li8, li11, li12, li16, li24, li25, li26, li31, li32, li36, li40, li48, li52, li58, li59, li60, li63, li64, li88, li96, li130, li192, li255, li2208, li2304, li9999, li9, li13, li14, li30, li35, li44, li45, li46, li47, li97, li98, li100, li101, li104, li105, li108, li110, li111, li112, li114, li117, li122, li999999, li1000000, li2147483647, cmp0, cmpl, cmpg, cmple, cmpge, nI_leI, nI_ltI, nI_eq, rL, rI, wL, wI, ob, aLet, nI_add, pk_mul, ↓reduceIte, if_true, if_false, eq_self, Nat.reduceEqDiff, Nat.reduceLeDiff, Nat.reduceLT, Nat.one_ne_zero, Nat.zero_ne_one, Nat.add_zero, Bool.false_eq_true, nI_neq, h]
    · rw [if_neg q] at mp
      rw [if_neg (fun z => q z.2)]
      simp (disch := omega) only [X3_mostOf_L24, mp, li0, li1, li2, li3, li4, li5, li6, li7, li8, li11, li12, li16, li24, li25, li26, li31, li32, li36, li40, li48, li52, li58, li59, li60, li63, li64, li88, li96, li130, li192, li255, li2208, li2304, li9999, li9, li13, li14, li30, li35, li44, li45, li46, li47, li97, li98, li100, li101, li104, li105, li108, li110, li111, li112, li114, li117, li122, li999999, li1000000, li2147483647, cmp0, cmpl, cmpg, cmple, cmpge, nI_leI, nI_ltI, nI_eq, rL, rI, wL, wI, ob, aLet, nI_add, pk_mul, ↓reduceIte, if_true, if_false, eq_self, Nat.reduceEqDiff, Nat.reduceLeDiff, Nat.reduceLT, Nat.one_ne_zero, Nat.zero_ne_one, Nat.add_zero, Bool.false_eq_true, nI_neq, h]
  · rw [mo_s _ hg h0]
    simp (disch := omega) only [X3_mostOf_L24, li0, li1, li2, li3, li4, li5, li6, li7, li8, li11, li12, li16, li24, li25, li26, li31, li32, li36, li40, li48, li52, li58, li59, li60, li63, li64, li88, li96, li130, li192, li255, li2208, li2304, li9999, li9, li13, li14, li30, li35, li44, li45, li46, li47, li97, li98, li100, li101, li104, li105, li108, li110, li111, li112, li114, li117, li122, li999999, li1000000, li2147483647, cmp0, cmpl, cmpg, cmple, cmpge, nI_leI, nI_ltI, nI_eq, rL, rI, wL, wI, ob, aLet, nI_add, pk_mul, ↓reduceIte, if_true, if_false, eq_self, Nat.reduceEqDiff, Nat.reduceLeDiff, Nat.reduceLT, Nat.one_ne_zero, Nat.zero_ne_one, Nat.add_zero, Bool.false_eq_true, nI_neq, Nat.le_refl]
def MTab (d : LD) (t : Nat) (Z : Rec) : Prop := (∀ g, g < 64 → Z.2.1 0 g = nI (mo (adjD d t) g)) ∧ ∀ a, a < 6 → Z.2.1 1 a = nI (tlk d t a)
/-- what is made of one, in the program -/
def aft (adj : Nat → Nat → Bool) (s : Nat × (Nat → Int32)) (k : Nat) : Nat × (Nat → Int32) := match sel adj s.1 k 6 with
  | some b => (rm (rm s.1 k) b, upN (upN s.2 k (nI b)) b (nI k))
  | none => (rm s.1 k, s.2)
theorem pst_s (adj : Nat → Nat → Bool) (k : Nat) : pst adj (k + 1) = if (pst adj k).1.testBit k = true then aft adj (pst adj k) k else pst adj k := by
  rw [pst]
  unfold aft
  rfl
theorem upN_cong {f f' : Nat → Int32} (h : ∀ x, x < 6 → f x = f' x) (k : Nat) (v : Int32) : ∀ x, x < 6 → upd f k v x = upN f' k v x := fun x hx => by
  unfold upd upN
  split
  · rfl
  · exact h x hx
theorem c_pair41 {d : LD} {t : Nat} (ok : okL d) {Z : Rec} (hT : MTab d t Z) {s : Nat × (Nat → Int32)} (hs : s.1 < 64) (hm : ∀ x, x < 6 → Z.2.1 2 x = s.2 x) {one : Nat} (ho : one < 6) : ∃ Z', X3_pairOff_L41 (nI one) (nI (mo (adjD d t) s.1)) aFu (nI (rm s.1 one)) (nI (one + 1)) Z = some (nI (aft (adjD d t) s one).1, Z') ∧ MTab d t Z' ∧ (∀ x, x < 6 → Z'.2.1 2 x = (aft (adjD d t) s one).2 x) ∧ Z'.1 = Z.1 := by
  have g1 := g_rm s.1 hs one ho
  have ml0 := mo_le (adjD d t) s.1 hs
  have key : ∀ e k f, one < k → k + e = 6 → e < f → sel (adjD d t) s.1 one k = none → ∃ Z', X3_pairOff_L41 (nI one) (nI (mo (adjD d t) s.1)) f (nI (rm s.1 one)) (nI k) Z = some (nI (aft (adjD d t) s one).1, Z') ∧ MTab d t Z' ∧ (∀ x, x < 6 → Z'.2.1 2 x = (aft (adjD d t) s one).2 x) ∧ Z'.1 = Z.1 := by
    intro e
    induction e with
    | zero =>
      intro k f h0 h1 h2 h3
      obtain ⟨f, rfl⟩ : ∃ z, f = z + 1 := ⟨f - 1, by omega⟩
      obtain rfl : k = 6 := h1
      have ea : aft (adjD d t) s one = (rm s.1 one, s.2) := by
        unfold aft
        rw [h3]
      rw [ea]
      exact ⟨Z, by simp (disch := omega) only [X3_pairOff_L41, li0, li1, li2, li3, li4, li5, li6, li7, li8, li11, li12, li16, li24, li25, li26, li31, li32, li36, li40, li48, li52, li58, li59, li60, li63, li64, li88, li96, li130, li192, li255, li2208, li2304, li9999, li9, li13, li14, li30, li35, li44, li45, li46, li47, li97, li98, li100, li101, li104, li105, li108, li110, li111, li112, li114, li117, li122, li999999, li1000000, li2147483647, cmp0, cmpl, cmpg, cmple, cmpge, nI_leI, nI_ltI, nI_eq, rL, rI, wL, wI, ob, aLet, nI_add, pk_mul, ↓reduceIte, if_true, if_false, eq_self, Nat.reduceEqDiff, Nat.reduceLeDiff, Nat.reduceLT, Nat.one_ne_zero, Nat.zero_ne_one, Nat.add_zero, Bool.false_eq_true, nI_neq, Nat.le_refl], hT, hm, rfl⟩
    | succ e ih =>
      intro k f h0 h1 h2 h3
      obtain ⟨f, rfl⟩ : ∃ z, f = z + 1 := ⟨f - 1, by omega⟩
      have hk : k < 6 := by omega
      have h : ¬ 6 ≤ k := by omega
      have gr := g_rm (rm s.1 one) (by omega) k hk
      have mp := c_mayPair ok hT.2 ho hk (show rm s.1 one < 64 by omega)
      have m2 := c_mostIn (Z := Z) (show rm (rm s.1 one) k < 64 by omega) (hT.1 _ (by omega))
      have ml := mo_le (adjD d t) (rm (rm s.1 one) k) (by omega)
      have es : sel (adjD d t) s.1 one (k + 1) = if one < k ∧ (rm s.1 one).testBit k = true ∧ adjD d t one k = true ∧ 1 + mo (adjD d t) (rm (rm s.1 one) k) = mo (adjD d t) s.1 then some k else none := by
        rw [sel, h3]
      by_cases q : (rm s.1 one).testBit k = true ∧ adjD d t one k = true
      · rw [if_pos q] at mp
        by_cases w : 1 + mo (adjD d t) (rm (rm s.1 one) k) = mo (adjD d t) s.1
        · rw [if_pos ⟨h0, q.1, q.2, w⟩] at es
          have k6 := sel_keep es (6 - (k + 1))
          rw [show k + 1 + (6 - (k + 1)) = 6 by omega] at k6
          have ea : aft (adjD d t) s one = (rm (rm s.1 one) k, upN (upN s.2 one (nI k)) k (nI one)) := by
            unfold aft
            rw [k6]
          rw [ea]
          have g2 : ∀ f, (sA Z 2 f).2.1 2 = f := fun f => rfl
          refine ⟨sA (sA Z 2 (upd (Z.2.1 2) one (nI k))) 2 (upd (upd (Z.2.1 2) one (nI k)) k (nI one)), ?_, hT, upN_cong (upN_cong hm one (nI k)) k (nI one), rfl⟩
          simp (disch := omega) only [X3_pairOff_L41, gr.1, mp, m2, w, g2, li0, li1, li2, li3, li4, li5, li6, li7, li8, li11, li12, li16, li24, li25, li26, li31, li32, li36, li40, li48, li52, li58, li59, li60, li63, li64, li88, li96, li130, li192, li255, li2208, li2304, li9999, li9, li13, li14, li30, li35, li44, li45, li46, li47, li97, li98, li100, li101, li104, li105, li108, li110, li111, li112, li114, li117, li122, li999999, li1000000, li2147483647, cmp0, cmpl, cmpg, cmple, cmpge, nI_leI, nI_ltI, nI_eq, rL, rI, wL, wI, ob, aLet, nI_add, pk_mul, ↓reduceIte, if_true, if_false, eq_self, Nat.reduceEqDiff, Nat.reduceLeDiff, Nat.reduceLT, Nat.one_ne_zero, Nat.zero_ne_one, Nat.add_zero, Bool.false_eq_true, nI_neq, h]
        · rw [if_neg (fun z => w z.2.2.2)] at es
          obtain ⟨Z', i1, i2⟩ := ih (k + 1) f (by omega) (by omega) (by omega) es
          refine ⟨Z', ?_, i2⟩
          rw [← i1]
          simp (disch := omega) only [X3_pairOff_L41, gr.1, mp, m2, w, li0, li1, li2, li3, li4, li5, li6, li7, li8, li11, li12, li16, li24, li25, li26, li31, li32, li36, li40, li48, li52, li58, li59, li60, li63, li64, li88, li96, li130, li192, li255, li2208, li2304, li9999, li9, li13, li14, li30, li35, li44, li45, li46, li47, li97, li98, li100, li101, li104, li105, li108, li110, li111, li112, li114, li117, li122, li999999, li1000000, li2147483647, cmp0, cmpl, cmpg, cmple, cmpge, nI_leI, nI_ltI, nI_eq, rL, rI, wL, wI, ob, aLet, nI_add, pk_mul, ↓reduceIte, if_true, if_false, eq_self, Nat.reduceEqDiff, Nat.reduceLeDiff, Nat.reduceLT, Nat.one_ne_zero, Nat.zero_ne_one, Nat.add_zero, Bool.false_eq_true, nI_neq, h]
      · rw [if_neg q] at mp
        rw [if_neg (fun z => q ⟨z.2.1, z.2.2.1⟩)] at es
        obtain ⟨Z', i1, i2⟩ := ih (k + 1) f (by omega) (by omega) (by omega) es
        refine ⟨Z', ?_, i2⟩
        rw [← i1]
        simp (disch := omega) only [X3_pairOff_L41, gr.1, mp, li0, li1, li2, li3, li4, li5, li6, li7, li8, li11, li12, li16, li24, li25, li26, li31, li32, li36, li40, li48, li52, li58, li59, li60, li63, li64, li88, li96, li130, li192, li255, li2208, li2304, li9999, li9, li13, li14, li30, li35, li44, li45, li46, li47, li97, li98, li100, li101, li104, li105, li108, li110, li111, li112, li114, li117, li122, li999999, li1000000, li2147483647, cmp0, cmpl, cmpg, cmple, cmpge, nI_leI, nI_ltI, nI_eq, rL, rI, wL, wI, ob, aLet, nI_add, pk_mul, ↓reduceIte, if_true, if_false, eq_self, Nat.reduceEqDiff, Nat.reduceLeDiff, Nat.reduceLT, Nat.one_ne_zero, Nat.zero_ne_one, Nat.add_zero, Bool.false_eq_true, nI_neq, h]
  exact key (6 - (one + 1)) (one + 1) aFu (by omega) (by omega) (by show _ < 100000; omega) (sel_early (Nat.le_refl _))
theorem c_arrange {d : LD} {S R : Rec} (ok : okL d) (hS : LandOf d S) {t : Nat} (ht : t ≤ 5) : ∃ Z, X3_arrange R S (nI t) = some Z ∧ Z.1 3 = nI (mo (adjD d t) 63) ∧ ∀ x, x < 6 → Z.2.1 2 x = (pst (adjD d t) 6).2 x := by
  have h6 := ok.1
  obtain ⟨A, a1, a2, a3⟩ := forUpE (fun n j z => X3_arrange_L2 S (nI t) n j z) 6 (fun k A => (∀ a, a < k → A.2.1 1 a = nI (tlk d t a)) ∧ ∀ a, a < k → A.2.1 2 a = -nI 4) (fun A => (∀ a, a < 6 → A.2.1 1 a = nI (tlk d t a)) ∧ ∀ a, a < 6 → A.2.1 2 a = -nI 4) (fun n k A hk hA => by
      have h : ¬ 6 ≤ k := by omega
      have g2 : ∀ f, (sA A 1 f).2.1 2 = A.2.1 2 := fun f => rfl
      refine ⟨sA (sA A 1 (upd (A.2.1 1) k (nI (tlk d t k)))) 2 (upd (A.2.1 2) k (-nI 4)), ?_, fun a ha => ?_, fun a ha => ?_⟩
      · by_cases q : k < lH d
        · have c1 := cH1 ok hS q
          have c2 := c_talkers ok hS q ht
          have et : tlk d t k = ms (tk d k t) (lH d) := if_pos q
          rw [et]
          have c1 : X2_hasHolder S (nI k) = nI 1 := c1
          simp (disch := omega) only [X3_arrange_L2, c1, c2, g2, li0, li1, li2, li3, li4, li5, li6, li7, li8, li11, li12, li16, li24, li25, li26, li31, li32, li36, li40, li48, li52, li58, li59, li60, li63, li64, li88, li96, li130, li192, li255, li2208, li2304, li9999, li9, li13, li14, li30, li35, li44, li45, li46, li47, li97, li98, li100, li101, li104, li105, li108, li110, li111, li112, li114, li117, li122, li999999, li1000000, li2147483647, cmp0, cmpl, cmpg, cmple, cmpge, nI_leI, nI_ltI, nI_eq, rL, rI, wL, wI, ob, aLet, nI_add, pk_mul, ↓reduceIte, if_true, if_false, eq_self, Nat.reduceEqDiff, Nat.reduceLeDiff, Nat.reduceLT, Nat.one_ne_zero, Nat.zero_ne_one, Nat.add_zero, Bool.false_eq_true, nI_neq, h]
        · have c1 : X2_hasHolder S (nI k) = nI 0 := cH0 hS (Or.inr (nI_le (by omega) (by omega)))
          have et : tlk d t k = 0 := if_neg q
          rw [et]
          simp (disch := omega) only [X3_arrange_L2, c1, g2, li0, li1, li2, li3, li4, li5, li6, li7, li8, li11, li12, li16, li24, li25, li26, li31, li32, li36, li40, li48, li52, li58, li59, li60, li63, li64, li88, li96, li130, li192, li255, li2208, li2304, li9999, li9, li13, li14, li30, li35, li44, li45, li46, li47, li97, li98, li100, li101, li104, li105, li108, li110, li111, li112, li114, li117, li122, li999999, li1000000, li2147483647, cmp0, cmpl, cmpg, cmple, cmpge, nI_leI, nI_ltI, nI_eq, rL, rI, wL, wI, ob, aLet, nI_add, pk_mul, ↓reduceIte, if_true, if_false, eq_self, Nat.reduceEqDiff, Nat.reduceLeDiff, Nat.reduceLT, Nat.one_ne_zero, Nat.zero_ne_one, Nat.add_zero, Bool.false_eq_true, nI_neq, h]
      · show upd (A.2.1 1) k (nI (tlk d t k)) a = _
        by_cases y : a = k
        · rw [y, pk_us]
        · rw [pk_un y]
          exact hA.1 a (by omega)
      · show upd (A.2.1 2) k (-nI 4) a = _
        by_cases y : a = k
        · rw [y, pk_us]
        · rw [pk_un y]
          exact hA.2 a (by omega)) (fun n A hA => ⟨A, by simp (disch := omega) only [X3_arrange_L2, li0, li1, li2, li3, li4, li5, li6, li7, li8, li11, li12, li16, li24, li25, li26, li31, li32, li36, li40, li48, li52, li58, li59, li60, li63, li64, li88, li96, li130, li192, li255, li2208, li2304, li9999, li9, li13, li14, li30, li35, li44, li45, li46, li47, li97, li98, li100, li101, li104, li105, li108, li110, li111, li112, li114, li117, li122, li999999, li1000000, li2147483647, cmp0, cmpl, cmpg, cmple, cmpge, nI_leI, nI_ltI, nI_eq, rL, rI, wL, wI, ob, aLet, nI_add, pk_mul, ↓reduceIte, if_true, if_false, eq_self, Nat.reduceEqDiff, Nat.reduceLeDiff, Nat.reduceLT, Nat.one_ne_zero, Nat.zero_ne_one, Nat.add_zero, Bool.false_eq_true, nI_neq, Nat.le_refl], hA⟩) 6 0 aFu R rfl (by decide) ⟨fun a ha => absurd ha (by omega), fun a ha => absurd ha (by omega)⟩
  obtain ⟨B, b1, b2, b3, b4⟩ := forUpE (fun n j z => X3_arrange_L55 n j z) 64 (fun k B => 1 ≤ k ∧ (∀ g, g < k → B.2.1 0 g = nI (mo (adjD d t) g)) ∧ (∀ a, a < 6 → B.2.1 1 a = nI (tlk d t a)) ∧ ∀ a, a < 6 → B.2.1 2 a = -nI 4) (fun B => (∀ g, g < 64 → B.2.1 0 g = nI (mo (adjD d t) g)) ∧ (∀ a, a < 6 → B.2.1 1 a = nI (tlk d t a)) ∧ ∀ a, a < 6 → B.2.1 2 a = -nI 4) (fun n k B hk hB => by
      obtain ⟨k1, i1, i2, i3⟩ := hB
      have h : ¬ 64 ≤ k := by omega
      have mf := c_mostOf ok i2 hk (by omega) (fun x hx => i1 x hx)
      refine ⟨sA B 0 (upd (B.2.1 0) k (nI (mo (adjD d t) k))), ?_, by omega, fun g hg => ?_, i2, i3⟩
      · simp (disch := omega) only [X3_arrange_L55, mf, li0, li1, li2, li3, li4, li5, li6, li7, li8, li11, li12, li16, li24, li25, li26, li31, li32, li36, li40, li48, li52, li58, li59, li60, li63, li64, li88, li96, li130, li192, li255, li2208, li2304, li9999, li9, li13, li14, li30, li35, li44, li45, li46, li47, li97, li98, li100, li101, li104, li105, li108, li110, li111, li112, li114, li117, li122, li999999, li1000000, li2147483647, cmp0, cmpl, cmpg, cmple, cmpge, nI_leI, nI_ltI, nI_eq, rL, rI, wL, wI, ob, aLet, nI_add, pk_mul, ↓reduceIte, if_true, if_false, eq_self, Nat.reduceEqDiff, Nat.reduceLeDiff, Nat.reduceLT, Nat.one_ne_zero, Nat.zero_ne_one, Nat.add_zero, Bool.false_eq_true, nI_neq, h]
      · show upd (B.2.1 0) k (nI (mo (adjD d t) k)) g = _
        by_cases y : g = k
        · rw [y, pk_us]
        · rw [pk_un y]
          exact i1 g (by omega)) (fun n B hB => ⟨B, by simp (disch := omega) only [X3_arrange_L55, li0, li1, li2, li3, li4, li5, li6, li7, li8, li11, li12, li16, li24, li25, li26, li31, li32, li36, li40, li48, li52, li58, li59, li60, li63, li64, li88, li96, li130, li192, li255, li2208, li2304, li9999, li9, li13, li14, li30, li35, li44, li45, li46, li47, li97, li98, li100, li101, li104, li105, li108, li110, li111, li112, li114, li117, li122, li999999, li1000000, li2147483647, cmp0, cmpl, cmpg, cmple, cmpge, nI_leI, nI_ltI, nI_eq, rL, rI, wL, wI, ob, aLet, nI_add, pk_mul, ↓reduceIte, if_true, if_false, eq_self, Nat.reduceEqDiff, Nat.reduceLeDiff, Nat.reduceLT, Nat.one_ne_zero, Nat.zero_ne_one, Nat.add_zero, Bool.false_eq_true, nI_neq, Nat.le_refl], hB.2⟩) 63 1 aFu (sA A 0 (upd (A.2.1 0) 0 (nI 0))) rfl (by decide) ⟨Nat.le_refl 1, fun g hg => by
      obtain rfl : g = 0 := by omega
      show upd (A.2.1 0) 0 (nI 0) 0 = _
      rw [pk_us, mo_0], a2, a3⟩
  have e63 := b2 63 (by decide)
  obtain ⟨e, c1, c2, c3⟩ := forUpE (fun n j (s : Int32 × Rec) => X3_pairOff_L5 n s.1 j s.2) 6 (fun k s => s.1 = nI (pst (adjD d t) k).1 ∧ MTab d t s.2 ∧ (∀ x, x < 6 → s.2.2.1 2 x = (pst (adjD d t) k).2 x) ∧ s.2.1 3 = nI (mo (adjD d t) 63)) (fun Z : Rec => Z.1 3 = nI (mo (adjD d t) 63) ∧ ∀ x, x < 6 → Z.2.1 2 x = (pst (adjD d t) 6).2 x) (fun n k s hk hI => by
      obtain ⟨i1, i2, i3, i4⟩ := hI
      have h : ¬ 6 ≤ k := by omega
      have pl := pst_lt (adjD d t) k (by omega)
      have gr := g_rm (pst (adjD d t) k).1 pl k hk
      have ps := pst_s (adjD d t) k
      by_cases q : (pst (adjD d t) k).1.testBit k = true
      · rw [if_pos q] at ps
        have q2 := q
        obtain ⟨Z', j1, j2, j3, j4⟩ := c_pair41 ok i2 pl i3 hk
        have mi := c_mostIn (Z := s.2) pl (i2.1 _ pl)
        have gb := gr.2.1
        rw [q] at gb
        have gb : X8_hasBit (nI (pst (adjD d t) k).1) (nI k) = nI 1 := gb
        refine ⟨(nI (aft (adjD d t) (pst (adjD d t) k) k).1, Z'), ?_, by rw [ps], j2, by rw [ps]; exact j3, by rw [j4]; exact i4⟩
        simp (disch := omega) only [X3_pairOff_L5, i1, gb, mi, gr.1, j1, li0, li1, li2, li3, li4, li5, li6, li7, li8, li11, li12, li16, li24, li25, li26, li31, li32, li36, li40, li48, li52, li58, li59, li60, li63, li64, li88, li96, li130, li192, li255, li2208, li2304, li9999, li9, li13, li14, li30, li35, li44, li45, li46, li47, li97, li98, li100, li101, li104, li105, li108, li110, li111, li112, li114, li117, li122, li999999, li1000000, li2147483647, cmp0, cmpl, cmpg, cmple, cmpge, nI_leI, nI_ltI, nI_eq, rL, rI, wL, wI, ob, aLet, nI_add, pk_mul, ↓reduceIte, if_true, if_false, eq_self, Nat.reduceEqDiff, Nat.reduceLeDiff, Nat.reduceLT, Nat.one_ne_zero, Nat.zero_ne_one, Nat.add_zero, Bool.false_eq_true, nI_neq, h]
      · rw [if_neg q] at ps
        have gb := gr.2.1
        rw [show (pst (adjD d t) k).1.testBit k = false by simpa using q] at gb
        have gb : X8_hasBit (nI (pst (adjD d t) k).1) (nI k) = nI 0 := gb
        refine ⟨s, ?_, by rw [ps]; exact i1, i2, by rw [ps]; exact i3, i4⟩
        simp (disch := omega) only [X3_pairOff_L5, i1, gb, li0, li1, li2, li3, li4, li5, li6, li7, li8, li11, li12, li16, li24, li25, li26, li31, li32, li36, li40, li48, li52, li58, li59, li60, li63, li64, li88, li96, li130, li192, li255, li2208, li2304, li9999, li9, li13, li14, li30, li35, li44, li45, li46, li47, li97, li98, li100, li101, li104, li105, li108, li110, li111, li112, li114, li117, li122, li999999, li1000000, li2147483647, cmp0, cmpl, cmpg, cmple, cmpge, nI_leI, nI_ltI, nI_eq, rL, rI, wL, wI, ob, aLet, nI_add, pk_mul, ↓reduceIte, if_true, if_false, eq_self, Nat.reduceEqDiff, Nat.reduceLeDiff, Nat.reduceLT, Nat.one_ne_zero, Nat.zero_ne_one, Nat.add_zero, Bool.false_eq_true, nI_neq, h]) (fun n s hI => ⟨s.2, by simp (disch := omega) only [X3_pairOff_L5, li0, li1, li2, li3, li4, li5, li6, li7, li8, li11, li12, li16, li24, li25, li26, li31, li32, li36, li40, li48, li52, li58, li59, li60, li63, li64, li88, li96, li130, li192, li255, li2208, li2304, li9999, li9, li13, li14, li30, li35, li44, li45, li46, li47, li97, li98, li100, li101, li104, li105, li108, li110, li111, li112, li114, li117, li122, li999999, li1000000, li2147483647, cmp0, cmpl, cmpg, cmple, cmpge, nI_leI, nI_ltI, nI_eq, rL, rI, wL, wI, ob, aLet, nI_add, pk_mul, ↓reduceIte, if_true, if_false, eq_self, Nat.reduceEqDiff, Nat.reduceLeDiff, Nat.reduceLT, Nat.one_ne_zero, Nat.zero_ne_one, Nat.add_zero, Bool.false_eq_true, nI_neq, Nat.le_refl], hI.2.2.2, hI.2.2.1⟩) 6 0 aFu (nI 63, sI B 3 (nI (mo (adjD d t) 63))) rfl (by decide) ⟨rfl, ⟨b2, b3⟩, b4, rfl⟩
  refine ⟨e, ?_, c2, c3⟩
  have c1 : X3_pairOff_L5 aFu (nI 63) (nI 0) (sI B 3 (nI (mo (adjD d t) 63))) = some e := c1
  simp (disch := omega) only [X3_arrange, X3_pairOff, a1, b1, e63, c1, li0, li1, li2, li3, li4, li5, li6, li7, li8, li11, li12, li16, li24, li25, li26, li31, li32, li36, li40, li48, li52, li58, li59, li60, li63, li64, li88, li96, li130, li192, li255, li2208, li2304, li9999, li9, li13, li14, li30, li35, li44, li45, li46, li47, li97, li98, li100, li101, li104, li105, li108, li110, li111, li112, li114, li117, li122, li999999, li1000000, li2147483647, cmp0, cmpl, cmpg, cmple, cmpge, nI_leI, nI_ltI, nI_eq, rL, rI, wL, wI, ob, aLet, nI_add, pk_mul, ↓reduceIte, if_true, if_false, eq_self, Nat.reduceEqDiff, Nat.reduceLeDiff, Nat.reduceLT, Nat.one_ne_zero, Nat.zero_ne_one, Nat.add_zero, Bool.false_eq_true, nI_neq]
