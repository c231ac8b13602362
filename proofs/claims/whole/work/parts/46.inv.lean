/-! what class and reference have in common; ranges of arguments -/
theorem li9 : (9 : Int32) = nI 9 := rfl
theorem li13 : (13 : Int32) = nI 13 := rfl
theorem li14 : (14 : Int32) = nI 14 := rfl
theorem li30 : (30 : Int32) = nI 30 := rfl
theorem li35 : (35 : Int32) = nI 35 := rfl
theorem li44 : (44 : Int32) = nI 44 := rfl
theorem li45 : (45 : Int32) = nI 45 := rfl
theorem li46 : (46 : Int32) = nI 46 := rfl
theorem li47 : (47 : Int32) = nI 47 := rfl
theorem li97 : (97 : Int32) = nI 97 := rfl
theorem li98 : (98 : Int32) = nI 98 := rfl
theorem li100 : (100 : Int32) = nI 100 := rfl
theorem li101 : (101 : Int32) = nI 101 := rfl
theorem li104 : (104 : Int32) = nI 104 := rfl
theorem li105 : (105 : Int32) = nI 105 := rfl
theorem li108 : (108 : Int32) = nI 108 := rfl
theorem li110 : (110 : Int32) = nI 110 := rfl
theorem li111 : (111 : Int32) = nI 111 := rfl
theorem li112 : (112 : Int32) = nI 112 := rfl
theorem li114 : (114 : Int32) = nI 114 := rfl
theorem li117 : (117 : Int32) = nI 117 := rfl
theorem li122 : (122 : Int32) = nI 122 := rfl
theorem li999999 : (999999 : Int32) = nI 999999 := rfl
theorem li1000000 : (1000000 : Int32) = nI 1000000 := rfl
theorem li2147483647 : (2147483647 : Int32) = nI 2147483647 := rfl
/-- not by definition: else the kernel may try to run what stands behind -/
theorem ob {α β : Type} (a : α) (f : α → Option β) : (some a).bind f = f a := Eq.trans (Eq.refl _) (Eq.refl _)
theorem nI_neq {a b : Nat} (hb : 0 < b) (hb2 : b < 2 ^ 31) (ha : a < 2 ^ 31) : (nI a = -nI b) = False := by
  apply propext
  refine ⟨fun z => ?_, fun z => z.elim⟩
  have e : (nI b).toInt = b := nI_toInt hb2
  have f : (-nI b).toInt = -(b : Int) := by rw [fb_negI (by rw [e]; omega), e]
  have g : (nI a).toInt = a := nI_toInt ha
  rw [fa_eq, f, g] at z
  omega
theorem rgAll (x : Int32) (a b : Nat) (A B : Int64) (hA : A = (nI a).toInt64) (hB : B = (nI b).toInt64) (hb : b < 2 ^ 31) (hab : a ≤ b) : (X8_within x (nI a) (nI b) = nI 0 ∧ X9_in x.toInt64 A B = nI 0 ∧ ∀ i, a ≤ i → i ≤ b → x ≠ nI i) ∨ ∃ i, a ≤ i ∧ i ≤ b ∧ x = nI i ∧ X8_within (nI i) (nI a) (nI b) = nI 1 ∧ X9_in (nI i).toInt64 A B = nI 1 := by
  subst hA hB
  by_cases h : nI a ≤ x ∧ x ≤ nI b
  · refine Or.inr ?_
    have h0 : ¬ x < 0 := fun z => by
      have h1 := h.1
      rw [fa_le, nI_toInt (by omega)] at h1
      rw [fa_lt] at z
      have : (0 : Int32).toInt = 0 := rfl
      omega
    obtain ⟨j, hj, rfl⟩ := nI_of h0
    refine ⟨j, (nI_leI (by omega) hj).mp h.1, (nI_leI hj hb).mp h.2, rfl, ?_, ?_⟩
    · rw [c_within, if_pos h]
      rfl
    · rw [r_in, if_pos h]
      rfl
  · refine Or.inl ⟨?_, ?_, fun i h1 h2 e => h ?_⟩
    · rw [c_within, if_neg h]
      rfl
    · rw [r_in, if_neg h]
      rfl
    · rw [e]
      exact ⟨nI_le h1 (by omega), nI_le h2 hb⟩
theorem rg_0_255 (x : Int32) : (X8_within x (nI 0) (nI 255) = nI 0 ∧ X9_in x.toInt64 (0 : Int64) (255 : Int64) = nI 0 ∧ ∀ i, 0 ≤ i → i ≤ 255 → x ≠ nI i) ∨ ∃ i, 0 ≤ i ∧ i ≤ 255 ∧ x = nI i ∧ X8_within (nI i) (nI 0) (nI 255) = nI 1 ∧ X9_in (nI i).toInt64 (0 : Int64) (255 : Int64) = nI 1 := rgAll x 0 255 _ _ (by decide +kernel) (by decide +kernel) (by decide) (by decide)
theorem rg_0_5 (x : Int32) : (X8_within x (nI 0) (nI 5) = nI 0 ∧ X9_in x.toInt64 (0 : Int64) (5 : Int64) = nI 0 ∧ ∀ i, 0 ≤ i → i ≤ 5 → x ≠ nI i) ∨ ∃ i, 0 ≤ i ∧ i ≤ 5 ∧ x = nI i ∧ X8_within (nI i) (nI 0) (nI 5) = nI 1 ∧ X9_in (nI i).toInt64 (0 : Int64) (5 : Int64) = nI 1 := rgAll x 0 5 _ _ (by decide +kernel) (by decide +kernel) (by decide) (by decide)
theorem rg_0_2 (x : Int32) : (X8_within x (nI 0) (nI 2) = nI 0 ∧ X9_in x.toInt64 (0 : Int64) (2 : Int64) = nI 0 ∧ ∀ i, 0 ≤ i → i ≤ 2 → x ≠ nI i) ∨ ∃ i, 0 ≤ i ∧ i ≤ 2 ∧ x = nI i ∧ X8_within (nI i) (nI 0) (nI 2) = nI 1 ∧ X9_in (nI i).toInt64 (0 : Int64) (2 : Int64) = nI 1 := rgAll x 0 2 _ _ (by decide +kernel) (by decide +kernel) (by decide) (by decide)
theorem rg_0_1 (x : Int32) : (X8_within x (nI 0) (nI 1) = nI 0 ∧ X9_in x.toInt64 (0 : Int64) (1 : Int64) = nI 0 ∧ ∀ i, 0 ≤ i → i ≤ 1 → x ≠ nI i) ∨ ∃ i, 0 ≤ i ∧ i ≤ 1 ∧ x = nI i ∧ X8_within (nI i) (nI 0) (nI 1) = nI 1 ∧ X9_in (nI i).toInt64 (0 : Int64) (1 : Int64) = nI 1 := rgAll x 0 1 _ _ (by decide +kernel) (by decide +kernel) (by decide) (by decide)
theorem rg_0_3 (x : Int32) : (X8_within x (nI 0) (nI 3) = nI 0 ∧ X9_in x.toInt64 (0 : Int64) (3 : Int64) = nI 0 ∧ ∀ i, 0 ≤ i → i ≤ 3 → x ≠ nI i) ∨ ∃ i, 0 ≤ i ∧ i ≤ 3 ∧ x = nI i ∧ X8_within (nI i) (nI 0) (nI 3) = nI 1 ∧ X9_in (nI i).toInt64 (0 : Int64) (3 : Int64) = nI 1 := rgAll x 0 3 _ _ (by decide +kernel) (by decide +kernel) (by decide) (by decide)
theorem rg_0_4 (x : Int32) : (X8_within x (nI 0) (nI 4) = nI 0 ∧ X9_in x.toInt64 (0 : Int64) (4 : Int64) = nI 0 ∧ ∀ i, 0 ≤ i → i ≤ 4 → x ≠ nI i) ∨ ∃ i, 0 ≤ i ∧ i ≤ 4 ∧ x = nI i ∧ X8_within (nI i) (nI 0) (nI 4) = nI 1 ∧ X9_in (nI i).toInt64 (0 : Int64) (4 : Int64) = nI 1 := rgAll x 0 4 _ _ (by decide +kernel) (by decide +kernel) (by decide) (by decide)
theorem rg_1_5 (x : Int32) : (X8_within x (nI 1) (nI 5) = nI 0 ∧ X9_in x.toInt64 (1 : Int64) (5 : Int64) = nI 0 ∧ ∀ i, 1 ≤ i → i ≤ 5 → x ≠ nI i) ∨ ∃ i, 1 ≤ i ∧ i ≤ 5 ∧ x = nI i ∧ X8_within (nI i) (nI 1) (nI 5) = nI 1 ∧ X9_in (nI i).toInt64 (1 : Int64) (5 : Int64) = nI 1 := rgAll x 1 5 _ _ (by decide +kernel) (by decide +kernel) (by decide) (by decide)
theorem rg_0_60 (x : Int32) : (X8_within x (nI 0) (nI 60) = nI 0 ∧ X9_in x.toInt64 (0 : Int64) (60 : Int64) = nI 0 ∧ ∀ i, 0 ≤ i → i ≤ 60 → x ≠ nI i) ∨ ∃ i, 0 ≤ i ∧ i ≤ 60 ∧ x = nI i ∧ X8_within (nI i) (nI 0) (nI 60) = nI 1 ∧ X9_in (nI i).toInt64 (0 : Int64) (60 : Int64) = nI 1 := rgAll x 0 60 _ _ (by decide +kernel) (by decide +kernel) (by decide) (by decide)
theorem rg_1_24 (x : Int32) : (X8_within x (nI 1) (nI 24) = nI 0 ∧ X9_in x.toInt64 (1 : Int64) (24 : Int64) = nI 0 ∧ ∀ i, 1 ≤ i → i ≤ 24 → x ≠ nI i) ∨ ∃ i, 1 ≤ i ∧ i ≤ 24 ∧ x = nI i ∧ X8_within (nI i) (nI 1) (nI 24) = nI 1 ∧ X9_in (nI i).toInt64 (1 : Int64) (24 : Int64) = nI 1 := rgAll x 1 24 _ _ (by decide +kernel) (by decide +kernel) (by decide) (by decide)
theorem rg_1_12 (x : Int32) : (X8_within x (nI 1) (nI 12) = nI 0 ∧ X9_in x.toInt64 (1 : Int64) (12 : Int64) = nI 0 ∧ ∀ i, 1 ≤ i → i ≤ 12 → x ≠ nI i) ∨ ∃ i, 1 ≤ i ∧ i ≤ 12 ∧ x = nI i ∧ X8_within (nI i) (nI 1) (nI 12) = nI 1 ∧ X9_in (nI i).toInt64 (1 : Int64) (12 : Int64) = nI 1 := rgAll x 1 12 _ _ (by decide +kernel) (by decide +kernel) (by decide) (by decide)
theorem rg_1_3 (x : Int32) : (X8_within x (nI 1) (nI 3) = nI 0 ∧ X9_in x.toInt64 (1 : Int64) (3 : Int64) = nI 0 ∧ ∀ i, 1 ≤ i → i ≤ 3 → x ≠ nI i) ∨ ∃ i, 1 ≤ i ∧ i ≤ 3 ∧ x = nI i ∧ X8_within (nI i) (nI 1) (nI 3) = nI 1 ∧ X9_in (nI i).toInt64 (1 : Int64) (3 : Int64) = nI 1 := rgAll x 1 3 _ _ (by decide +kernel) (by decide +kernel) (by decide) (by decide)
theorem rg_0_31 (x : Int32) : (X8_within x (nI 0) (nI 31) = nI 0 ∧ X9_in x.toInt64 (0 : Int64) (31 : Int64) = nI 0 ∧ ∀ i, 0 ≤ i → i ≤ 31 → x ≠ nI i) ∨ ∃ i, 0 ≤ i ∧ i ≤ 31 ∧ x = nI i ∧ X8_within (nI i) (nI 0) (nI 31) = nI 1 ∧ X9_in (nI i).toInt64 (0 : Int64) (31 : Int64) = nI 1 := rgAll x 0 31 _ _ (by decide +kernel) (by decide +kernel) (by decide) (by decide)
theorem rg_1_1000000 (x : Int32) : (X8_within x (nI 1) (nI 1000000) = nI 0 ∧ X9_in x.toInt64 (1 : Int64) (1000000 : Int64) = nI 0 ∧ ∀ i, 1 ≤ i → i ≤ 1000000 → x ≠ nI i) ∨ ∃ i, 1 ≤ i ∧ i ≤ 1000000 ∧ x = nI i ∧ X8_within (nI i) (nI 1) (nI 1000000) = nI 1 ∧ X9_in (nI i).toInt64 (1 : Int64) (1000000 : Int64) = nI 1 := rgAll x 1 1000000 _ _ (by decide +kernel) (by decide +kernel) (by decide) (by decide)
theorem rg_0_40 (x : Int32) : (X8_within x (nI 0) (nI 40) = nI 0 ∧ X9_in x.toInt64 (0 : Int64) (40 : Int64) = nI 0 ∧ ∀ i, 0 ≤ i → i ≤ 40 → x ≠ nI i) ∨ ∃ i, 0 ≤ i ∧ i ≤ 40 ∧ x = nI i ∧ X8_within (nI i) (nI 0) (nI 40) = nI 1 ∧ X9_in (nI i).toInt64 (0 : Int64) (40 : Int64) = nI 1 := rgAll x 0 40 _ _ (by decide +kernel) (by decide +kernel) (by decide) (by decide)
theorem rg_1_999999 (x : Int32) : (X8_within x (nI 1) (nI 999999) = nI 0 ∧ X9_in x.toInt64 (1 : Int64) (999999 : Int64) = nI 0 ∧ ∀ i, 1 ≤ i → i ≤ 999999 → x ≠ nI i) ∨ ∃ i, 1 ≤ i ∧ i ≤ 999999 ∧ x = nI i ∧ X8_within (nI i) (nI 1) (nI 999999) = nI 1 ∧ X9_in (nI i).toInt64 (1 : Int64) (999999 : Int64) = nI 1 := rgAll x 1 999999 _ _ (by decide +kernel) (by decide +kernel) (by decide) (by decide)
theorem hcase {d : LD} {S m : Rec} (ok : okL d) (hS : LandOf d S) (hf : RowOf d (m.2.1 0)) (x : Int32) : (X2_hasHolder S x = nI 0 ∧ X9_isHolder m x = some (nI 0)) ∨ ∃ i, i < lH d ∧ x = nI i ∧ X2_hasHolder S (nI i) = nI 1 ∧ X9_isHolder m (nI i) = some (nI 1) := by
  rcases pk_ix x (n := lH d) (by have := ok.1; omega) with h | h | ⟨i, hi, rfl⟩
  · exact Or.inl ⟨cH0 hS (Or.inl h), rH0 ok hf (Or.inl h)⟩
  · exact Or.inl ⟨cH0 hS (Or.inr h), rH0 ok hf (Or.inr h)⟩
  · exact Or.inr ⟨i, hi, rfl, cH1 ok hS hi, rH1 ok hf hi⟩
theorem wcase {d : LD} {S m : Rec} (ok : okL d) (hS : LandOf d S) (hf : RowOf d (m.2.1 0)) (x : Int32) : (X2_hasWord S x = nI 0 ∧ X9_isWord m x = some (nI 0)) ∨ ∃ i, i < lW d ∧ x = nI i ∧ X2_hasWord S (nI i) = nI 1 ∧ X9_isWord m (nI i) = some (nI 1) := by
  rcases pk_ix x (n := lW d) (by have := ok.2.2.2.2.1; omega) with h | h | ⟨i, hi, rfl⟩
  · exact Or.inl ⟨cW0 hS (Or.inl h), rW0 ok hf (Or.inl h)⟩
  · exact Or.inl ⟨cW0 hS (Or.inr h), rW0 ok hf (Or.inr h)⟩
  · exact Or.inr ⟨i, hi, rfl, cW1 ok hS hi, rW1 ok hf hi⟩
theorem ccase {d : LD} {S m : Rec} (ok : okL d) (hS : LandOf d S) (hf : RowOf d (m.2.1 0)) (x : Int32) : (X2_hasCell S x = some (nI 0) ∧ X9_isCell m x = some (nI 0)) ∨ ∃ c, c < 64 ∧ inC d c = true ∧ x = nI c ∧ X2_hasCell S (nI c) = some (nI 1) ∧ X9_isCell m (nI c) = some (nI 1) := by
  rcases pk_ix x (n := 64) (by decide) with h | h | ⟨c, hc, rfl⟩
  · exact Or.inl ⟨cC0 (Or.inl h), rC0 h⟩
  · have h0 : ¬ x < 0 := fun z => by
      rw [fa_le, nI_toInt (by decide)] at h
      rw [fa_lt] at z
      have : (0 : Int32).toInt = 0 := rfl
      omega
    obtain ⟨c, hc, rfl⟩ := nI_of h0
    have h64 := (nI_leI (by decide) hc).mp h
    refine Or.inl ⟨cC0 (Or.inr h), ?_⟩
    rw [rC1 ok hf hc, inC_64 ok h64]
    rfl
  · cases q : inC d c
    · refine Or.inl ⟨?_, ?_⟩
      · rw [cC1 ok hS hc, q]
        rfl
      · rw [rC1 ok hf (by omega), q]
        rfl
    · refine Or.inr ⟨c, hc, q, rfl, ?_, ?_⟩
      · rw [cC1 ok hS hc, q]
        rfl
      · rw [rC1 ok hf (by omega), q]
        rfl
def TapeOf (S : Rec) (n : Int32) (f : Nat → Int32) : Prop := ∃ k, k ≤ 130 ∧ S.1 1 = nI k ∧ n = nI k ∧ ∀ i, i < k → ∃ b, b < 256 ∧ S.2.1 0 i = nI b ∧ f i = nI b
def PastOf (P : Rec) (lf : Nat → Option Nat) (B : Nat → Rec) (n : Int32) (w : Nat → Int32) : Prop := ∃ a k, a < 24 ∧ k ≤ 24 ∧ P.1 1 = nI a ∧ P.1 2 = nI k ∧ n = nI k ∧ ∀ i, i < k → (∃ q, lf ((a + 24 - k + i) % 24) = some q) ∧ ∃ d, okL d ∧ lY d ≤ 9999 ∧ LandOf d (B ((a + 24 - k + i) % 24)) ∧ RowOf d (fun j => w (96 * i + j))
def ImgOf (lf : Nat → Option Nat) (B : Nat → Rec) (g w : Nat → Int32) : Prop := ∀ k, k < 2 → (lf k = none ∧ g k = nI 0) ∨ ((∃ q, lf k = some q) ∧ g k = nI 1 ∧ ∃ d, okL d ∧ lY d ≤ 9999 ∧ LandOf d (B (24 + k)) ∧ RowOf d (fun j => w (96 * k + j)))
def SheetOf (lf : Nat → Option Nat) (sz : Nat → Nat) (B : Nat → Rec) (l n : Nat → Int32) (it : Nat → Int64) : Prop := ∀ s, s < 4 → (lf s = none ∧ l s = -nI 1) ∨ ((∃ q, lf s = some q) ∧ sz (26 + s) ≤ 24 ∧ n s = nI (sz (26 + s)) ∧ (∃ a, a < 4 ∧ l s = nI a ∧ (B (26 + s)).1 0 = nI a) ∧ ∀ k, k < sz (26 + s) → (B (26 + s)).2.2 1 k = it (24 * s + k))
def Inv (c : CSt) (m : Rec) : Prop := (∃ d, okL d ∧ lY d ≤ 9999 ∧ LandOf d (c_now c) ∧ RowOf d (m.2.1 0)) ∧ TapeOf (c_tape c) (m.1 6) (m.2.1 5) ∧ PastOf (c_past c) (c_D c).1 (c_D c).2.2.2.2.1 (m.1 4) (m.2.1 3) ∧ ImgOf (c_D c).2.1 (c_D c).2.2.2.2.1 (m.2.1 9) (m.2.1 10) ∧ SheetOf (c_D c).2.2.1 (c_D c).2.2.2.1 (c_D c).2.2.2.2.1 (m.2.1 26) (m.2.1 27) (m.2.2 28)
/-- what Inv looks at is as it was -/
def Fr (m m1 : Rec) : Prop := m1.1 4 = m.1 4 ∧ m1.1 6 = m.1 6 ∧ m1.2.1 0 = m.2.1 0 ∧ m1.2.1 3 = m.2.1 3 ∧ m1.2.1 5 = m.2.1 5 ∧ m1.2.1 9 = m.2.1 9 ∧ m1.2.1 10 = m.2.1 10 ∧ m1.2.1 26 = m.2.1 26 ∧ m1.2.1 27 = m.2.1 27 ∧ m1.2.2 28 = m.2.2 28
theorem Fr_refl (m : Rec) : Fr m m := ⟨rfl, rfl, rfl, rfl, rfl, rfl, rfl, rfl, rfl, rfl⟩
theorem Fr_trans {a b c : Rec} (h : Fr a b) (g : Fr b c) : Fr a c := by
  obtain ⟨h1, h2, h3, h4, h5, h6, h7, h8, h9, h10⟩ := h
  obtain ⟨g1, g2, g3, g4, g5, g6, g7, g8, g9, g10⟩ := g
  exact ⟨g1.trans h1, g2.trans h2, g3.trans h3, g4.trans h4, g5.trans h5, g6.trans h6, g7.trans h7, g8.trans h8, g9.trans h9, g10.trans h10⟩
theorem Fr_A {a b : Rec} {j : Nat} {f : Nat → Int32} (h : Fr a b) (hj : j = 1 ∨ j = 2 ∨ (11 ≤ j ∧ j ≤ 25) ∨ 28 < j) : Fr a (sA b j f) := by
  obtain ⟨h1, h2, h3, h4, h5, h6, h7, h8, h9, h10⟩ := h
  have o : ∀ i, i ≠ j → (sA b j f).2.1 i = b.2.1 i := fun i hi => if_neg hi
  exact ⟨h1, h2, (o _ (by omega)).trans h3, (o _ (by omega)).trans h4, (o _ (by omega)).trans h5, (o _ (by omega)).trans h6, (o _ (by omega)).trans h7, (o _ (by omega)).trans h8, (o _ (by omega)).trans h9, h10⟩
theorem Fr_I {a b : Rec} {j : Nat} {v : Int32} (h : Fr a b) (hj : j ≠ 4 ∧ j ≠ 6) : Fr a (sI b j v) := by
  obtain ⟨h1, h2, h3⟩ := h
  have o : ∀ i, i ≠ j → (sI b j v).1 i = b.1 i := fun i hi => if_neg hi
  exact ⟨(o _ (fun e => hj.1 e.symm)).trans h1, (o _ (fun e => hj.2 e.symm)).trans h2, h3⟩
theorem inv_fr {c : CSt} {m m1 : Rec} (hI : Inv c m) (h : Fr m m1) (t e s v r f : Rec) : Inv (c_tape c, c_now c, c_past c, c_D c, t, e, s, v, r, f) m1 := by
  obtain ⟨h1, h2, h3, h4, h5, h6, h7, h8, h9, h10⟩ := h
  unfold Inv
  rw [h1, h2, h3, h4, h5, h6, h7, h8, h9, h10]
  exact hI
theorem ms_ext {p : Nat → Bool} {n : Nat} (h : ∀ k, n ≤ k → p k = false) : ∀ e, ms p (n + e) = ms p n
  | 0 => rfl
  | e + 1 => by
    rw [show n + (e + 1) = (n + e) + 1 by omega, ms_no (h _ (by omega)), ms_ext h e]
theorem ms_at {p : Nat → Bool} {n N : Nat} (h : ∀ k, n ≤ k → p k = false) (hn : n ≤ N) : ms p N = ms p n := by
  have := ms_ext h (N - n)
  rw [show n + (N - n) = N by omega] at this
  exact this
