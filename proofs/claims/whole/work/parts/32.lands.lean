/-! a land as plain numbers; what stands for it in the program and in the reference -/
/-- holders, columns, lines, year, words, kinds, change, sound by place, whose by place, lengths, needs -/
abbrev LD : Type := Nat × Nat × Nat × Nat × Nat × (Nat → Nat) × (Nat → Nat) × (Nat → Nat) × (Nat → Nat) × (Nat → Nat) × (Nat → Nat)
abbrev lH (d : LD) : Nat := d.1
abbrev lC (d : LD) : Nat := d.2.1
abbrev lR (d : LD) : Nat := d.2.2.1
abbrev lY (d : LD) : Nat := d.2.2.2.1
abbrev lW (d : LD) : Nat := d.2.2.2.2.1
abbrev lK (d : LD) : Nat → Nat := d.2.2.2.2.2.1
abbrev lG (d : LD) : Nat → Nat := d.2.2.2.2.2.2.1
abbrev lS (d : LD) : Nat → Nat := d.2.2.2.2.2.2.2.1
abbrev lO (d : LD) : Nat → Nat := d.2.2.2.2.2.2.2.2.1
abbrev lL (d : LD) : Nat → Nat := d.2.2.2.2.2.2.2.2.2.1
abbrev lE (d : LD) : Nat → Nat := d.2.2.2.2.2.2.2.2.2.2
def pl (c : Nat) : Nat := 6 * (c / 8) + c % 8
def cl (p : Nat) : Nat := 8 * (p / 6) + p % 6
def inC (d : LD) (c : Nat) : Bool := decide (c / 8 < lR d) && decide (c % 8 < lC d)
def inP (d : LD) (p : Nat) : Bool := decide (p / 6 < lR d) && decide (p % 6 < lC d)
def hw (h : Nat) : Nat := if h = 6 then 0 else h + 1
def okL (d : LD) : Prop := lH d ≤ 6 ∧ lC d ≤ 6 ∧ lR d ≤ 6 ∧ lY d ≤ 20000 ∧ lW d ≤ 4 ∧ (∀ i, i < lH d → 1 ≤ lK d i ∧ lK d i ≤ 5) ∧ (∀ v, v < 5 → lG d v < 5) ∧ (∀ p, p < 36 → lS d p < 6) ∧ (∀ p, p < 36 → lO d p ≤ lH d) ∧ (∀ w, w < lW d → lE d w < 32 ∧ lL d w ≤ 6) ∧ (lH d = 0 → lC d = 0 ∧ lR d = 0 ∧ lW d = 0) ∧ (0 < lH d → 0 < lC d ∧ 0 < lR d ∧ 0 < lW d)
def RowOf (d : LD) (f : Nat → Int32) : Prop := f 0 = nI (lH d) ∧ f 1 = nI (lC d) ∧ f 2 = nI (lR d) ∧ f 3 = nI (lY d) ∧ f 4 = nI (lW d) ∧ (∀ i, i < lH d → f (5 + i) = nI (lK d i)) ∧ (∀ v, v < 5 → f (11 + v) = nI (lG d v)) ∧ (∀ p, p < 36 → f (16 + p) = nI (lS d p)) ∧ (∀ p, p < 36 → f (52 + p) = nI (lO d p)) ∧ (∀ w, w < lW d → f (88 + 2 * w) = nI (lL d w) ∧ f (88 + 2 * w + 1) = nI (lE d w))
def LandOf (d : LD) (S : Rec) : Prop := S.1 0 = nI (lH d) ∧ S.1 3 = nI (lC d) ∧ S.1 2 = nI (lR d) ∧ S.1 8 = nI (lY d) ∧ S.1 4 = nI (lW d) ∧ (∀ i, i < lH d → S.2.1 1 i = nI (lK d i)) ∧ (∀ v, v < 5 → S.2.1 7 v = nI (lG d v)) ∧ (∀ s, s < 6 → ∀ c, c < 64 → tb (S.2.2 9 s) c = (inC d c && decide (lS d (pl c) = s))) ∧ (∀ h, h < 7 → ∀ c, c < 64 → tb (S.2.2 10 h) c = (inC d c && decide (lO d (pl c) = hw h))) ∧ (∀ w, w < lW d → S.2.1 5 w = nI (lL d w) ∧ S.2.1 6 w = nI (lE d w))
theorem inC_b {d : LD} (ok : okL d) {c : Nat} (h : inC d c = true) : c / 8 < 6 ∧ c % 8 < 6 ∧ pl c < 36 ∧ c < 46 := by
  obtain ⟨-, h1, h2, -⟩ := ok
  simp only [inC, Bool.and_eq_true, decide_eq_true_eq] at h
  unfold pl
  omega
theorem pl_cl {p : Nat} : pl (cl p) = p := by unfold pl cl; omega
theorem cl_pl {c : Nat} (h : c % 8 < 6) : cl (pl c) = c := by unfold pl cl; omega
theorem inC_cl {d : LD} {p : Nat} : inC d (cl p) = inP d p := by
  unfold inC inP cl
  rw [show (8 * (p / 6) + p % 6) / 8 = p / 6 by omega, show (8 * (p / 6) + p % 6) % 8 = p % 6 by omega]
/-- the places of a land as its cells -/
theorem cn_cells {P : Nat → Bool} (h : ∀ c, c < 64 → P c = true → c / 8 < 6 ∧ c % 8 < 6) : cn P 64 = cn (fun p => P (cl p)) 36 := by
  have f : ∀ c, c < 64 → ¬ (c / 8 < 6 ∧ c % 8 < 6) → P c = false := fun c h1 h2 => by
    cases q : P c
    · rfl
    · exact absurd (h c h1 q) h2
  simp only [cn, f 6 (by omega) (by omega), f 7 (by omega) (by omega), f 14 (by omega) (by omega), f 15 (by omega) (by omega), f 22 (by omega) (by omega), f 23 (by omega) (by omega), f 30 (by omega) (by omega), f 31 (by omega) (by omega), f 38 (by omega) (by omega), f 39 (by omega) (by omega), f 46 (by omega) (by omega), f 47 (by omega) (by omega), f 48 (by omega) (by omega), f 49 (by omega) (by omega), f 50 (by omega) (by omega), f 51 (by omega) (by omega), f 52 (by omega) (by omega), f 53 (by omega) (by omega), f 54 (by omega) (by omega), f 55 (by omega) (by omega), f 56 (by omega) (by omega), f 57 (by omega) (by omega), f 58 (by omega) (by omega), f 59 (by omega) (by omega), f 60 (by omega) (by omega), f 61 (by omega) (by omega), f 62 (by omega) (by omega), f 63 (by omega) (by omega), Bool.toNat_false, Nat.add_zero]
  rfl
def orL (g : Nat → Int64) : Nat → Int64
  | 0 => 0
  | k + 1 => orL g k ||| g k
theorem tb_orL {g : Nat → Int64} {c : Nat} : ∀ k, tb (orL g k) c = true ↔ ∃ i, i < k ∧ tb (g i) c = true
  | 0 => by
    rw [orL, tb_0]
    simp
  | k + 1 => by
    rw [orL, tb_or, Bool.or_eq_true, tb_orL k]
    constructor
    · rintro (⟨i, h1, h2⟩ | h)
      · exact ⟨i, by omega, h2⟩
      · exact ⟨k, by omega, h⟩
    · rintro ⟨i, h1, h2⟩
      by_cases q : i = k
      · exact Or.inr (q ▸ h2)
      · exact Or.inl ⟨i, by omega, h2⟩
theorem c_every {d : LD} {S : Rec} (ok : okL d) (hS : LandOf d S) : ∃ x, X2_everyCell S = some x ∧ ∀ c, c < 64 → tb x c = inC d c := by
  refine ⟨orL (S.2.2 9) 6, ?_, fun c hc => ?_⟩
  · have := forUp (fun n i s => X2_everyCell_L4 S n s i) 6 (orL (S.2.2 9)) (some (orL (S.2.2 9) 6)) (fun n k hk => ?_) (fun n => ?_) 6 0 aFu rfl (by decide)
    · have h : X2_everyCell_L4 S aFu 0 0 = some (orL (S.2.2 9) 6) := this
      unfold X2_everyCell
      rw [h]
      rfl
    · show X2_everyCell_L4 S (n + 1) (orL (S.2.2 9) k) (nI k) = _
      have h : ¬ 6 ≤ k := by omega
      simp (disch := omega) only [X2_everyCell_L4, li0, li1, li2, li3, li4, li5, li6, li7, li8, li11, li12, li16, li24, li25, li26, li31, li32, li36, li40, li48, li52, li58, li59, li60, li63, li64, li88, li96, li130, li192, li255, li2208, li2304, li9999, cmp0, cmpl, cmpg, cmple, cmpge, nI_leI, nI_ltI, nI_eq, rL, rI, wL, wI, Option.bind_some, aLet, nI_add, pk_mul, ↓reduceIte, if_true, if_false, eq_self, Nat.reduceEqDiff, Nat.reduceLeDiff, Nat.reduceLT, Nat.one_ne_zero, Nat.zero_ne_one, Nat.add_zero, Bool.false_eq_true, h]
      rfl
    · show X2_everyCell_L4 S (n + 1) (orL (S.2.2 9) 6) (nI 6) = _
      simp (disch := omega) only [X2_everyCell_L4, li0, li1, li2, li3, li4, li5, li6, li7, li8, li11, li12, li16, li24, li25, li26, li31, li32, li36, li40, li48, li52, li58, li59, li60, li63, li64, li88, li96, li130, li192, li255, li2208, li2304, li9999, cmp0, cmpl, cmpg, cmple, cmpge, nI_leI, nI_ltI, nI_eq, rL, rI, wL, wI, Option.bind_some, aLet, nI_add, pk_mul, ↓reduceIte, if_true, if_false, eq_self, Nat.reduceEqDiff, Nat.reduceLeDiff, Nat.reduceLT, Nat.one_ne_zero, Nat.zero_ne_one, Nat.add_zero, Bool.false_eq_true, Nat.le_refl]
  · rw [Bool.eq_iff_iff, tb_orL]
    obtain ⟨-, -, -, -, -, -, -, h9, -⟩ := hS
    constructor
    · rintro ⟨i, h1, h2⟩
      rw [h9 i h1 c hc, Bool.and_eq_true] at h2
      exact h2.1
    · intro h
      have hb := inC_b ok h
      refine ⟨lS d (pl c), ok.2.2.2.2.2.2.2.1 _ hb.2.2.1, ?_⟩
      rw [h9 _ (ok.2.2.2.2.2.2.2.1 _ hb.2.2.1) c hc, h]
      simp
