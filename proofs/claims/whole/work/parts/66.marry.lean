/-! marry: groups as numbers, the most pairs of each -/
def lw (g : Nat) : Nat := if g.testBit 0 then 0 else if g.testBit 1 then 1 else if g.testBit 2 then 2 else if g.testBit 3 then 3 else if g.testBit 4 then 4 else 5
def rm (g b : Nat) : Nat := if g.testBit b then g - 2 ^ b else g
theorem g_low : ∀ g, g < 64 → 0 < g → X8_leastCell ((nI g).toInt64) = nI (lw g) ∧ nI g &&& (nI g - nI 1) = nI (rm g (lw g)) ∧ lw g < 6 ∧ g.testBit (lw g) = true ∧ rm g (lw g) < g := by decide +kernel
theorem g_rm : ∀ g, g < 64 → ∀ b, b < 6 → nI g &&& ((nI 1 <<< (nI b &&& nI 31)) ^^^ -nI 1) = nI (rm g b) ∧ X8_hasBit (nI g) (nI b) = nI (g.testBit b).toNat ∧ X9_has (nI g) (nI b) = nI (g.testBit b).toNat ∧ rm g b ≤ g ∧ (rm g b).testBit b = false := by decide +kernel
theorem g_rm2 : ∀ g, g < 64 → ∀ a, a < 6 → ∀ b, b < 6 → nI g &&& (((nI 1 <<< (nI a &&& nI 31)) ||| (nI 1 <<< (nI b &&& nI 31))) ^^^ -nI 1) = nI (rm (rm g a) b) := by decide +kernel
theorem g_modD : ∀ H, H < 7 → ∀ g, g < 64 → (lw g < H ∨ g = 0 ∨ (g % 2 ^ H = 0 ∧ rm g (lw g) % 2 ^ H = 0)) ∧ (H ≤ lw g ∨ g = 0 ∨ (0 < g % 2 ^ H ∧ lw (g % 2 ^ H) = lw g)) ∧ g % 2 ^ H < 64 ∧ g % 2 ^ H ≤ g := by decide +kernel
theorem g_mod (H : Nat) (hH : H < 7) (g : Nat) (hg : g < 64) : (H ≤ lw g → 0 < g → g % 2 ^ H = 0 ∧ rm g (lw g) % 2 ^ H = 0) ∧ (lw g < H → 0 < g → 0 < g % 2 ^ H ∧ lw (g % 2 ^ H) = lw g) ∧ g % 2 ^ H < 64 ∧ g % 2 ^ H ≤ g := by
  obtain ⟨h1, h2, h3⟩ := g_modD H hH g hg
  refine ⟨fun a b => ?_, fun a b => ?_, h3⟩
  · rcases h1 with h | h | h
    · omega
    · omega
    · exact h
  · rcases h2 with h | h | h
    · omega
    · omega
    · exact h
theorem g_mod2 : ∀ H, H < 7 → ∀ g, g < 64 → ∀ b, b < H → (rm g b) % 2 ^ H = rm (g % 2 ^ H) b ∧ (g % 2 ^ H).testBit b = g.testBit b := by decide +kernel
theorem g_all : ∀ H, H < 7 → ((nI 1 <<< (nI H &&& nI 31)) - nI 1) = nI (2 ^ H - 1) ∧ 63 % 2 ^ H = 2 ^ H - 1 ∧ 2 ^ H - 1 < 64 := by decide +kernel
theorem r_lowest {g : Nat} (h : g < 64) (h0 : 0 < g) : X9_lowest (nI g) = some (nI (lw g)) := by
  have key : ∀ g, g < 64 → 0 < g → X9_lowest_L2 (nI g) 8 (nI 0) = some (nI (lw g)) := by decide +kernel
  have fu : ∀ n x v r, X9_lowest_L2 x n v = some r → ∀ e, X9_lowest_L2 x (n + e) v = some r := by
    intro n
    induction n with
    | zero => intro x v r h; cases h
    | succ n ih =>
      intro x v r h e
      rw [show n + 1 + e = (n + e) + 1 by omega]
      simp only [X9_lowest_L2, aLet] at h ⊢
      revert h
      split
      · exact fun h => ih _ _ _ h e
      · exact fun h => h
  have := fu 8 _ _ _ (key g h h0) 99992
  have e : X9_lowest_L2 (nI g) aFu 0 = some (nI (lw g)) := this
  unfold X9_lowest
  rw [e]
  rfl
/-- the best of a group, when the first of it stays single or takes one ahead of k -/
def fo (adj : Nat → Nat → Bool) (M : Nat → Nat) (g : Nat) : Nat → Nat
  | 0 => M (rm g (lw g))
  | k + 1 => if lw g < k ∧ (rm g (lw g)).testBit k = true ∧ adj (lw g) k = true then max (fo adj M g k) (1 + M (rm (rm g (lw g)) k)) else fo adj M g k
theorem fo_cong {adj : Nat → Nat → Bool} {M M' : Nat → Nat} {g : Nat} (hg : g < 64) (h0 : 0 < g) (h : ∀ x, x < g → M x = M' x) : ∀ k, k ≤ 6 → fo adj M g k = fo adj M' g k := by
  have gl := g_low g hg h0
  intro k
  induction k with
  | zero => exact fun _ => h _ gl.2.2.2.2
  | succ k ih =>
    intro hk
    have gr := g_rm (rm g (lw g)) (by omega) k (by omega)
    rw [fo, fo, ih (by omega), h _ (by omega)]
def mof (adj : Nat → Nat → Bool) : Nat → Nat → Nat
  | 0, _ => 0
  | f + 1, g => if g = 0 then 0 else fo adj (mof adj f) g 6
theorem mof_f {adj : Nat → Nat → Bool} : ∀ g, g < 64 → ∀ f, g ≤ f → mof adj f g = mof adj g g := by
  intro g
  induction g using Nat.strongRecOn with
  | _ g ih =>
    intro hg f hf
    by_cases h0 : g = 0
    · subst h0
      cases f with
      | zero => rfl
      | succ f => rfl
    · obtain ⟨f, rfl⟩ : ∃ z, f = z + 1 := ⟨f - 1, by omega⟩
      obtain ⟨g', rfl⟩ : ∃ z, g = z + 1 := ⟨g - 1, by omega⟩
      rw [mof, mof, if_neg h0, if_neg h0]
      exact fo_cong hg (by omega) (fun x hx => by
        rw [ih x hx (by omega) f (by omega), ih x hx (by omega) g' (by omega)]) 6 (Nat.le_refl 6)
def mo (adj : Nat → Nat → Bool) (g : Nat) : Nat := mof adj g g
theorem mo_0 (adj : Nat → Nat → Bool) : mo adj 0 = 0 := rfl
theorem mo_s (adj : Nat → Nat → Bool) {g : Nat} (hg : g < 64) (h0 : 0 < g) : mo adj g = fo adj (mo adj) g 6 := by
  obtain ⟨g', rfl⟩ : ∃ z, g = z + 1 := ⟨g - 1, by omega⟩
  show mof adj (g' + 1) (g' + 1) = _
  rw [mof, if_neg (by omega)]
  exact fo_cong hg h0 (fun x hx => mof_f x (by omega) g' (by omega)) 6 (Nat.le_refl 6)
theorem mo_le (adj : Nat → Nat → Bool) : ∀ g, g < 64 → mo adj g ≤ g := by
  intro g
  induction g using Nat.strongRecOn with
  | _ g ih =>
    intro hg
    by_cases h0 : g = 0
    · rw [h0, mo_0]
      exact Nat.le_refl 0
    · have gl := g_low g hg (by omega)
      have key : ∀ k, k ≤ 6 → fo adj (mo adj) g k ≤ g := fun k => by
        induction k with
        | zero =>
          intro _
          have := ih _ gl.2.2.2.2 (by omega)
          show mo adj (rm g (lw g)) ≤ g
          omega
        | succ k ihk =>
          intro hk
          have gr := g_rm (rm g (lw g)) (by omega) k (by omega)
          have := ih (rm (rm g (lw g)) k) (by omega) (by omega)
          have := ihk (by omega)
          rw [fo]
          split <;> omega
      rw [mo_s adj hg (by omega)]
      exact key 6 (Nat.le_refl 6)
theorem fo_le (adj : Nat → Nat → Bool) {g : Nat} (hg : g < 64) (h0 : 0 < g) : ∀ k, k ≤ 6 → fo adj (mo adj) g k ≤ 64 := by
  have gl := g_low g hg h0
  intro k
  induction k with
  | zero =>
    intro _
    have := mo_le adj (rm g (lw g)) (by omega)
    show mo adj (rm g (lw g)) ≤ 64
    omega
  | succ k ihk =>
    intro hk
    have gr := g_rm (rm g (lw g)) (by omega) k (by omega)
    have := mo_le adj (rm (rm g (lw g)) k) (by omega)
    have := ihk (by omega)
    rw [fo]
    split <;> omega
/-- who isn't there counts for nothing -/
theorem mo_mod {adj : Nat → Nat → Bool} {H : Nat} (hH : H < 7) (ha : ∀ a b, adj a b = true → a < H ∧ b < H) : ∀ g, g < 64 → mo adj g = mo adj (g % 2 ^ H) := by
  intro g
  induction g using Nat.strongRecOn with
  | _ g ih =>
    intro hg
    by_cases h0 : g = 0
    · rw [h0, Nat.zero_mod]
    · obtain ⟨m1, m2, m3, m4⟩ := g_mod H hH g hg
      have gl := g_low g hg (by omega)
      by_cases lH : H ≤ lw g
      · obtain ⟨a1, a2⟩ := m1 lH (by omega)
        have key : ∀ k, k ≤ 6 → fo adj (mo adj) g k = 0 := fun k => by
          induction k with
          | zero =>
            intro _
            show mo adj (rm g (lw g)) = 0
            rw [ih _ gl.2.2.2.2 (by omega), a2, mo_0]
          | succ k ihk =>
            intro hk
            rw [fo, if_neg (fun z => by have := ha _ _ z.2.2; omega), ihk (by omega)]
        rw [mo_s adj hg (by omega), key 6 (Nat.le_refl 6), a1, mo_0]
      · obtain ⟨b1, b2⟩ := m2 (by omega) (by omega)
        have e1 := (g_mod2 H hH g hg (lw g) (by omega)).1
        have key : ∀ k, k ≤ 6 → fo adj (mo adj) g k = fo adj (mo adj) (g % 2 ^ H) k := fun k => by
          induction k with
          | zero =>
            intro _
            show mo adj (rm g (lw g)) = mo adj (rm (g % 2 ^ H) (lw (g % 2 ^ H)))
            rw [ih _ gl.2.2.2.2 (by omega), e1, b2]
          | succ k ihk =>
            intro hk
            rw [fo, fo, ihk (by omega), b2, ← e1]
            by_cases kH : k < H
            · have e2 := g_mod2 H hH (rm g (lw g)) (by omega) k kH
              have gr := g_rm (rm g (lw g)) (by omega) k (by omega)
              rw [e2.2, ← e2.1, ih (rm (rm g (lw g)) k) (by omega) (by omega)]
            · rw [if_neg (fun z => kH (ha _ _ z.2.2).2), if_neg (fun z => kH (ha _ _ z.2.2).2)]
        rw [mo_s adj hg (by omega), key 6 (Nat.le_refl 6), mo_s adj m3 b1]
/-- the first one ahead of k whom `one` can take so that the most are paired -/
def sel (adj : Nat → Nat → Bool) (g one : Nat) : Nat → Option Nat
  | 0 => none
  | k + 1 => match sel adj g one k with
    | some b => some b
    | none => if one < k ∧ (rm g one).testBit k = true ∧ adj one k = true ∧ 1 + mo adj (rm (rm g one) k) = mo adj g then some k else none
theorem sel_lt {adj : Nat → Nat → Bool} {g one : Nat} : ∀ {k b}, sel adj g one k = some b → one < b ∧ b < k
  | k + 1, b, h => by
    rw [sel] at h
    cases q : sel adj g one k with
    | some a =>
      rw [q] at h
      have := sel_lt q
      cases h
      omega
    | none =>
      rw [q] at h
      dsimp only at h
      split at h
      · rename_i z
        cases h
        omega
      · cases h
theorem sel_keep {adj : Nat → Nat → Bool} {g one k b : Nat} (h : sel adj g one k = some b) : ∀ e, sel adj g one (k + e) = some b
  | 0 => h
  | e + 1 => by
    show sel adj g one (k + e + 1) = _
    rw [sel, sel_keep h e]
theorem sel_early {adj : Nat → Nat → Bool} {g one : Nat} : ∀ {k}, k ≤ one + 1 → sel adj g one k = none
  | 0, _ => rfl
  | k + 1, h => by
    rw [sel, sel_early (k := k) (by omega)]
    dsimp only
    rw [if_neg (fun z => by omega)]
theorem sel_late {adj : Nat → Nat → Bool} {H : Nat} (ha : ∀ a b, adj a b = true → a < H ∧ b < H) {g one : Nat} : ∀ e, sel adj g one (H + e) = sel adj g one H
  | 0 => rfl
  | e + 1 => by
    show sel adj g one (H + e + 1) = _
    rw [sel, sel_late ha e]
    cases sel adj g one H with
    | some b => rfl
    | none =>
      dsimp only
      rw [if_neg (fun z => by have := (ha _ _ z.2.2.1).2; omega)]
theorem sel_mod {adj : Nat → Nat → Bool} {H : Nat} (hH : H < 7) (ha : ∀ a b, adj a b = true → a < H ∧ b < H) {g one : Nat} (hg : g < 64) (ho : one < H) : ∀ k, k ≤ H → sel adj g one k = sel adj (g % 2 ^ H) one k
  | 0, _ => rfl
  | k + 1, hk => by
    have e1 := g_mod2 H hH g hg one ho
    have g1 := g_rm g hg one (by omega)
    have e2 := g_mod2 H hH (rm g one) (by omega) k (by omega)
    have g2 := g_rm (rm g one) (by omega) k (by omega)
    rw [sel, sel, sel_mod hH ha hg ho k (by omega), ← e1.1, e2.2, ← e2.1, ← mo_mod hH ha (rm (rm g one) k) (by omega), ← mo_mod hH ha g hg]
/-- the pairs made, one by one -/
def upN (f : Nat → Int32) (k : Nat) (x : Int32) : Nat → Int32 := fun j => if j = k then x else f j
def pst (adj : Nat → Nat → Bool) : Nat → Nat × (Nat → Int32)
  | 0 => (63, fun _ => -nI 4)
  | k + 1 => let s := pst adj k
    if s.1.testBit k then (match sel adj s.1 k 6 with
      | some b => (rm (rm s.1 k) b, upN (upN s.2 k (nI b)) b (nI k))
      | none => (rm s.1 k, s.2)) else s
theorem pst_lt (adj : Nat → Nat → Bool) : ∀ k, k ≤ 6 → (pst adj k).1 < 64
  | 0, _ => by
    show 63 < 64
    omega
  | k + 1, h => by
    have ih := pst_lt adj k (by omega)
    have g1 := g_rm (pst adj k).1 ih k (by omega)
    rw [pst]
    split
    · cases q : sel adj (pst adj k).1 k 6 with
      | some b =>
        have := sel_lt q
        have g2 := g_rm (rm (pst adj k).1 k) (by omega) b (by omega)
        show rm (rm (pst adj k).1 k) b < 64
        omega
      | none =>
        show rm (pst adj k).1 k < 64
        omega
    · exact ih
theorem pst_late {adj : Nat → Nat → Bool} {H : Nat} (ha : ∀ a b, adj a b = true → a < H ∧ b < H) : ∀ e, (pst adj (H + e)).2 = (pst adj H).2
  | 0 => rfl
  | e + 1 => by
    show (pst adj (H + e + 1)).2 = _
    rw [pst]
    have no : ∀ k, sel adj (pst adj (H + e)).1 (H + e) k = none := fun k => by
      cases q : sel adj (pst adj (H + e)).1 (H + e) k with
      | none => rfl
      | some b =>
        exfalso
        revert q
        induction k with
        | zero => intro q; cases q
        | succ k ih =>
          intro q
          rw [sel] at q
          cases w : sel adj (pst adj (H + e)).1 (H + e) k with
          | some a => 
            rw [w] at q
            cases q
            exact ih w
          | none =>
            rw [w] at q
            dsimp only at q
            split at q
            · rename_i z
              have := (ha _ _ z.2.2.1).1
              omega
            · cases q
    split
    · rw [no 6]
      exact pst_late ha e
    · exact pst_late ha e
