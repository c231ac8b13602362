/-! walks over a set, the least cell first; prices -/
def sm (g : Nat → Nat) (P : Nat → Bool) : Nat → Nat
  | 0 => 0
  | n + 1 => sm g P n + (if P n then g n else 0)
theorem sm_cong {g : Nat → Nat} {p q : Nat → Bool} : ∀ {n : Nat}, (∀ k, k < n → p k = q k) → sm g p n = sm g q n
  | 0, _ => rfl
  | n + 1, h => by rw [sm, sm, sm_cong (n := n) (fun k hk => h k (by omega)), h n (by omega)]
theorem sm_del {g : Nat → Nat} {P : Nat → Bool} {t : Nat} (ht : P t = true) : ∀ {n : Nat}, sm g (fun i => P i && !decide (i = t)) n + (if t < n then g t else 0) = sm g P n
  | 0 => by simp [sm]
  | n + 1 => by
    have := sm_del (g := g) ht (n := n)
    simp only [sm]
    by_cases q : n = t
    · subst q
      simp [ht] at this ⊢
      omega
    · by_cases q2 : t < n
      · simp only [q2, show t < n + 1 by omega, if_true] at this ⊢
        simp [q]
        omega
      · simp only [q2, show ¬ t < n + 1 by omega, if_false] at this ⊢
        simp [q]
        omega
theorem cn_sm (P : Nat → Bool) : ∀ n, cn P n = sm (fun _ => 1) P n
  | 0 => rfl
  | n + 1 => by
    rw [cn, sm, cn_sm P n]
    cases P n <;> rfl
theorem sm_le {g : Nat → Nat} {P : Nat → Bool} {m : Nat} (h : ∀ c, P c = true → g c ≤ m) : ∀ n, sm g P n ≤ n * m
  | 0 => by simp [sm]
  | n + 1 => by
    have := sm_le h n
    rw [sm, Nat.succ_mul]
    by_cases q : P n = true
    · rw [if_pos q]
      have := h n q
      omega
    · rw [if_neg q]
      omega
/-- one step of a walk: the least cell t, and what is left -/
theorem walk {x : Int64} {m : Nat} (h : cn (tb x) 64 = m + 1) : ∃ t, t < 64 ∧ tb x t = true ∧ (∀ i, i < t → tb x i = false) ∧ X8_leastCell x = nI t ∧ (∀ i, i < 64 → tb (x &&& (x - 1)) i = (tb x i && !decide (i = t))) ∧ (∀ i, i < 64 → tb (x &&& -x) i = decide (i = t)) ∧ cn (tb (x &&& (x - 1))) 64 = m ∧ ∀ g, sm g (tb x) 64 = g t + sm g (tb (x &&& (x - 1))) 64 := by
  have hx : x ≠ 0 := fun e => by
    rw [set0.mp e] at h
    omega
  obtain ⟨t, h1, h2, h3, h4, h5, h6⟩ := low hx
  have hs : ∀ g, sm g (tb x) 64 = g t + sm g (tb (x &&& (x - 1))) 64 := fun g => by
    have := sm_del (g := g) h2 (n := 64)
    rw [if_pos h1] at this
    rw [sm_cong (fun k hk => h5 k hk)]
    omega
  refine ⟨t, h1, h2, h3, h6, h5, h4, ?_, hs⟩
  have := hs (fun _ => 1)
  rw [← cn_sm, ← cn_sm] at this
  omega
def prc (c : Nat) : Nat := c / 8 + c % 8 + 1
theorem c_priceL : ∀ (m n : Nat) (x : Int64) (a : Nat), m < n → a ≤ 1000 * (64 - m) → cn (tb x) 64 = m → X8_priceOf_L10 n (nI a) x (nI m) = some (nI (a + sm prc (tb x) 64)) := by
  intro m
  induction m with
  | zero =>
    intro n x a hn ha h
    obtain ⟨n, rfl⟩ : ∃ z, n = z + 1 := ⟨n - 1, by omega⟩
    have e : sm prc (tb x) 64 = 0 := by
      rw [sm_cong (q := fun _ => false) (fun k hk => cn_zero.mp h k hk)]
      rfl
    simp (disch := omega) only [X8_priceOf_L10, li0, li1, li2, li3, li4, li5, li6, li7, li8, li11, li12, li16, li24, li25, li26, li31, li32, li36, li40, li48, li52, li58, li59, li60, li63, li64, li88, li96, li130, li192, li255, li2208, li2304, li9999, cmp0, cmpl, cmpg, cmple, cmpge, nI_leI, nI_ltI, nI_eq, rL, rI, wL, wI, Option.bind_some, aLet, nI_add, pk_mul, ↓reduceIte, if_true, if_false, eq_self, Nat.reduceEqDiff, Nat.reduceLeDiff, Nat.reduceLT, Nat.one_ne_zero, Nat.zero_ne_one, Nat.add_zero, Bool.false_eq_true, Nat.le_refl, e]
  | succ m ih =>
    intro n x a hn ha h
    obtain ⟨n, rfl⟩ : ∃ z, n = z + 1 := ⟨n - 1, by omega⟩
    obtain ⟨t, h1, h2, h3, h4, h5, h6, h7, h8⟩ := walk h
    have hm : m + 1 ≤ 64 := by
      rw [← h]
      exact cn_le _ _
    have z : ¬ m + 1 ≤ 0 := by omega
    have em : nI (m + 1) + -nI 1 = nI m := pk_m1 m
    simp (disch := omega) only [X8_priceOf_L10, h4, li0, li1, li2, li3, li4, li5, li6, li7, li8, li11, li12, li16, li24, li25, li26, li31, li32, li36, li40, li48, li52, li58, li59, li60, li63, li64, li88, li96, li130, li192, li255, li2208, li2304, li9999, cmp0, cmpl, cmpg, cmple, cmpge, nI_leI, nI_ltI, nI_eq, rL, rI, wL, wI, Option.bind_some, aLet, nI_add, pk_mul, ↓reduceIte, if_true, if_false, eq_self, Nat.reduceEqDiff, Nat.reduceLeDiff, Nat.reduceLT, Nat.one_ne_zero, Nat.zero_ne_one, Nat.add_zero, Bool.false_eq_true, z, pk_div, pk_sub, em]
    rw [ih n _ _ (by omega) (by omega) h7, h8 prc]
    refine congrArg some (congrArg nI ?_)
    unfold prc
    omega
theorem c_price (x : Int64) : X8_priceOf x = some (nI (sm prc (tb x) 64)) := by
  have hl : cn (tb x) 64 ≤ 64 := cn_le _ _
  unfold X8_priceOf
  rw [pc64]
  unfold aLet
  have := c_priceL (cn (tb x) 64) aFu x 0 (by show _ < 100000; omega) (by omega) rfl
  dsimp only
  rw [show (0 : Int32) = nI 0 from rfl, this, Nat.zero_add]
  rfl
