/-! what lies at a cell -/
theorem c_soundAt {d : LD} {S : Rec} (ok : okL d) (hS : LandOf d S) {c : Nat} (hc : c < 64) (hi : inC d c = true) : X2_soundAt S (nI c) = some (nI (lS d (pl c))) := by
  have hs := ok.2.2.2.2.2.2.2.1 _ (inC_b ok hi).2.2.1
  have e : ∀ k, k < 6 → tb (S.2.2 9 k) c = decide (lS d (pl c) = k) := fun k hk => by rw [hS.2.2.2.2.2.2.2.1 k hk c hc, hi, Bool.true_and]
  have key : ∀ m k n, k + m = 5 → m < n → k ≤ lS d (pl c) → X2_soundAt_L2 S (nI c) n (nI k) = some (if lS d (pl c) < 5 then .inl (nI (lS d (pl c))) else .inr ()) := by
    intro m
    induction m with
    | zero =>
      intro k n h1 h2 h3
      obtain ⟨n, rfl⟩ : ∃ z, n = z + 1 := ⟨n - 1, by omega⟩
      have : ¬ lS d (pl c) < 5 := by omega
      have h : 5 ≤ k := by omega
      simp (disch := omega) only [X2_soundAt_L2, li0, li1, li2, li3, li4, li5, li6, li7, li8, li11, li12, li16, li24, li25, li26, li31, li32, li36, li40, li48, li52, li58, li59, li60, li63, li64, li88, li96, li130, li192, li255, li2208, li2304, li9999, cmp0, cmpl, cmpg, cmple, cmpge, nI_leI, nI_ltI, nI_eq, rL, rI, wL, wI, Option.bind_some, aLet, nI_add, pk_mul, ↓reduceIte, if_true, if_false, eq_self, Nat.reduceEqDiff, Nat.reduceLeDiff, Nat.reduceLT, Nat.one_ne_zero, Nat.zero_ne_one, Nat.add_zero, Bool.false_eq_true, this, h]
    | succ m ih =>
      intro k n h1 h2 h3
      obtain ⟨n, rfl⟩ : ∃ z, n = z + 1 := ⟨n - 1, by omega⟩
      have h : ¬ (5 : Int32) ≤ nI k := nI_ge (b := 5) (by omega) (by decide)
      rw [X2_soundAt_L2, if_neg h, rL (by omega) (by decide), Option.bind_some]
      have t := tb_at (S.2.2 9 k) hc
      rw [e k (by omega)] at t
      by_cases q : lS d (pl c) = k
      · have t' : ¬ (decide (lS d (pl c) = k) = false) := by simp [q]
        rw [if_neg (fun z => t' (t.mp z)), if_pos (by omega), q]
      · rw [if_pos (t.mpr (by simp [q]))]
        unfold aLet
        rw [nI_1]
        exact ih (k + 1) n (by omega) (by omega) (by omega)
  unfold X2_soundAt
  have := key 5 0 aFu rfl (by decide) (by omega)
  rw [show (0 : Int32) = nI 0 from rfl, this, Option.bind_some]
  by_cases q : lS d (pl c) < 5
  · rw [if_pos q]
    rfl
  · rw [if_neg q, show lS d (pl c) = 5 by omega]
    rfl
theorem c_holderAt {d : LD} {S : Rec} (ok : okL d) (hS : LandOf d S) {c : Nat} (hc : c < 64) (hi : inC d c = true) : X2_holderAt S (nI c) = some (if lO d (pl c) = 0 then -4 else nI (lO d (pl c) - 1)) := by
  have hs : lO d (pl c) ≤ 6 := Nat.le_trans (ok.2.2.2.2.2.2.2.2.1 _ (inC_b ok hi).2.2.1) ok.1
  have e : ∀ k, k < 6 → tb (S.2.2 10 k) c = decide (lO d (pl c) = k + 1) := fun k hk => by rw [hS.2.2.2.2.2.2.2.2.1 k (by omega) c hc, hi, Bool.true_and, hw_i hk]
  have key : ∀ m k n, k + m = 6 → m < n → (lO d (pl c) = 0 ∨ k < lO d (pl c)) → X2_holderAt_L2 S (nI c) n (nI k) = some (if lO d (pl c) = 0 then .inr () else .inl (nI (lO d (pl c) - 1))) := by
    intro m
    induction m with
    | zero =>
      intro k n h1 h2 h3
      obtain ⟨n, rfl⟩ : ∃ z, n = z + 1 := ⟨n - 1, by omega⟩
      have : lO d (pl c) = 0 := by omega
      have h : 6 ≤ k := by omega
      simp (disch := omega) only [X2_holderAt_L2, li0, li1, li2, li3, li4, li5, li6, li7, li8, li11, li12, li16, li24, li25, li26, li31, li32, li36, li40, li48, li52, li58, li59, li60, li63, li64, li88, li96, li130, li192, li255, li2208, li2304, li9999, cmp0, cmpl, cmpg, cmple, cmpge, nI_leI, nI_ltI, nI_eq, rL, rI, wL, wI, Option.bind_some, aLet, nI_add, pk_mul, ↓reduceIte, if_true, if_false, eq_self, Nat.reduceEqDiff, Nat.reduceLeDiff, Nat.reduceLT, Nat.one_ne_zero, Nat.zero_ne_one, Nat.add_zero, Bool.false_eq_true, this, h]
    | succ m ih =>
      intro k n h1 h2 h3
      obtain ⟨n, rfl⟩ : ∃ z, n = z + 1 := ⟨n - 1, by omega⟩
      have h : ¬ (6 : Int32) ≤ nI k := nI_ge (b := 6) (by omega) (by decide)
      rw [X2_holderAt_L2, if_neg h, rL (by omega) (by decide), Option.bind_some]
      have t := tb_at (S.2.2 10 k) hc
      rw [e k (by omega)] at t
      by_cases q : lO d (pl c) = k + 1
      · have t' : ¬ (decide (lO d (pl c) = k + 1) = false) := by simp [q]
        rw [if_neg (fun z => t' (t.mp z)), if_neg (by omega), q]
        rfl
      · rw [if_pos (t.mpr (by simp [q]))]
        unfold aLet
        rw [nI_1]
        exact ih (k + 1) n (by omega) (by omega) (by omega)
  unfold X2_holderAt
  have := key 6 0 aFu rfl (by decide) (by omega)
  rw [show (0 : Int32) = nI 0 from rfl, this, Option.bind_some]
  by_cases q : lO d (pl c) = 0
  · rw [if_pos q, if_pos q]
    rfl
  · rw [if_neg q, if_neg q]
    rfl
