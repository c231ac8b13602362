/-! all sets of n, the first by numbers first: the program's walk and plain runs -/
noncomputable def nthP (P : Nat → Bool) (j : Nat) : Nat := if h : j < cn P 36 then (cn_hit h).choose else 0
theorem nth_at {P : Nat → Bool} {j : Nat} (h : j < cn P 36) : nthP P j < 36 ∧ P (nthP P j) = true ∧ cn P (nthP P j) = j := by
  unfold nthP
  rw [dif_pos h]
  exact (cn_hit h).choose_spec
theorem nth_of {P : Nat → Bool} {p : Nat} (hp : p < 36) (h : P p = true) : cn P p < cn P 36 ∧ nthP P (cn P p) = p := by
  have l := cn_less hp h
  obtain ⟨h1, h2, h3⟩ := nth_at l
  exact ⟨l, cn_inj h2 h h3⟩
theorem nth_lt {P : Nat → Bool} {j k : Nat} (h : j < k) (hk : k < cn P 36) : nthP P j < nthP P k := by
  obtain ⟨h1, h2, h3⟩ := nth_at (P := P) (j := j) (by omega)
  obtain ⟨g1, g2, g3⟩ := nth_at hk
  rcases Nat.lt_or_ge (nthP P j) (nthP P k) with q | q
  · exact q
  · have := cn_mono P q
    omega
def run1 {σ : Type} (f : σ → Nat → σ) : Nat → Nat → σ → σ
  | 0, _, s => s
  | d + 1, k, s => run1 f d (k + 1) (f s k)
/-- all sets of m more out of the d from k on, behind those of l -/
def rn {σ : Type} (g : σ → List Nat → σ) : Nat → List Nat → Nat → Nat → σ → σ
  | 0, l, _, _, s => g s l
  | m + 1, l, k, d, s => match d with
    | 0 => s
    | d + 1 => rn g (m + 1) l (k + 1) d (rn g m (l ++ [k]) (k + 1) d s)
termination_by m _ _ d => (m, d)
theorem rn_0 {σ : Type} (g : σ → List Nat → σ) (l : List Nat) (k d : Nat) (s : σ) : rn g 0 l k d s = g s l := by rw [rn]
theorem rn_e {σ : Type} (g : σ → List Nat → σ) (m : Nat) (l : List Nat) (k : Nat) (s : σ) : rn g (m + 1) l k 0 s = s := by rw [rn]
theorem rn_s {σ : Type} (g : σ → List Nat → σ) (m : Nat) (l : List Nat) (k d : Nat) (s : σ) : rn g (m + 1) l k (d + 1) s = rn g (m + 1) l (k + 1) d (rn g m (l ++ [k]) (k + 1) d s) := by rw [rn]
theorem rn_small {σ : Type} (g : σ → List Nat → σ) : ∀ (m d : Nat) (l : List Nat) (k : Nat) (s : σ), d < m → rn g m l k d s = s
  | 0, d, l, k, s, h => absurd h (by omega)
  | m + 1, 0, l, k, s, _ => rn_e g m l k s
  | m + 1, d + 1, l, k, s, h => by
    rw [rn_s, rn_small g m d _ _ _ (by omega)]
    exact rn_small g (m + 1) d l (k + 1) s (by omega)
theorem run_rn {σ : Type} (g : σ → List Nat → σ) (m : Nat) (l : List Nat) (S : Nat) : ∀ (d k : Nat) (s : σ), k + d = S → run1 (fun s k => rn g m (l ++ [k]) (k + 1) (S - (k + 1)) s) d k s = rn g (m + 1) l k d s
  | 0, k, s, _ => (rn_e g m l k s).symm
  | d + 1, k, s, h => by
    rw [run1, rn_s, run_rn g m l S d (k + 1) _ (by omega)]
    have : S - (k + 1) = d := by omega
    rw [this]
def nw : Nat → Nat → Nat
  | 0, _ => 1
  | _ + 1, 0 => 0
  | m + 1, d + 1 => nw m d + nw (m + 1) d
theorem nw_small : ∀ m d, d < m → nw m d = 0
  | 0, d, h => absurd h (by omega)
  | m + 1, 0, _ => by rw [nw]
  | m + 1, d + 1, h => by
    rw [nw, nw_small m d (by omega), nw_small (m + 1) d (by omega)]
theorem nw_step : ∀ s, s < 37 → ∀ k, k < 3 → nw k s * (s - k) / (k + 1) = nw (k + 1) s ∧ nw k s ≤ 7140 ∧ nw (k + 1) s ≤ 7140 := by decide +kernel
/-! the reference's loops -/
theorem ref1 {σ : Type} (b : Nat) (P : Nat → Bool) (f : σ → Nat → σ) (R : Rec → σ → Prop) (G : Nat → Int32 → Rec → Option Rec)
    (hend : ∀ n Z, G (n + 1) (nI 36) Z = some Z)
    (hskip : ∀ n p Z s, b ≤ p → p < 36 → P p = false → R Z s → ∃ Z', G (n + 1) (nI p) Z = G n (nI (p + 1)) Z' ∧ R Z' s)
    (htake : ∀ n p Z s, b ≤ p → p < 36 → P p = true → R Z s → ∃ Z', G (n + 1) (nI p) Z = G n (nI (p + 1)) Z' ∧ R Z' (f s (cn P p))) :
    ∀ e p n Z s, b ≤ p → p + e = 36 → e < n → R Z s → ∃ Z', G n (nI p) Z = some Z' ∧ R Z' (run1 f (cn P 36 - cn P p) (cn P p) s) := by
  intro e
  induction e with
  | zero =>
    intro p n Z s h0 h1 h2 h3
    obtain ⟨n, rfl⟩ : ∃ z, n = z + 1 := ⟨n - 1, by omega⟩
    obtain rfl : p = 36 := h1
    rw [Nat.sub_self]
    exact ⟨Z, hend n Z, h3⟩
  | succ e ih =>
    intro p n Z s h0 h1 h2 h3
    obtain ⟨n, rfl⟩ : ∃ z, n = z + 1 := ⟨n - 1, by omega⟩
    cases q : P p
    · obtain ⟨Z', e1, e2⟩ := hskip n p Z s h0 (by omega) q h3
      obtain ⟨Z2, i1, i2⟩ := ih (p + 1) n Z' s (by omega) (by omega) (by omega) e2
      rw [cn_no q] at i2
      exact ⟨Z2, e1.trans i1, i2⟩
    · obtain ⟨Z', e1, e2⟩ := htake n p Z s h0 (by omega) q h3
      obtain ⟨Z2, i1, i2⟩ := ih (p + 1) n Z' _ (by omega) (by omega) (by omega) e2
      rw [cn_yes q] at i2
      have l := cn_less (P := P) (show p < 36 by omega) q
      have : cn P 36 - cn P p = (cn P 36 - (cn P p + 1)) + 1 := by omega
      rw [this, run1]
      exact ⟨Z2, e1.trans i1, i2⟩
/-! the program's sets -/
def CS (s : Nat) (e : Nat → Nat) (n : Nat) (pk : Nat → Nat) (S : Rec) : Prop := S.1 1 = nI s ∧ S.1 3 = nI n ∧ (∀ k, k < s → S.2.2 0 k = oneC (e k)) ∧ ∀ k, k < n → S.2.1 2 k = nI (pk k)
theorem c_current {s n : Nat} {e pk : Nat → Nat} {S : Rec} (h : CS s e n pk S) (hs : s ≤ 36) (hn : n ≤ 3) (he : ∀ k, k < s → e k < 64) (hp : ∀ k, k < n → pk k < s) : ∃ x, X0_current S = some x ∧ ∀ c, tb x c = true ↔ ∃ k, k < n ∧ c = e (pk k) := by
  obtain ⟨h1, h2, h3, h4⟩ := h
  obtain ⟨x, x1, x2⟩ := forUpE (fun m j v => X0_current_L4 S m v j) n (fun k x => ∀ c, tb x c = true ↔ ∃ r, r < k ∧ c = e (pk r)) (fun x => ∀ c, tb x c = true ↔ ∃ r, r < n ∧ c = e (pk r)) (fun m k x hk hx => by
      have z : ¬ n ≤ k := by omega
      have p1 := hp k hk
      have z2 : ¬ s ≤ pk k := by omega
      have z3 : ¬ pk k < 0 := by omega
      have r4 := h4 k hk
      have r3 := h3 _ p1
      refine ⟨x ||| oneC (e (pk k)), ?_, fun c => ?_⟩
      · simp (disch := omega) only [X0_current_L4, h1, h2, r4, r3, z2, z3, li0, li1, li2, li3, li4, li5, li6, li7, li8, li11, li12, li16, li24, li25, li26, li31, li32, li36, li40, li48, li52, li58, li59, li60, li63, li64, li88, li96, li130, li192, li255, li2208, li2304, li9999, li9, li13, li14, li30, li35, li44, li45, li46, li47, li97, li98, li100, li101, li104, li105, li108, li110, li111, li112, li114, li117, li122, li999999, li1000000, li2147483647, cmp0, cmpl, cmpg, cmple, cmpge, nI_leI, nI_ltI, nI_eq, rL, rI, wL, wI, ob, aLet, nI_add, pk_mul, ↓reduceIte, if_true, if_false, eq_self, Nat.reduceEqDiff, Nat.reduceLeDiff, Nat.reduceLT, Nat.one_ne_zero, Nat.zero_ne_one, Nat.add_zero, Bool.false_eq_true, nI_neq, z]
      · rw [tb_or, tb_oneC (he _ p1), Bool.or_eq_true, hx c, decide_eq_true_eq]
        constructor
        · rintro (⟨r, q1, q2⟩ | q)
          · exact ⟨r, by omega, q2⟩
          · exact ⟨k, by omega, q⟩
        · rintro ⟨r, q1, q2⟩
          by_cases y : r = k
          · exact Or.inr (y ▸ q2)
          · exact Or.inl ⟨r, by omega, q2⟩) (fun m x hx => ⟨x, by simp (disch := omega) only [X0_current_L4, h2, li0, li1, li2, li3, li4, li5, li6, li7, li8, li11, li12, li16, li24, li25, li26, li31, li32, li36, li40, li48, li52, li58, li59, li60, li63, li64, li88, li96, li130, li192, li255, li2208, li2304, li9999, li9, li13, li14, li30, li35, li44, li45, li46, li47, li97, li98, li100, li101, li104, li105, li108, li110, li111, li112, li114, li117, li122, li999999, li1000000, li2147483647, cmp0, cmpl, cmpg, cmple, cmpge, nI_leI, nI_ltI, nI_eq, rL, rI, wL, wI, ob, aLet, nI_add, pk_mul, ↓reduceIte, if_true, if_false, eq_self, Nat.reduceEqDiff, Nat.reduceLeDiff, Nat.reduceLT, Nat.one_ne_zero, Nat.zero_ne_one, Nat.add_zero, Bool.false_eq_true, nI_neq, Nat.le_refl], hx⟩) n 0 aFu (0 : Int64) (by omega) (by show _ < 100000; omega) (fun c => by
      rw [tb_0]
      constructor
      · intro q
        cases q
      · rintro ⟨r, q, -⟩
        omega)
  refine ⟨x, ?_, x2⟩
  unfold X0_current
  have x1 : X0_current_L4 S aFu 0 0 = some x := x1
  rw [x1]
  rfl
def ix (m : Nat) : Int32 := nI m + -nI 1
theorem ix_s (m : Nat) : ix (m + 1) = nI m := pk_m1 m
theorem ix_0 : ix 0 = -nI 1 := by decide
theorem sub_ix (m : Nat) : nI m - nI 1 = ix m := by
  unfold ix
  rw [Int32.sub_eq_add_neg]
theorem adv7 {s n : Nat} {e pk : Nat → Nat} {S : Rec} (h : CS s e n pk S) (hs : s ≤ 36) (hn : n ≤ 3) (hns : n ≤ s) (hpk : ∀ k, k < n → pk k < 1000) : ∀ m, m ≤ n → ∀ f, m < f → ((∀ k, k < m → ¬ pk k < s - n + k) → X0_advance_L7 S f (ix m) = some (-nI 1)) ∧ ∀ q, q < m → pk q < s - n + q → (∀ k, q < k → k < m → ¬ pk k < s - n + k) → X0_advance_L7 S f (ix m) = some (nI q) := by
  obtain ⟨h1, h2, h3, h4⟩ := h
  intro m
  induction m with
  | zero =>
    intro hm f hf
    obtain ⟨f, rfl⟩ : ∃ z, f = z + 1 := ⟨f - 1, by omega⟩
    refine ⟨fun _ => ?_, fun q hq => absurd hq (by omega)⟩
    rw [ix_0]
    simp (disch := omega) only [X0_advance_L7, neg2, li0, li1, li2, li3, li4, li5, li6, li7, li8, li11, li12, li16, li24, li25, li26, li31, li32, li36, li40, li48, li52, li58, li59, li60, li63, li64, li88, li96, li130, li192, li255, li2208, li2304, li9999, li9, li13, li14, li30, li35, li44, li45, li46, li47, li97, li98, li100, li101, li104, li105, li108, li110, li111, li112, li114, li117, li122, li999999, li1000000, li2147483647, cmp0, cmpl, cmpg, cmple, cmpge, nI_leI, nI_ltI, nI_eq, rL, rI, wL, wI, ob, aLet, nI_add, pk_mul, ↓reduceIte, if_true, if_false, eq_self, Nat.reduceEqDiff, Nat.reduceLeDiff, Nat.reduceLT, Nat.one_ne_zero, Nat.zero_ne_one, Nat.add_zero, Bool.false_eq_true, nI_neq]
  | succ m ih =>
    intro hm f hf
    obtain ⟨f, rfl⟩ : ∃ z, f = z + 1 := ⟨f - 1, by omega⟩
    have r4 := h4 m (by omega)
    have p1 := hpk m (by omega)
    have sn : nI s - nI n = nI (s - n) := pk_sub hns
    have z0 : ¬ m < 0 := by omega
    have i := ih (by omega) f (by omega)
    have go : ¬ pk m < s - n + m → X0_advance_L7 S (f + 1) (ix (m + 1)) = X0_advance_L7 S f (ix m) := fun q => by
      rw [ix_s]
      simp (disch := omega) only [X0_advance_L7, h1, h2, r4, sn, z0, q, li0, li1, li2, li3, li4, li5, li6, li7, li8, li11, li12, li16, li24, li25, li26, li31, li32, li36, li40, li48, li52, li58, li59, li60, li63, li64, li88, li96, li130, li192, li255, li2208, li2304, li9999, li9, li13, li14, li30, li35, li44, li45, li46, li47, li97, li98, li100, li101, li104, li105, li108, li110, li111, li112, li114, li117, li122, li999999, li1000000, li2147483647, cmp0, cmpl, cmpg, cmple, cmpge, nI_leI, nI_ltI, nI_eq, rL, rI, wL, wI, ob, aLet, nI_add, pk_mul, ↓reduceIte, if_true, if_false, eq_self, Nat.reduceEqDiff, Nat.reduceLeDiff, Nat.reduceLT, Nat.one_ne_zero, Nat.zero_ne_one, Nat.add_zero, Bool.false_eq_true, nI_neq]
      rfl
    refine ⟨fun q => ?_, fun q hq h5 h6 => ?_⟩
    · rw [go (q m (by omega))]
      exact i.1 (fun k hk => q k (by omega))
    · by_cases y : q = m
      · subst y
        rw [ix_s]
        simp (disch := omega) only [X0_advance_L7, h1, h2, r4, sn, z0, h5, li0, li1, li2, li3, li4, li5, li6, li7, li8, li11, li12, li16, li24, li25, li26, li31, li32, li36, li40, li48, li52, li58, li59, li60, li63, li64, li88, li96, li130, li192, li255, li2208, li2304, li9999, li9, li13, li14, li30, li35, li44, li45, li46, li47, li97, li98, li100, li101, li104, li105, li108, li110, li111, li112, li114, li117, li122, li999999, li1000000, li2147483647, cmp0, cmpl, cmpg, cmple, cmpge, nI_leI, nI_ltI, nI_eq, rL, rI, wL, wI, ob, aLet, nI_add, pk_mul, ↓reduceIte, if_true, if_false, eq_self, Nat.reduceEqDiff, Nat.reduceLeDiff, Nat.reduceLT, Nat.one_ne_zero, Nat.zero_ne_one, Nat.add_zero, Bool.false_eq_true, nI_neq]
      · rw [go (h6 m (by omega) (by omega))]
        exact i.2 q (by omega) h5 (fun k h7 h8 => h6 k h7 (by omega))
theorem adv_end {s n : Nat} {e pk : Nat → Nat} {S : Rec} (h : CS s e n pk S) (hs : s ≤ 36) (hn : n ≤ 3) (hns : n ≤ s) (hpk : ∀ k, k < n → pk k < 1000) (hm : ∀ k, k < n → ¬ pk k < s - n + k) : X0_advance S = some S := by
  have l := (adv7 h hs hn hns hpk n (Nat.le_refl n) aFu (by show _ < 100000; omega)).1 hm
  unfold X0_advance
  rw [show (1 : Int32) = nI 1 from rfl, h.2.1, sub_ix, aLet, l, ob, if_neg (by decide)]
def bump (pk : Nat → Nat) (q : Nat) : Nat → Nat := fun k => if k < q then pk k else pk q + 1 + (k - q)
theorem adv_in {s n : Nat} {e pk : Nat → Nat} {S : Rec} (h : CS s e n pk S) (hs : s ≤ 36) (hn : n ≤ 3) (hns : n ≤ s) (hpk : ∀ k, k < n → pk k < 1000) {q : Nat} (hq : q < n) (h5 : pk q < s - n + q) (hm : ∀ k, q < k → k < n → ¬ pk k < s - n + k) : ∃ S', X0_advance S = some S' ∧ CS s e n (bump pk q) S' := by
  have l := (adv7 h hs hn hns hpk n (Nat.le_refl n) aFu (by show _ < 100000; omega)).2 q hq h5 hm
  obtain ⟨h1, h2, h3, h4⟩ := h
  have r4 := h4 q hq
  obtain ⟨Z, z1, z2, z3, z4⟩ := forUpE (fun m j v => X0_advance_L56 m j v) n (fun t Z => q + 1 ≤ t ∧ Z.1 = S.1 ∧ Z.2.2 = S.2.2 ∧ ∀ k, k < t → Z.2.1 2 k = nI (bump pk q k)) (fun Z => Z.1 = S.1 ∧ Z.2.2 = S.2.2 ∧ ∀ k, k < n → Z.2.1 2 k = nI (bump pk q k)) (fun m t Z ht hZ => by
      obtain ⟨y0, y1, y2, y3⟩ := hZ
      have e3 : Z.1 3 = nI n := by rw [y1]; exact h2
      have h : ¬ n ≤ t := by omega
      have e4 := y3 (t - 1) (by omega)
      have e5 : nI t - nI 1 = nI (t - 1) := pk_sub (by omega)
      have e6 : bump pk q (t - 1) + 1 = bump pk q t := by
        unfold bump
        rw [if_neg (by omega), if_neg (by omega)]
        omega
      refine ⟨sA Z 2 (upd (Z.2.1 2) t (nI (bump pk q t))), ?_, by omega, y1, y2, fun k hk => ?_⟩
      · simp (disch := omega) only [X0_advance_L56, e3, e5, e4, e6, li0, li1, li2, li3, li4, li5, li6, li7, li8, li11, li12, li16, li24, li25, li26, li31, li32, li36, li40, li48, li52, li58, li59, li60, li63, li64, li88, li96, li130, li192, li255, li2208, li2304, li9999, li9, li13, li14, li30, li35, li44, li45, li46, li47, li97, li98, li100, li101, li104, li105, li108, li110, li111, li112, li114, li117, li122, li999999, li1000000, li2147483647, cmp0, cmpl, cmpg, cmple, cmpge, nI_leI, nI_ltI, nI_eq, rL, rI, wL, wI, ob, aLet, nI_add, pk_mul, ↓reduceIte, if_true, if_false, eq_self, Nat.reduceEqDiff, Nat.reduceLeDiff, Nat.reduceLT, Nat.one_ne_zero, Nat.zero_ne_one, Nat.add_zero, Bool.false_eq_true, nI_neq, h]
      · show upd (Z.2.1 2) t (nI (bump pk q t)) k = _
        by_cases w : k = t
        · rw [w, pk_us]
        · rw [pk_un w]
          exact y3 k (by omega)) (fun m Z hZ => ⟨Z, by
      have e3 : Z.1 3 = nI n := by rw [hZ.2.1]; exact h2
      simp (disch := omega) only [X0_advance_L56, e3, li0, li1, li2, li3, li4, li5, li6, li7, li8, li11, li12, li16, li24, li25, li26, li31, li32, li36, li40, li48, li52, li58, li59, li60, li63, li64, li88, li96, li130, li192, li255, li2208, li2304, li9999, li9, li13, li14, li30, li35, li44, li45, li46, li47, li97, li98, li100, li101, li104, li105, li108, li110, li111, li112, li114, li117, li122, li999999, li1000000, li2147483647, cmp0, cmpl, cmpg, cmple, cmpge, nI_leI, nI_ltI, nI_eq, rL, rI, wL, wI, ob, aLet, nI_add, pk_mul, ↓reduceIte, if_true, if_false, eq_self, Nat.reduceEqDiff, Nat.reduceLeDiff, Nat.reduceLT, Nat.one_ne_zero, Nat.zero_ne_one, Nat.add_zero, Bool.false_eq_true, nI_neq, Nat.le_refl], hZ.2⟩) (n - (q + 1)) (q + 1) aFu (sA S 2 (upd (S.2.1 2) q (nI (pk q + 1)))) (by omega) (by show _ < 100000; omega) ⟨Nat.le_refl _, rfl, rfl, fun k hk => by
      show upd (S.2.1 2) q (nI (pk q + 1)) k = _
      unfold bump
      by_cases y : k = q
      · rw [y, pk_us, if_neg (by omega)]
        simp
      · rw [pk_un y, if_pos (by omega)]
        exact h4 k (by omega)⟩
  refine ⟨Z, ?_, by rw [z2]; exact h1, by rw [z2]; exact h2, by rw [z3]; exact h3, z4⟩
  unfold X0_advance
  rw [show (1 : Int32) = nI 1 from rfl, h2, sub_ix, aLet, l, ob, if_pos (show (0 : Int32) ≤ nI q from nI_pos' (by omega)), rI (by omega) (by decide), ob, r4, nI_add, wI (by omega) (by decide), ob, aLet, nI_add, z1]
  rfl
theorem a_max0 {s k : Nat} (hs : s < 1000) (hk : k < 1000) : a_max (nI 0) (nI s - nI k) = nI (s - k) := by
  rcases Nat.lt_or_ge s k with h | h
  · have n := pk_sneg (a := s) (b := k) (by omega) h
    unfold a_max
    rw [if_neg (show ¬ nI 0 < nI s - nI k from fun q => (fa_of_lt n).2.2.1 q), show s - k = 0 by omega]
  · rw [pk_sub h, a_max_n (by omega) (by omega), Nat.zero_max]
/-- the cells of a set of places -/
def InS (d : LD) (P : Nat → Bool) (c : Nat) : Prop := inC d c = true ∧ P (pl c) = true
theorem c_begin8 {d : LD} (ok : okL d) {P : Nat → Bool} (hP : ∀ p, P p = true → inP d p = true) : ∀ (e t f : Nat) (x : Int64) (Z : Rec), t + e = cn P 36 → e < f → Z.1 1 = nI t → (∀ k, k < t → Z.2.2 0 k = oneC (cl (nthP P k))) → (∀ c, tb x c = true ↔ InS d P c ∧ t ≤ cn P (pl c)) → ∃ Z', X0_begin_L8 f x Z = some Z' ∧ Z'.1 1 = nI (cn P 36) ∧ ∀ k, k < cn P 36 → Z'.2.2 0 k = oneC (cl (nthP P k)) := by
  have s36 : cn P 36 ≤ 36 := cn_le _ _
  have place : ∀ c, InS d P c → pl c < 36 ∧ cl (pl c) = c ∧ c < 64 := fun c h => by
    have hb := inC_b ok h.1
    exact ⟨hb.2.2.1, cl_pl hb.2.1, by omega⟩
  have cell : ∀ p, p < 36 → P p = true → InS d P (cl p) := fun p hp h => ⟨inC_cl.trans (hP p h), by rw [pl_cl]; exact h⟩
  intro e
  induction e with
  | zero =>
    intro t f x Z h1 h2 h3 h4 h5
    obtain ⟨f, rfl⟩ : ∃ z, f = z + 1 := ⟨f - 1, by omega⟩
    obtain rfl : t = cn P 36 := h1
    refine ⟨Z, ?_, h3, h4⟩
    have x0 : x = 0 := tb_ext fun c hc => by
      rw [tb_0]
      cases q : tb x c
      · rfl
      · obtain ⟨g1, g2⟩ := (h5 c).mp q
        have := (nth_of (P := P) (place c g1).1 g1.2).1
        omega
    have z36 : Int32.ofNat 36 = nI 36 := rfl
    by_cases full : 36 ≤ cn P 36
    · simp (disch := omega) only [X0_begin_L8, z36, h3, li0, li1, li2, li3, li4, li5, li6, li7, li8, li11, li12, li16, li24, li25, li26, li31, li32, li36, li40, li48, li52, li58, li59, li60, li63, li64, li88, li96, li130, li192, li255, li2208, li2304, li9999, li9, li13, li14, li30, li35, li44, li45, li46, li47, li97, li98, li100, li101, li104, li105, li108, li110, li111, li112, li114, li117, li122, li999999, li1000000, li2147483647, cmp0, cmpl, cmpg, cmple, cmpge, nI_leI, nI_ltI, nI_eq, rL, rI, wL, wI, ob, aLet, nI_add, pk_mul, ↓reduceIte, if_true, if_false, eq_self, Nat.reduceEqDiff, Nat.reduceLeDiff, Nat.reduceLT, Nat.one_ne_zero, Nat.zero_ne_one, Nat.add_zero, Bool.false_eq_true, nI_neq, full]
    · simp (disch := omega) only [X0_begin_L8, z36, h3, li0, li1, li2, li3, li4, li5, li6, li7, li8, li11, li12, li16, li24, li25, li26, li31, li32, li36, li40, li48, li52, li58, li59, li60, li63, li64, li88, li96, li130, li192, li255, li2208, li2304, li9999, li9, li13, li14, li30, li35, li44, li45, li46, li47, li97, li98, li100, li101, li104, li105, li108, li110, li111, li112, li114, li117, li122, li999999, li1000000, li2147483647, cmp0, cmpl, cmpg, cmple, cmpge, nI_leI, nI_ltI, nI_eq, rL, rI, wL, wI, ob, aLet, nI_add, pk_mul, ↓reduceIte, if_true, if_false, eq_self, Nat.reduceEqDiff, Nat.reduceLeDiff, Nat.reduceLT, Nat.one_ne_zero, Nat.zero_ne_one, Nat.add_zero, Bool.false_eq_true, nI_neq, full, x0]
  | succ e ih =>
    intro t f x Z h1 h2 h3 h4 h5
    obtain ⟨f, rfl⟩ : ∃ z, f = z + 1 := ⟨f - 1, by omega⟩
    have tl : t < cn P 36 := by omega
    obtain ⟨n1, n2, n3⟩ := nth_at tl
    have mem : tb x (cl (nthP P t)) = true := (h5 _).mpr ⟨cell _ n1 n2, by rw [pl_cl]; omega⟩
    have x0 : ¬ x = 0 := fun q => by
      rw [q, tb_0] at mem
      cases mem
    obtain ⟨u, u1, u2, u3, u4, u5, u6⟩ := low x0
    obtain ⟨g1, g2⟩ := (h5 u).mp u2
    have eu : u = cl (nthP P t) := by
      have pu := place u g1
      have hb := inC_b ok (cell _ n1 n2).1
      rcases Nat.lt_trichotomy u (cl (nthP P t)) with q | q | q
      · have lt : pl u < nthP P t := by
          have := (pl_lt ok g1.1 (cell _ n1 n2).1).mpr q
          rwa [pl_cl] at this
        have := cn_less lt g1.2
        omega
      · exact q
      · have := u3 _ q
        rw [mem] at this
        cases this
    subst eu
    have e1 := low_one u1 u4
    have z36 : Int32.ofNat 36 = nI 36 := rfl
    have full : ¬ 36 ≤ t := by omega
    have e3 : ∀ w, (sL Z 0 w).1 1 = nI t := fun w => h3
    obtain ⟨Z', i1, i2⟩ := ih (t + 1) f (x &&& (x - 1)) (sI (sL Z 0 (vp_updL (Z.2.2 0) t (oneC (cl (nthP P t))))) 1 (nI (t + 1))) (by omega) (by omega) rfl (fun k hk => by
      show vp_updL (Z.2.2 0) t _ k = _
      by_cases y : k = t
      · rw [y, pk_uLs]
      · rw [pk_uLn y]
        exact h4 k (by omega)) (fun c => by
      constructor
      · intro hc
        have c64 : c < 64 := by
          rcases Nat.lt_or_ge c 64 with q | q
          · exact q
          · rw [tb_big q] at hc
            cases hc
        rw [u5 c c64, Bool.and_eq_true, Bool.not_eq_true', decide_eq_false_iff_not] at hc
        obtain ⟨w1, w2⟩ := (h5 c).mp hc.1
        refine ⟨w1, ?_⟩
        rcases Nat.lt_or_ge t (cn P (pl c)) with q | q
        · exact q
        · have pc := place c w1
          have := cn_inj w1.2 n2 (by omega)
          exact absurd (by rw [← pc.2.1, this]) hc.2
      · rintro ⟨w1, w2⟩
        have pc := place c w1
        rw [u5 c pc.2.2, (h5 c).mpr ⟨w1, by omega⟩, decide_eq_false (fun q => by
          rw [q, pl_cl, n3] at w2
          omega)]
        rfl)
    refine ⟨Z', ?_, i2⟩
    rw [← i1]
    simp (disch := omega) only [X0_begin_L8, z36, h3, e1, e3, li0, li1, li2, li3, li4, li5, li6, li7, li8, li11, li12, li16, li24, li25, li26, li31, li32, li36, li40, li48, li52, li58, li59, li60, li63, li64, li88, li96, li130, li192, li255, li2208, li2304, li9999, li9, li13, li14, li30, li35, li44, li45, li46, li47, li97, li98, li100, li101, li104, li105, li108, li110, li111, li112, li114, li117, li122, li999999, li1000000, li2147483647, cmp0, cmpl, cmpg, cmple, cmpge, nI_leI, nI_ltI, nI_eq, rL, rI, wL, wI, ob, aLet, nI_add, pk_mul, ↓reduceIte, if_true, if_false, eq_self, Nat.reduceEqDiff, Nat.reduceLeDiff, Nat.reduceLT, Nat.one_ne_zero, Nat.zero_ne_one, Nat.add_zero, Bool.false_eq_true, nI_neq, full, x0]
theorem c_begin {d : LD} (ok : okL d) {P : Nat → Bool} (hP : ∀ p, P p = true → inP d p = true) {y : Int64} (hy : ∀ c, tb y c = true ↔ InS d P c) (S : Rec) {n : Nat} (hn : n ≤ 3) : ∃ S', X0_begin S y (nI n) = some (nI (nw n (cn P 36)), S') ∧ CS (cn P 36) (fun k => cl (nthP P k)) n (fun k => k) S' := by
  have s36 : cn P 36 ≤ 36 := cn_le _ _
  obtain ⟨Z, z1, z2, z3⟩ := c_begin8 ok hP (cn P 36) 0 aFu y (sI S 1 (nI 0)) (by omega) (by show _ < 100000; omega) rfl (fun k hk => absurd hk (by omega)) (fun c => by
    rw [hy c]
    exact ⟨fun h => ⟨h, Nat.zero_le _⟩, fun h => h.1⟩)
  obtain ⟨e, c1, c2, c3, c4, c5, c6⟩ := forUpE (fun m j (s : Int32 × Rec) => X0_begin_L87 m s.1 j s.2) n (fun k e => e.1 = nI (nw k (cn P 36)) ∧ e.2.1 1 = nI (cn P 36) ∧ e.2.1 3 = nI n ∧ (∀ j, j < cn P 36 → e.2.2.2 0 j = oneC (cl (nthP P j))) ∧ ∀ j, j < k → e.2.2.1 2 j = nI j) (fun e => e.1 = nI (nw n (cn P 36)) ∧ e.2.1 1 = nI (cn P 36) ∧ e.2.1 3 = nI n ∧ (∀ j, j < cn P 36 → e.2.2.2 0 j = oneC (cl (nthP P j))) ∧ ∀ j, j < n → e.2.2.1 2 j = nI j) (fun m k e hk hI => by
      obtain ⟨i1, i2, i3, i4, i5⟩ := hI
      have h : ¬ n ≤ k := by omega
      obtain ⟨w1, w2, w3⟩ := nw_step (cn P 36) (by omega) k (by omega)
      have i2' : ∀ f, (sA e.2 2 f).1 1 = nI (cn P 36) := fun f => i2
      have am := a_max0 (s := cn P 36) (k := k) (by omega) (by omega)
      have ml : nw k (cn P 36) * (cn P 36 - k) ≤ 7140 * 36 := Nat.mul_le_mul w2 (by omega)
      have dv : nI (nw k (cn P 36) * (cn P 36 - k)) / nI (k + 1) = nI (nw (k + 1) (cn P 36)) := by
        rw [pk_div (by omega) (by omega) (by omega), w1]
      have k0 : ¬ k + 1 = 0 := by omega
      refine ⟨(nI (nw (k + 1) (cn P 36)), sA e.2 2 (upd (e.2.2.1 2) k (nI k))), ?_, rfl, i2, i3, i4, fun j hj => ?_⟩
      · simp (disch := omega) only [X0_begin_L87, i1, i3, i2', am, dv, k0, li0, li1, li2, li3, li4, li5, li6, li7, li8, li11, li12, li16, li24, li25, li26, li31, li32, li36, li40, li48, li52, li58, li59, li60, li63, li64, li88, li96, li130, li192, li255, li2208, li2304, li9999, li9, li13, li14, li30, li35, li44, li45, li46, li47, li97, li98, li100, li101, li104, li105, li108, li110, li111, li112, li114, li117, li122, li999999, li1000000, li2147483647, cmp0, cmpl, cmpg, cmple, cmpge, nI_leI, nI_ltI, nI_eq, rL, rI, wL, wI, ob, aLet, nI_add, pk_mul, ↓reduceIte, if_true, if_false, eq_self, Nat.reduceEqDiff, Nat.reduceLeDiff, Nat.reduceLT, Nat.one_ne_zero, Nat.zero_ne_one, Nat.add_zero, Bool.false_eq_true, nI_neq, h]
      · show upd (e.2.2.1 2) k (nI k) j = _
        by_cases y : j = k
        · rw [y, pk_us]
        · rw [pk_un y]
          exact i5 j (by omega)) (fun m e hI => ⟨e, by
      have i3 := hI.2.2.1
      simp (disch := omega) only [X0_begin_L87, i3, li0, li1, li2, li3, li4, li5, li6, li7, li8, li11, li12, li16, li24, li25, li26, li31, li32, li36, li40, li48, li52, li58, li59, li60, li63, li64, li88, li96, li130, li192, li255, li2208, li2304, li9999, li9, li13, li14, li30, li35, li44, li45, li46, li47, li97, li98, li100, li101, li104, li105, li108, li110, li111, li112, li114, li117, li122, li999999, li1000000, li2147483647, cmp0, cmpl, cmpg, cmple, cmpge, nI_leI, nI_ltI, nI_eq, rL, rI, wL, wI, ob, aLet, nI_add, pk_mul, ↓reduceIte, if_true, if_false, eq_self, Nat.reduceEqDiff, Nat.reduceLeDiff, Nat.reduceLT, Nat.one_ne_zero, Nat.zero_ne_one, Nat.add_zero, Bool.false_eq_true, nI_neq, Nat.le_refl], hI⟩) n 0 aFu (nI 1, sI Z 3 (nI n)) (by omega) (by show _ < 100000; omega) ⟨by rw [nw], z2, rfl, z3, fun j hj => absurd hj (by omega)⟩
  refine ⟨e.2, ?_, c3, c4, c5, c6⟩
  have c1 : X0_begin_L87 aFu (nI 1) (nI 0) (sI Z 3 (nI n)) = some e := c1
  have mx : a_max (nI 0) (a_min (nI n) (nI 3)) = nI n := by
    rw [a_min_n (by omega) (by decide), a_max_n (by decide) (by omega), show max 0 (min n 3) = n by omega]
  unfold X0_begin
  rw [show (0 : Int32) = nI 0 from rfl, z1, ob, show Int32.ofNat 3 = nI 3 from rfl, mx, show (1 : Int32) = nI 1 from rfl, c1, ob, c2]
def lst (n : Nat) (pk : Nat → Nat) : List Nat := (List.range n).map pk
theorem lst_s (n : Nat) (pk : Nat → Nat) : lst (n + 1) pk = lst n pk ++ [pk n] := by
  unfold lst
  rw [List.range_succ, List.map_append]
  rfl
theorem lst_cong {n : Nat} {pk pk' : Nat → Nat} (h : ∀ k, k < n → pk k = pk' k) : lst n pk = lst n pk' := by
  unfold lst
  refine List.map_congr_left (fun k hk => h k (List.mem_range.mp hk))
/-- the program's loop over all sets -/
theorem c_setsL {A B σ : Type} {F : Nat → Int32 → A → Rec → Option B} {R : A → σ → Prop} {g : σ → List Nat → σ} {s n : Nat} {e : Nat → Nat} (hs : s ≤ 36) (hn : n ≤ 3) (hns : n ≤ s)
    (h1 : ∀ f l acc v S S' pk, l < 8000 → CS s e n pk S → (∀ k, k < n → pk k < s) → (∀ j k, j < k → k < n → pk j < pk k) → X0_advance S = some S' → R acc v → ∃ acc', F (f + 1) (nI (l + 1)) acc S = F f (nI l) acc' S' ∧ R acc' (g v (lst n pk))) :
    ∀ m u, m + u = n → ∀ d k pk S acc v L f, k + d = s → m ≤ d → CS s e n pk S → (∀ j, j < u → pk j < k) → (∀ i j, i < j → j < u → pk i < pk j) → (∀ i, i < m → pk (u + i) = k + i) → nw m d + L < f → nw m d + L < 8000 → R acc v →
      ∃ f' acc' S', F f (nI (nw m d + L)) acc S = F f' (nI L) acc' S' ∧ L < f' ∧ R acc' (rn g m (lst u pk) k d v) ∧ ∀ q, q < u → pk q < s - n + q → (∀ j, q < j → j < u → ¬ pk j < s - n + j) → CS s e n (bump pk q) S' := by
  intro m
  induction m with
  | zero =>
    intro u hu d k pk S acc v L f a1 a2 hC b1 b2 b3 c1 c2 hR
    obtain rfl : u = n := by omega
    have lt : ∀ j, j < u → pk j < s := fun j hj => by
      have := b1 j hj
      omega
    have n0 : nw 0 d = 1 := by rw [nw]
    rw [n0] at c1 c2 ⊢
    obtain ⟨f, rfl⟩ : ∃ z, f = z + 1 := ⟨f - 1, by omega⟩
    rw [rn_0]
    have step : ∀ S', X0_advance S = some S' → ∃ acc', F (f + 1) (nI (1 + L)) acc S = F f (nI L) acc' S' ∧ R acc' (g v (lst u pk)) := fun S' hS' => by
      rw [show 1 + L = L + 1 by omega]
      exact h1 f L acc v S S' pk (by omega) hC lt b2 hS' hR
    rcases Classical.em (∃ q, q < u ∧ pk q < s - u + q ∧ ∀ j, q < j → j < u → ¬ pk j < s - u + j) with ⟨q, q1, q2, q3⟩ | no
    · obtain ⟨S', s1, s2⟩ := adv_in hC hs hn hns (fun k hk => by have := lt k hk; omega) q1 q2 q3
      obtain ⟨acc', e1, e2⟩ := step S' s1
      refine ⟨f, acc', S', e1, by omega, e2, fun p p1 p2 p3 => ?_⟩
      have : p = q := by
        rcases Nat.lt_trichotomy p q with w | w | w
        · exact absurd q2 (p3 q w q1)
        · exact w
        · exact absurd p2 (q3 p w p1)
      rw [this]
      exact s2
    · have all : ∀ r q, u - q = r → q < u → ¬ pk q < s - u + q := fun r => by
        induction r using Nat.strongRecOn with
        | _ r ih =>
          intro q hq1 hq2 hq3
          refine no ⟨q, hq2, hq3, fun j j1 j2 => ih (u - j) (by omega) j rfl j2⟩
      have s1 := adv_end hC hs hn hns (fun k hk => by have := lt k hk; omega) (fun k hk => all _ k rfl hk)
      obtain ⟨acc', e1, e2⟩ := step S s1
      exact ⟨f, acc', S, e1, by omega, e2, fun p p1 p2 p3 => absurd p2 (all _ p rfl p1)⟩
  | succ m ih =>
    intro u hu d
    induction d with
    | zero =>
      intro k pk S acc v L f a1 a2
      omega
    | succ d ihd =>
      intro k pk S acc v L f a1 a2 hC b1 b2 b3 c1 c2 hR
      have pu : pk u = k := by
        have := b3 0 (by omega)
        rwa [Nat.add_zero, Nat.add_zero] at this
      have nws : nw (m + 1) (d + 1) = nw m d + nw (m + 1) d := by rw [nw]
      rw [nws, Nat.add_assoc] at c1 c2 ⊢
      obtain ⟨f', acc', S', e1, e2, e3, e4⟩ := ih (u + 1) (by omega) d (k + 1) pk S acc v (nw (m + 1) d + L) f (by omega) (by omega) hC (fun j hj => by
        by_cases y : j = u
        · rw [y, pu]
          omega
        · have := b1 j (by omega)
          omega) (fun i j h1 h2 => by
        by_cases y : j = u
        · rw [y, pu]
          exact b1 i (by omega)
        · exact b2 i j h1 (by omega)) (fun i hi => by
        have := b3 (i + 1) (by omega)
        rw [show u + 1 + i = u + (i + 1) by omega, this]
        omega) c1 c2 hR
      rw [lst_s, pu] at e3
      rw [rn_s, e1]
      by_cases more : m + 1 ≤ d
      · have hC2 := e4 u (by omega) (by rw [pu]; omega) (fun j j1 j2 => absurd j2 (by omega))
        have bl : ∀ j, j < u → bump pk u j = pk j := fun j hj => if_pos hj
        obtain ⟨f2, acc2, S2, g1, g2, g3, g4⟩ := ihd (k + 1) (bump pk u) S' acc' _ L f' (by omega) more hC2 (fun j hj => by
          rw [bl j hj]
          have := b1 j hj
          omega) (fun i j h1 h2 => by
          rw [bl i (by omega), bl j h2]
          exact b2 i j h1 h2) (fun i hi => by
          unfold bump
          rw [if_neg (by omega), pu]
          omega) e2 (by omega) e3
        rw [lst_cong bl] at g3
        refine ⟨f2, acc2, S2, g1, g2, g3, fun q q1 q2 q3 => ?_⟩
        have := g4 q q1 (by rw [bl q q1]; exact q2) (fun j j1 j2 => by rw [bl j j2]; exact q3 j j1 j2)
        have eb : bump (bump pk u) q = bump pk q := funext fun j => by
          unfold bump
          by_cases w : j < q
          · rw [if_pos w, if_pos w, if_pos (by omega)]
          · rw [if_neg w, if_neg w, if_pos q1]
        rw [← eb]
        exact this
      · rw [nw_small (m + 1) d (by omega), Nat.zero_add] at e2 ⊢
        rw [rn_small g (m + 1) d _ _ _ (by omega)]
        refine ⟨f', acc', S', rfl, e2, e3, fun q q1 q2 q3 => ?_⟩
        refine e4 q (by omega) q2 (fun j j1 j2 => ?_)
        by_cases y : j = u
        · rw [y, pu]
          omega
        · exact q3 j j1 (by omega)
theorem c_allSets {A B σ : Type} {F : Nat → Int32 → A → Rec → Option B} {out : A → Rec → B} {R : A → σ → Prop} {g : σ → List Nat → σ} {s n : Nat} {e : Nat → Nat} (hs : s ≤ 36) (hn : n ≤ 3)
    (h0 : ∀ f acc S, F (f + 1) (nI 0) acc S = some (out acc S))
    (h1 : ∀ f l acc v S S' pk, l < 8000 → CS s e n pk S → (∀ k, k < n → pk k < s) → (∀ j k, j < k → k < n → pk j < pk k) → X0_advance S = some S' → R acc v → ∃ acc', F (f + 1) (nI (l + 1)) acc S = F f (nI l) acc' S' ∧ R acc' (g v (lst n pk))) (hw : nw n s ≤ 7140)
    {S : Rec} (hC : CS s e n (fun k => k) S) {acc : A} {v : σ} (hR : R acc v) : ∃ acc' S', F aFu (nI (nw n s)) acc S = some (out acc' S') ∧ R acc' (rn g n [] 0 s v) := by
  rcases Nat.lt_or_ge s n with h | h
  · rw [nw_small n s h, rn_small g n s _ _ _ h]
    exact ⟨acc, S, h0 99999 acc S, hR⟩
  · obtain ⟨f', acc', S', e1, e2, e3, -⟩ := c_setsL (F := F) (R := R) (g := g) hs hn h h1 n 0 rfl s 0 (fun k => k) S acc v 0 aFu (by omega) h hC (fun j hj => absurd hj (by omega)) (fun i j h1 h2 => absurd h2 (by omega)) (fun i hi => by omega) (by show _ < 100000; omega) (by omega) hR
    obtain ⟨f', rfl⟩ : ∃ z, f' = z + 1 := ⟨f' - 1, by omega⟩
    rw [Nat.add_zero] at e1
    rw [h0] at e1
    exact ⟨acc', S', e1, e3⟩
