/-! plain numbers: reading and writing rows, loops, sets of bits, how many bits -/
theorem rI {f : Nat → Int32} {m j : Nat} (h : j < m) (hm : m < 2 ^ 31) : rdI f m (nI j) = some (f j) := by
  have e : (nI j).toNatClampNeg = j := nI_clamp (by omega)
  rw [rdI, if_neg (nI_in h hm), e]
theorem rL {f : Nat → Int64} {m j : Nat} (h : j < m) (hm : m < 2 ^ 31) : rdL f m (nI j) = some (f j) := by
  have e : (nI j).toNatClampNeg = j := nI_clamp (by omega)
  rw [rdL, if_neg (nI_in h hm), e]
theorem wI {f : Nat → Int32} {m j : Nat} {x : Int32} (h : j < m) (hm : m < 2 ^ 31) : wrI f m (nI j) x = some (upd f j x) := by
  have e : (nI j).toNatClampNeg = j := nI_clamp (by omega)
  rw [wrI, if_neg (nI_in h hm), e]
theorem wL {f : Nat → Int64} {m j : Nat} {x : Int64} (h : j < m) (hm : m < 2 ^ 31) : wrL f m (nI j) x = some (vp_updL f j x) := by
  have e : (nI j).toNatClampNeg = j := nI_clamp (by omega)
  rw [wrL, if_neg (nI_in h hm), e]
/-- a loop that counts up -/
theorem forUp {σ τ : Type} (F : Nat → Int32 → σ → Option τ) (N : Nat) (st : Nat → σ) (out : Option τ) (hs : ∀ n k, k < N → F (n + 1) (nI k) (st k) = F n (nI (k + 1)) (st (k + 1))) (he : ∀ n, F (n + 1) (nI N) (st N) = out) : ∀ d k n, k + d = N → d < n → F n (nI k) (st k) = out := by
  intro d
  induction d with
  | zero =>
    intro k n h1 h2
    obtain ⟨n, rfl⟩ : ∃ z, n = z + 1 := ⟨n - 1, by omega⟩
    obtain rfl : k = N := h1
    exact he n
  | succ d ih =>
    intro k n h1 h2
    obtain ⟨n, rfl⟩ : ∃ z, n = z + 1 := ⟨n - 1, by omega⟩
    rw [hs n k (by omega)]
    exact ih (k + 1) n (by omega) (by omega)
/-- how many places have it -/
def cn (p : Nat → Bool) : Nat → Nat
  | 0 => 0
  | n + 1 => cn p n + (p n).toNat
theorem cn_cong {p q : Nat → Bool} : ∀ {n : Nat}, (∀ k, k < n → p k = q k) → cn p n = cn q n
  | 0, _ => rfl
  | n + 1, h => by rw [cn, cn, cn_cong (n := n) (fun k hk => h k (by omega)), h n (by omega)]
theorem cn_le (p : Nat → Bool) : ∀ n, cn p n ≤ n
  | 0 => Nat.le_refl _
  | n + 1 => by
    have := cn_le p n
    have h2 : (p n).toNat ≤ 1 := Bool.toNat_le _
    rw [cn]
    omega
/-! ### bytes -/
def dg (d : Nat → Nat) : Nat → Nat
  | 0 => 0
  | m + 1 => d m * 256 ^ m + dg d m
theorem and_256 {a b : Nat} (x y : Nat) {k : Nat} (ha : a < 2 ^ k) (hb : b < 2 ^ k) : (2 ^ k * x + a) &&& (2 ^ k * y + b) = 2 ^ k * (x &&& y) + (a &&& b) := by
  apply Nat.eq_of_testBit_eq
  intro i
  rw [Nat.testBit_and, Nat.testBit_two_pow_mul_add _ ha, Nat.testBit_two_pow_mul_add _ hb, Nat.testBit_two_pow_mul_add _ (Nat.and_lt_two_pow _ hb)]
  by_cases h : i < k
  · simp [h]
  · simp [h]
def d8 (b : Nat) : Nat := (b &&& 1) + (b / 2 &&& 1) + (b / 4 &&& 1) + (b / 8 &&& 1) + (b / 16 &&& 1) + (b / 32 &&& 1) + (b / 64 &&& 1) + (b / 128 &&& 1)
def s1 (b : Nat) : Nat := b - (b / 2 &&& 85)
def s2 (b : Nat) : Nat := (s1 b &&& 51) + (s1 b / 4 &&& 51)
theorem s_fin : ∀ b, b < 256 → (b / 2 &&& 85) ≤ b ∧ s1 b < 256 ∧ s2 b / 16 ≤ 4 ∧ s2 b % 16 ≤ 4 ∧ (s2 b + s2 b / 16) % 16 = (b.testBit 0).toNat + (b.testBit 1).toNat + (b.testBit 2).toNat + (b.testBit 3).toNat + (b.testBit 4).toNat + (b.testBit 5).toNat + (b.testBit 6).toNat + (b.testBit 7).toNat := by decide +kernel
/-- eight bytes in a row, the first the least -/
def b8 (a0 a1 a2 a3 a4 a5 a6 a7 : Nat) : Nat := 256 * (256 * (256 * (256 * (256 * (256 * (256 * a7 + a6) + a5) + a4) + a3) + a2) + a1) + a0
theorem b8_and {a0 a1 a2 a3 a4 a5 a6 a7 c0 c1 c2 c3 c4 c5 c6 c7 : Nat} (h0 : a0 < 256) (h1 : a1 < 256) (h2 : a2 < 256) (h3 : a3 < 256) (h4 : a4 < 256) (h5 : a5 < 256) (h6 : a6 < 256) (h7 : a7 < 256) (g0 : c0 < 256) (g1 : c1 < 256) (g2 : c2 < 256) (g3 : c3 < 256) (g4 : c4 < 256) (g5 : c5 < 256) (g6 : c6 < 256) (g7 : c7 < 256) :
    b8 a0 a1 a2 a3 a4 a5 a6 a7 &&& b8 c0 c1 c2 c3 c4 c5 c6 c7 = b8 (a0 &&& c0) (a1 &&& c1) (a2 &&& c2) (a3 &&& c3) (a4 &&& c4) (a5 &&& c5) (a6 &&& c6) (a7 &&& c7) := by
  unfold b8
  rw [show 256 = 2 ^ 8 from rfl, and_256 _ _ h0 g0, and_256 _ _ h1 g1, and_256 _ _ h2 g2, and_256 _ _ h3 g3, and_256 _ _ h4 g4, and_256 _ _ h5 g5, and_256 _ _ h6 g6]
theorem b8_and' {a0 a1 a2 a3 a4 a5 a6 a7 c : Nat} (h0 : a0 < 256) (h1 : a1 < 256) (h2 : a2 < 256) (h3 : a3 < 256) (h4 : a4 < 256) (h5 : a5 < 256) (h6 : a6 < 256) (h7 : a7 < 256) (g : c < 256) : b8 a0 a1 a2 a3 a4 a5 a6 a7 &&& b8 c c c c c c c c = b8 (a0 &&& c) (a1 &&& c) (a2 &&& c) (a3 &&& c) (a4 &&& c) (a5 &&& c) (a6 &&& c) (a7 &&& c) := b8_and h0 h1 h2 h3 h4 h5 h6 h7 g g g g g g g g
theorem b8_lt {a0 a1 a2 a3 a4 a5 a6 a7 : Nat} (h0 : a0 < 256) (h1 : a1 < 256) (h2 : a2 < 256) (h3 : a3 < 256) (h4 : a4 < 256) (h5 : a5 < 256) (h6 : a6 < 256) (h7 : a7 < 256) : b8 a0 a1 a2 a3 a4 a5 a6 a7 < 2 ^ 64 := by
  unfold b8
  omega
theorem and_low {a y m k : Nat} (hm : m < 2 ^ k) (ha : a < 2 ^ k) : (2 ^ k * y + a) &&& m = a &&& m := by
  have := and_256 y 0 ha hm
  simpa using this
theorem h_and2 : ∀ d, d < 256 → ∀ y, y < 2 → (d / 2 + 128 * y) &&& 85 = d / 2 &&& 85 := by decide +kernel
theorem h_and4 : ∀ d, d < 256 → ∀ y, y < 4 → (d / 4 + 64 * y) &&& 51 = d / 4 &&& 51 := by decide +kernel
theorem h_and16 : ∀ d, d < 256 → d &&& 15 = d % 16 := by decide +kernel
theorem b8_sh2 {a0 a1 a2 a3 a4 a5 a6 a7 : Nat} (h0 : a0 < 256) (h1 : a1 < 256) (h2 : a2 < 256) (h3 : a3 < 256) (h4 : a4 < 256) (h5 : a5 < 256) (h6 : a6 < 256) (h7 : a7 < 256) : b8 a0 a1 a2 a3 a4 a5 a6 a7 / 2 = b8 (a0 / 2 + 128 * (a1 % 2)) (a1 / 2 + 128 * (a2 % 2)) (a2 / 2 + 128 * (a3 % 2)) (a3 / 2 + 128 * (a4 % 2)) (a4 / 2 + 128 * (a5 % 2)) (a5 / 2 + 128 * (a6 % 2)) (a6 / 2 + 128 * (a7 % 2)) (a7 / 2 + 128 * (0 % 2)) := by
  unfold b8
  omega
theorem b8_sh4 {a0 a1 a2 a3 a4 a5 a6 a7 : Nat} (h0 : a0 < 256) (h1 : a1 < 256) (h2 : a2 < 256) (h3 : a3 < 256) (h4 : a4 < 256) (h5 : a5 < 256) (h6 : a6 < 256) (h7 : a7 < 256) : b8 a0 a1 a2 a3 a4 a5 a6 a7 / 4 = b8 (a0 / 4 + 64 * (a1 % 4)) (a1 / 4 + 64 * (a2 % 4)) (a2 / 4 + 64 * (a3 % 4)) (a3 / 4 + 64 * (a4 % 4)) (a4 / 4 + 64 * (a5 % 4)) (a5 / 4 + 64 * (a6 % 4)) (a6 / 4 + 64 * (a7 % 4)) (a7 / 4 + 64 * (0 % 4)) := by
  unfold b8
  omega
theorem b8_sh16 {a0 a1 a2 a3 a4 a5 a6 a7 : Nat} (h0 : a0 < 256) (h1 : a1 < 256) (h2 : a2 < 256) (h3 : a3 < 256) (h4 : a4 < 256) (h5 : a5 < 256) (h6 : a6 < 256) (h7 : a7 < 256) : b8 a0 a1 a2 a3 a4 a5 a6 a7 / 16 = b8 (a0 / 16 + 16 * (a1 % 16)) (a1 / 16 + 16 * (a2 % 16)) (a2 / 16 + 16 * (a3 % 16)) (a3 / 16 + 16 * (a4 % 16)) (a4 / 16 + 16 * (a5 % 16)) (a5 / 16 + 16 * (a6 % 16)) (a6 / 16 + 16 * (a7 % 16)) (a7 / 16 + 16 * (0 % 16)) := by
  unfold b8
  omega
theorem pc_1 {a0 a1 a2 a3 a4 a5 a6 a7 : Nat} (h0 : a0 < 256) (h1 : a1 < 256) (h2 : a2 < 256) (h3 : a3 < 256) (h4 : a4 < 256) (h5 : a5 < 256) (h6 : a6 < 256) (h7 : a7 < 256) : b8 a0 a1 a2 a3 a4 a5 a6 a7 - (b8 a0 a1 a2 a3 a4 a5 a6 a7 / 2 &&& b8 85 85 85 85 85 85 85 85) = b8 (s1 a0) (s1 a1) (s1 a2) (s1 a3) (s1 a4) (s1 a5) (s1 a6) (s1 a7) := by
  rw [b8_sh2 h0 h1 h2 h3 h4 h5 h6 h7, b8_and' (by omega) (by omega) (by omega) (by omega) (by omega) (by omega) (by omega) (by omega) (by decide)]
  rw [h_and2 _ h0 _ (by omega), h_and2 _ h1 _ (by omega), h_and2 _ h2 _ (by omega), h_and2 _ h3 _ (by omega), h_and2 _ h4 _ (by omega), h_and2 _ h5 _ (by omega), h_and2 _ h6 _ (by omega), h_and2 _ h7 _ (by omega)]
  have k0 := (s_fin _ h0).1
  have k1 := (s_fin _ h1).1
  have k2 := (s_fin _ h2).1
  have k3 := (s_fin _ h3).1
  have k4 := (s_fin _ h4).1
  have k5 := (s_fin _ h5).1
  have k6 := (s_fin _ h6).1
  have k7 := (s_fin _ h7).1
  unfold b8 s1
  omega
theorem pc_2 {a0 a1 a2 a3 a4 a5 a6 a7 : Nat} (h0 : a0 < 256) (h1 : a1 < 256) (h2 : a2 < 256) (h3 : a3 < 256) (h4 : a4 < 256) (h5 : a5 < 256) (h6 : a6 < 256) (h7 : a7 < 256) : (b8 a0 a1 a2 a3 a4 a5 a6 a7 &&& b8 51 51 51 51 51 51 51 51) + (b8 a0 a1 a2 a3 a4 a5 a6 a7 / 4 &&& b8 51 51 51 51 51 51 51 51) = b8 ((a0 &&& 51) + (a0 / 4 &&& 51)) ((a1 &&& 51) + (a1 / 4 &&& 51)) ((a2 &&& 51) + (a2 / 4 &&& 51)) ((a3 &&& 51) + (a3 / 4 &&& 51)) ((a4 &&& 51) + (a4 / 4 &&& 51)) ((a5 &&& 51) + (a5 / 4 &&& 51)) ((a6 &&& 51) + (a6 / 4 &&& 51)) ((a7 &&& 51) + (a7 / 4 &&& 51)) := by
  rw [b8_sh4 h0 h1 h2 h3 h4 h5 h6 h7, b8_and' (by omega) (by omega) (by omega) (by omega) (by omega) (by omega) (by omega) (by omega) (by decide), b8_and' (by omega) (by omega) (by omega) (by omega) (by omega) (by omega) (by omega) (by omega) (by decide)]
  rw [h_and4 _ h0 _ (by omega), h_and4 _ h1 _ (by omega), h_and4 _ h2 _ (by omega), h_and4 _ h3 _ (by omega), h_and4 _ h4 _ (by omega), h_and4 _ h5 _ (by omega), h_and4 _ h6 _ (by omega), h_and4 _ h7 _ (by omega)]
  unfold b8
  omega
theorem pc_3 {a0 a1 a2 a3 a4 a5 a6 a7 : Nat} (h0 : a0 / 16 ≤ 4) (g0 : a0 % 16 ≤ 4) (h1 : a1 / 16 ≤ 4) (g1 : a1 % 16 ≤ 4) (h2 : a2 / 16 ≤ 4) (g2 : a2 % 16 ≤ 4) (h3 : a3 / 16 ≤ 4) (g3 : a3 % 16 ≤ 4) (h4 : a4 / 16 ≤ 4) (g4 : a4 % 16 ≤ 4) (h5 : a5 / 16 ≤ 4) (g5 : a5 % 16 ≤ 4) (h6 : a6 / 16 ≤ 4) (g6 : a6 % 16 ≤ 4) (h7 : a7 / 16 ≤ 4) (g7 : a7 % 16 ≤ 4) : (b8 a0 a1 a2 a3 a4 a5 a6 a7 + b8 a0 a1 a2 a3 a4 a5 a6 a7 / 16) &&& b8 15 15 15 15 15 15 15 15 = b8 ((a0 + a0 / 16) % 16) ((a1 + a1 / 16) % 16) ((a2 + a2 / 16) % 16) ((a3 + a3 / 16) % 16) ((a4 + a4 / 16) % 16) ((a5 + a5 / 16) % 16) ((a6 + a6 / 16) % 16) ((a7 + a7 / 16) % 16) := by
  rw [b8_sh16 (by omega) (by omega) (by omega) (by omega) (by omega) (by omega) (by omega) (by omega)]
  have e : b8 a0 a1 a2 a3 a4 a5 a6 a7 + b8 (a0 / 16 + 16 * (a1 % 16)) (a1 / 16 + 16 * (a2 % 16)) (a2 / 16 + 16 * (a3 % 16)) (a3 / 16 + 16 * (a4 % 16)) (a4 / 16 + 16 * (a5 % 16)) (a5 / 16 + 16 * (a6 % 16)) (a6 / 16 + 16 * (a7 % 16)) (a7 / 16 + 16 * (0 % 16)) = b8 (a0 + a0 / 16 + 16 * (a1 % 16)) (a1 + a1 / 16 + 16 * (a2 % 16)) (a2 + a2 / 16 + 16 * (a3 % 16)) (a3 + a3 / 16 + 16 * (a4 % 16)) (a4 + a4 / 16 + 16 * (a5 % 16)) (a5 + a5 / 16 + 16 * (a6 % 16)) (a6 + a6 / 16 + 16 * (a7 % 16)) (a7 + a7 / 16 + 16 * (0 % 16)) := by
    unfold b8
    omega
  rw [e, b8_and' (by omega) (by omega) (by omega) (by omega) (by omega) (by omega) (by omega) (by omega) (by decide)]
  rw [h_and16 _ (by omega), h_and16 _ (by omega), h_and16 _ (by omega), h_and16 _ (by omega), h_and16 _ (by omega), h_and16 _ (by omega), h_and16 _ (by omega), h_and16 _ (by omega)]
  have k0 : (a0 + a0 / 16 + 16 * (a1 % 16)) % 16 = (a0 + a0 / 16) % 16 := by omega
  have k1 : (a1 + a1 / 16 + 16 * (a2 % 16)) % 16 = (a1 + a1 / 16) % 16 := by omega
  have k2 : (a2 + a2 / 16 + 16 * (a3 % 16)) % 16 = (a2 + a2 / 16) % 16 := by omega
  have k3 : (a3 + a3 / 16 + 16 * (a4 % 16)) % 16 = (a3 + a3 / 16) % 16 := by omega
  have k4 : (a4 + a4 / 16 + 16 * (a5 % 16)) % 16 = (a4 + a4 / 16) % 16 := by omega
  have k5 : (a5 + a5 / 16 + 16 * (a6 % 16)) % 16 = (a5 + a5 / 16) % 16 := by omega
  have k6 : (a6 + a6 / 16 + 16 * (a7 % 16)) % 16 = (a6 + a6 / 16) % 16 := by omega
  have k7 : (a7 + a7 / 16 + 16 * (0 % 16)) % 16 = (a7 + a7 / 16) % 16 := by omega
  rw [k0, k1, k2, k3, k4, k5, k6, k7]
theorem pc_4 {a0 a1 a2 a3 a4 a5 a6 a7 : Nat} (h0 : a0 ≤ 8) (h1 : a1 ≤ 8) (h2 : a2 ≤ 8) (h3 : a3 ≤ 8) (h4 : a4 ≤ 8) (h5 : a5 ≤ 8) (h6 : a6 ≤ 8) (h7 : a7 ≤ 8) : ∃ v4 v5 : Nat, b8 a0 a1 a2 a3 a4 a5 a6 a7 + b8 a0 a1 a2 a3 a4 a5 a6 a7 / 256 = v4 ∧ v4 < 2 ^ 64 ∧ v4 + v4 / 65536 = v5 ∧ v5 < 2 ^ 64 ∧ (v5 + v5 / 4294967296) % 128 = a0 + a1 + a2 + a3 + a4 + a5 + a6 + a7 := by
  have e1 : b8 a0 a1 a2 a3 a4 a5 a6 a7 / 256 = b8 a1 a2 a3 a4 a5 a6 a7 0 := by
    unfold b8
    omega
  have e2 : b8 a0 a1 a2 a3 a4 a5 a6 a7 + b8 a1 a2 a3 a4 a5 a6 a7 0 = b8 (a0 + a1) (a1 + a2) (a2 + a3) (a3 + a4) (a4 + a5) (a5 + a6) (a6 + a7) a7 := by
    unfold b8
    omega
  have e3 : b8 (a0 + a1) (a1 + a2) (a2 + a3) (a3 + a4) (a4 + a5) (a5 + a6) (a6 + a7) a7 / 65536 = b8 (a2 + a3) (a3 + a4) (a4 + a5) (a5 + a6) (a6 + a7) a7 0 0 := by
    unfold b8
    omega
  have e4 : b8 (a0 + a1) (a1 + a2) (a2 + a3) (a3 + a4) (a4 + a5) (a5 + a6) (a6 + a7) a7 + b8 (a2 + a3) (a3 + a4) (a4 + a5) (a5 + a6) (a6 + a7) a7 0 0 = b8 (a0 + a1 + a2 + a3) (a1 + a2 + a3 + a4) (a2 + a3 + a4 + a5) (a3 + a4 + a5 + a6) (a4 + a5 + a6 + a7) (a5 + a6 + a7) (a6 + a7) a7 := by
    unfold b8
    omega
  have e5 : b8 (a0 + a1 + a2 + a3) (a1 + a2 + a3 + a4) (a2 + a3 + a4 + a5) (a3 + a4 + a5 + a6) (a4 + a5 + a6 + a7) (a5 + a6 + a7) (a6 + a7) a7 / 4294967296 = b8 (a4 + a5 + a6 + a7) (a5 + a6 + a7) (a6 + a7) a7 0 0 0 0 := by
    unfold b8
    omega
  refine ⟨_, _, by rw [e1, e2], b8_lt (by omega) (by omega) (by omega) (by omega) (by omega) (by omega) (by omega) (by omega), by rw [e3, e4], b8_lt (by omega) (by omega) (by omega) (by omega) (by omega) (by omega) (by omega) (by omega), ?_⟩
  rw [e5]
  unfold b8
  omega
