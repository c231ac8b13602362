/-! plain numbers: reading and writing rows, loops, sets of bits, how many bits -/
theorem rI {f : Nat → Int32} {m j : Nat} (h : j < m) (hm : m < 2 ^ 31) : rdI f m (nI j) = some (f j) := by
  have e : (nI j).toNatClampNeg = j := nI_clamp (by omega)
  rw [rdI, if_neg (nI_in h hm), e]
theorem rL {f : Nat → Int64} {m j : Nat} (h : j < m) (hm : m < 2 ^ 31) : rdL f m (nI j) = some (f j) := by
  have e : (nI j).toNatClampNeg = j := nI_clamp (by omega)
  rw [rdL, if_neg (nI_in h hm), e]
theorem wI {f : Nat → Int32} {m j : Nat} {x : Int32} (h : j < m) (hm : m < 2 ^ 31) : wrI f m (nI j) x = some (upd f j x) := by
  have e : (nI j).toNatClampNeg = j := nI_clamp (by omega)
  rw [wrI, if_neg (nI_in h hm), e]
theorem wL {f : Nat → Int64} {m j : Nat} {x : Int64} (h : j < m) (hm : m < 2 ^ 31) : wrL f m (nI j) x = some (vp_updL f j x) := by
  have e : (nI j).toNatClampNeg = j := nI_clamp (by omega)
  rw [wrL, if_neg (nI_in h hm), e]
/-- a loop that counts up -/
theorem forUp {σ τ : Type} (F : Nat → Int32 → σ → Option τ) (N : Nat) (st : Nat → σ) (out : Option τ) (hs : ∀ n k, k < N → F (n + 1) (nI k) (st k) = F n (nI (k + 1)) (st (k + 1))) (he : ∀ n, F (n + 1) (nI N) (st N) = out) : ∀ d k n, k + d = N → d < n → F n (nI k) (st k) = out := by
  intro d
  induction d with
  | zero =>
    intro k n h1 h2
    obtain ⟨n, rfl⟩ : ∃ z, n = z + 1 := ⟨n - 1, by omega⟩
    obtain rfl : k = N := h1
    exact he n
  | succ d ih =>
    intro k n h1 h2
    obtain ⟨n, rfl⟩ : ∃ z, n = z + 1 := ⟨n - 1, by omega⟩
    rw [hs n k (by omega)]
    exact ih (k + 1) n (by omega) (by omega)
/-- how many places have it -/
def cn (p : Nat → Bool) : Nat → Nat
  | 0 => 0
  | n + 1 => cn p n + (p n).toNat
theorem cn_cong {p q : Nat → Bool} : ∀ {n : Nat}, (∀ k, k < n → p k = q k) → cn p n = cn q n
  | 0, _ => rfl
  | n + 1, h => by rw [cn, cn, cn_cong (n := n) (fun k hk => h k (by omega)), h n (by omega)]
theorem cn_le (p : Nat → Bool) : ∀ n, cn p n ≤ n
  | 0 => Nat.le_refl _
  | n + 1 => by
    have := cn_le p n
    have h2 : (p n).toNat ≤ 1 := Bool.toNat_le _
    rw [cn]
    omega
/-! ### bytes -/
def dg (d : Nat → Nat) : Nat → Nat
  | 0 => 0
  | m + 1 => d m * 256 ^ m + dg d m
theorem and_256 {a b : Nat} (x y : Nat) {k : Nat} (ha : a < 2 ^ k) (hb : b < 2 ^ k) : (2 ^ k * x + a) &&& (2 ^ k * y + b) = 2 ^ k * (x &&& y) + (a &&& b) := by
  apply Nat.eq_of_testBit_eq
  intro i
  rw [Nat.testBit_and, Nat.testBit_two_pow_mul_add _ ha, Nat.testBit_two_pow_mul_add _ hb, Nat.testBit_two_pow_mul_add _ (Nat.and_lt_two_pow _ hb)]
  by_cases h : i < k
  · simp [h]
  · simp [h]
def d8 (b : Nat) : Nat := (b &&& 1) + (b / 2 &&& 1) + (b / 4 &&& 1) + (b / 8 &&& 1) + (b / 16 &&& 1) + (b / 32 &&& 1) + (b / 64 &&& 1) + (b / 128 &&& 1)
def s1 (b : Nat) : Nat := b - (b / 2 &&& 85)
def s2 (b : Nat) : Nat := (s1 b &&& 51) + (s1 b / 4 &&& 51)
theorem s_fin : ∀ b, b < 256 → (b / 2 &&& 85) ≤ b ∧ s1 b < 256 ∧ s2 b / 16 ≤ 4 ∧ s2 b % 16 ≤ 4 ∧ (s2 b + s2 b / 16) % 16 = (b.testBit 0).toNat + (b.testBit 1).toNat + (b.testBit 2).toNat + (b.testBit 3).toNat + (b.testBit 4).toNat + (b.testBit 5).toNat + (b.testBit 6).toNat + (b.testBit 7).toNat := by decide +kernel
/-- eight bytes in a row, the first the least -/
def b8 (a0 a1 a2 a3 a4 a5 a6 a7 : Nat) : Nat := 256 * (256 * (256 * (256 * (256 * (256 * (256 * a7 + a6) + a5) + a4) + a3) + a2) + a1) + a0
theorem b8_and {a0 a1 a2 a3 a4 a5 a6 a7 c0 c1 c2 c3 c4 c5 c6 c7 : Nat} (h0 : a0 < 256) (h1 : a1 < 256) (h2 : a2 < 256) (h3 : a3 < 256) (h4 : a4 < 256) (h5 : a5 < 256) (h6 : a6 < 256) (h7 : a7 < 256) (g0 : c0 < 256) (g1 : c1 < 256) (g2 : c2 < 256) (g3 : c3 < 256) (g4 : c4 < 256) (g5 : c5 < 256) (g6 : c6 < 256) (g7 : c7 < 256) :
    b8 a0 a1 a2 a3 a4 a5 a6 a7 &&& b8 c0 c1 c2 c3 c4 c5 c6 c7 = b8 (a0 &&& c0) (a1 &&& c1) (a2 &&& c2) (a3 &&& c3) (a4 &&& c4) (a5 &&& c5) (a6 &&& c6) (a7 &&& c7) := by
  unfold b8
  rw [show 256 = 2 ^ 8 from rfl, and_256 _ _ h0 g0, and_256 _ _ h1 g1, and_256 _ _ h2 g2, and_256 _ _ h3 g3, and_256 _ _ h4 g4, and_256 _ _ h5 g5, and_256 _ _ h6 g6]
theorem b8_and' {a0 a1 a2 a3 a4 a5 a6 a7 c : Nat} (h0 : a0 < 256) (h1 : a1 < 256) (h2 : a2 < 256) (h3 : a3 < 256) (h4 : a4 < 256) (h5 : a5 < 256) (h6 : a6 < 256) (h7 : a7 < 256) (g : c < 256) : b8 a0 a1 a2 a3 a4 a5 a6 a7 &&& b8 c c c c c c c c = b8 (a0 &&& c) (a1 &&& c) (a2 &&& c) (a3 &&& c) (a4 &&& c) (a5 &&& c) (a6 &&& c) (a7 &&& c) := b8_and h0 h1 h2 h3 h4 h5 h6 h7 g g g g g g g g
theorem b8_lt {a0 a1 a2 a3 a4 a5 a6 a7 : Nat} (h0 : a0 < 256) (h1 : a1 < 256) (h2 : a2 < 256) (h3 : a3 < 256) (h4 : a4 < 256) (h5 : a5 < 256) (h6 : a6 < 256) (h7 : a7 < 256) : b8 a0 a1 a2 a3 a4 a5 a6 a7 < 2 ^ 64 := by
  unfold b8
  omega
theorem and_low {a y m k : Nat} (hm : m < 2 ^ k) (ha : a < 2 ^ k) : (2 ^ k * y + a) &&& m = a &&& m := by
  have := and_256 y 0 ha hm
  simpa using this
theorem h_and2 : ∀ d, d < 256 → ∀ y, y < 2 → (d / 2 + 128 * y) &&& 85 = d / 2 &&& 85 := by decide +kernel
theorem h_and4 : ∀ d, d < 256 → ∀ y, y < 4 → (d / 4 + 64 * y) &&& 51 = d / 4 &&& 51 := by decide +kernel
theorem h_and16 : ∀ d, d < 256 → d &&& 15 = d % 16 := by decide +kernel
theorem b8_sh2 {a0 a1 a2 a3 a4 a5 a6 a7 : Nat} (h0 : a0 < 256) (h1 : a1 < 256) (h2 : a2 < 256) (h3 : a3 < 256) (h4 : a4 < 256) (h5 : a5 < 256) (h6 : a6 < 256) (h7 : a7 < 256) : b8 a0 a1 a2 a3 a4 a5 a6 a7 / 2 = b8 (a0 / 2 + 128 * (a1 % 2)) (a1 / 2 + 128 * (a2 % 2)) (a2 / 2 + 128 * (a3 % 2)) (a3 / 2 + 128 * (a4 % 2)) (a4 / 2 + 128 * (a5 % 2)) (a5 / 2 + 128 * (a6 % 2)) (a6 / 2 + 128 * (a7 % 2)) (a7 / 2 + 128 * (0 % 2)) := by
  unfold b8
  omega
theorem b8_sh4 {a0 a1 a2 a3 a4 a5 a6 a7 : Nat} (h0 : a0 < 256) (h1 : a1 < 256) (h2 : a2 < 256) (h3 : a3 < 256) (h4 : a4 < 256) (h5 : a5 < 256) (h6 : a6 < 256) (h7 : a7 < 256) : b8 a0 a1 a2 a3 a4 a5 a6 a7 / 4 = b8 (a0 / 4 + 64 * (a1 % 4)) (a1 / 4 + 64 * (a2 % 4)) (a2 / 4 + 64 * (a3 % 4)) (a3 / 4 + 64 * (a4 % 4)) (a4 / 4 + 64 * (a5 % 4)) (a5 / 4 + 64 * (a6 % 4)) (a6 / 4 + 64 * (a7 % 4)) (a7 / 4 + 64 * (0 % 4)) := by
  unfold b8
  omega
theorem b8_sh16 {a0 a1 a2 a3 a4 a5 a6 a7 : Nat} (h0 : a0 < 256) (h1 : a1 < 256) (h2 : a2 < 256) (h3 : a3 < 256) (h4 : a4 < 256) (h5 : a5 < 256) (h6 : a6 < 256) (h7 : a7 < 256) : b8 a0 a1 a2 a3 a4 a5 a6 a7 / 16 = b8 (a0 / 16 + 16 * (a1 % 16)) (a1 / 16 + 16 * (a2 % 16)) (a2 / 16 + 16 * (a3 % 16)) (a3 / 16 + 16 * (a4 % 16)) (a4 / 16 + 16 * (a5 % 16)) (a5 / 16 + 16 * (a6 % 16)) (a6 / 16 + 16 * (a7 % 16)) (a7 / 16 + 16 * (0 % 16)) := by
  unfold b8
  omega
theorem pc_1 {a0 a1 a2 a3 a4 a5 a6 a7 : Nat} (h0 : a0 < 256) (h1 : a1 < 256) (h2 : a2 < 256) (h3 : a3 < 256) (h4 : a4 < 256) (h5 : a5 < 256) (h6 : a6 < 256) (h7 : a7 < 256) : b8 a0 a1 a2 a3 a4 a5 a6 a7 - (b8 a0 a1 a2 a3 a4 a5 a6 a7 / 2 &&& b8 85 85 85 85 85 85 85 85) = b8 (s1 a0) (s1 a1) (s1 a2) (s1 a3) (s1 a4) (s1 a5) (s1 a6) (s1 a7) := by
  rw [b8_sh2 h0 h1 h2 h3 h4 h5 h6 h7, b8_and' (by omega) (by omega) (by omega) (by omega) (by omega) (by omega) (by omega) (by omega) (by decide)]
  rw [h_and2 _ h0 _ (by omega), h_and2 _ h1 _ (by omega), h_and2 _ h2 _ (by omega), h_and2 _ h3 _ (by omega), h_and2 _ h4 _ (by omega), h_and2 _ h5 _ (by omega), h_and2 _ h6 _ (by omega), h_and2 _ h7 _ (by omega)]
  have k0 := (s_fin _ h0).1
  have k1 := (s_fin _ h1).1
  have k2 := (s_fin _ h2).1
  have k3 := (s_fin _ h3).1
  have k4 := (s_fin _ h4).1
  have k5 := (s_fin _ h5).1
  have k6 := (s_fin _ h6).1
  have k7 := (s_fin _ h7).1
  unfold b8 s1
  omega
theorem pc_2 {a0 a1 a2 a3 a4 a5 a6 a7 : Nat} (h0 : a0 < 256) (h1 : a1 < 256) (h2 : a2 < 256) (h3 : a3 < 256) (h4 : a4 < 256) (h5 : a5 < 256) (h6 : a6 < 256) (h7 : a7 < 256) : (b8 a0 a1 a2 a3 a4 a5 a6 a7 &&& b8 51 51 51 51 51 51 51 51) + (b8 a0 a1 a2 a3 a4 a5 a6 a7 / 4 &&& b8 51 51 51 51 51 51 51 51) = b8 ((a0 &&& 51) + (a0 / 4 &&& 51)) ((a1 &&& 51) + (a1 / 4 &&& 51)) ((a2 &&& 51) + (a2 / 4 &&& 51)) ((a3 &&& 51) + (a3 / 4 &&& 51)) ((a4 &&& 51) + (a4 / 4 &&& 51)) ((a5 &&& 51) + (a5 / 4 &&& 51)) ((a6 &&& 51) + (a6 / 4 &&& 51)) ((a7 &&& 51) + (a7 / 4 &&& 51)) := by
  rw [b8_sh4 h0 h1 h2 h3 h4 h5 h6 h7, b8_and' (by omega) (by omega) (by omega) (by omega) (by omega) (by omega) (by omega) (by omega) (by decide), b8_and' (by omega) (by omega) (by omega) (by omega) (by omega) (by omega) (by omega) (by omega) (by decide)]
  rw [h_and4 _ h0 _ (by omega), h_and4 _ h1 _ (by omega), h_and4 _ h2 _ (by omega), h_and4 _ h3 _ (by omega), h_and4 _ h4 _ (by omega), h_and4 _ h5 _ (by omega), h_and4 _ h6 _ (by omega), h_and4 _ h7 _ (by omega)]
  unfold b8
  omega
theorem pc_3 {a0 a1 a2 a3 a4 a5 a6 a7 : Nat} (h0 : a0 / 16 ≤ 4) (g0 : a0 % 16 ≤ 4) (h1 : a1 / 16 ≤ 4) (g1 : a1 % 16 ≤ 4) (h2 : a2 / 16 ≤ 4) (g2 : a2 % 16 ≤ 4) (h3 : a3 / 16 ≤ 4) (g3 : a3 % 16 ≤ 4) (h4 : a4 / 16 ≤ 4) (g4 : a4 % 16 ≤ 4) (h5 : a5 / 16 ≤ 4) (g5 : a5 % 16 ≤ 4) (h6 : a6 / 16 ≤ 4) (g6 : a6 % 16 ≤ 4) (h7 : a7 / 16 ≤ 4) (g7 : a7 % 16 ≤ 4) : (b8 a0 a1 a2 a3 a4 a5 a6 a7 + b8 a0 a1 a2 a3 a4 a5 a6 a7 / 16) &&& b8 15 15 15 15 15 15 15 15 = b8 ((a0 + a0 / 16) % 16) ((a1 + a1 / 16) % 16) ((a2 + a2 / 16) % 16) ((a3 + a3 / 16) % 16) ((a4 + a4 / 16) % 16) ((a5 + a5 / 16) % 16) ((a6 + a6 / 16) % 16) ((a7 + a7 / 16) % 16) := by
  rw [b8_sh16 (by omega) (by omega) (by omega) (by omega) (by omega) (by omega) (by omega) (by omega)]
  have e : b8 a0 a1 a2 a3 a4 a5 a6 a7 + b8 (a0 / 16 + 16 * (a1 % 16)) (a1 / 16 + 16 * (a2 % 16)) (a2 / 16 + 16 * (a3 % 16)) (a3 / 16 + 16 * (a4 % 16)) (a4 / 16 + 16 * (a5 % 16)) (a5 / 16 + 16 * (a6 % 16)) (a6 / 16 + 16 * (a7 % 16)) (a7 / 16 + 16 * (0 % 16)) = b8 (a0 + a0 / 16 + 16 * (a1 % 16)) (a1 + a1 / 16 + 16 * (a2 % 16)) (a2 + a2 / 16 + 16 * (a3 % 16)) (a3 + a3 / 16 + 16 * (a4 % 16)) (a4 + a4 / 16 + 16 * (a5 % 16)) (a5 + a5 / 16 + 16 * (a6 % 16)) (a6 + a6 / 16 + 16 * (a7 % 16)) (a7 + a7 / 16 + 16 * (0 % 16)) := by
    unfold b8
    omega
  rw [e, b8_and' (by omega) (by omega) (by omega) (by omega) (by omega) (by omega) (by omega) (by omega) (by decide)]
  rw [h_and16 _ (by omega), h_and16 _ (by omega), h_and16 _ (by omega), h_and16 _ (by omega), h_and16 _ (by omega), h_and16 _ (by omega), h_and16 _ (by omega), h_and16 _ (by omega)]
  have k0 : (a0 + a0 / 16 + 16 * (a1 % 16)) % 16 = (a0 + a0 / 16) % 16 := by omega
  have k1 : (a1 + a1 / 16 + 16 * (a2 % 16)) % 16 = (a1 + a1 / 16) % 16 := by omega
  have k2 : (a2 + a2 / 16 + 16 * (a3 % 16)) % 16 = (a2 + a2 / 16) % 16 := by omega
  have k3 : (a3 + a3 / 16 + 16 * (a4 % 16)) % 16 = (a3 + a3 / 16) % 16 := by omega
  have k4 : (a4 + a4 / 16 + 16 * (a5 % 16)) % 16 = (a4 + a4 / 16) % 16 := by omega
  have k5 : (a5 + a5 / 16 + 16 * (a6 % 16)) % 16 = (a5 + a5 / 16) % 16 := by omega
  have k6 : (a6 + a6 / 16 + 16 * (a7 % 16)) % 16 = (a6 + a6 / 16) % 16 := by omega
  have k7 : (a7 + a7 / 16 + 16 * (0 % 16)) % 16 = (a7 + a7 / 16) % 16 := by omega
  rw [k0, k1, k2, k3, k4, k5, k6, k7]
theorem pc_4 {a0 a1 a2 a3 a4 a5 a6 a7 : Nat} (h0 : a0 ≤ 8) (h1 : a1 ≤ 8) (h2 : a2 ≤ 8) (h3 : a3 ≤ 8) (h4 : a4 ≤ 8) (h5 : a5 ≤ 8) (h6 : a6 ≤ 8) (h7 : a7 ≤ 8) : ∃ v4 v5 : Nat, b8 a0 a1 a2 a3 a4 a5 a6 a7 + b8 a0 a1 a2 a3 a4 a5 a6 a7 / 256 = v4 ∧ v4 < 2 ^ 64 ∧ v4 + v4 / 65536 = v5 ∧ v5 < 2 ^ 64 ∧ (v5 + v5 / 4294967296) % 128 = a0 + a1 + a2 + a3 + a4 + a5 + a6 + a7 := by
  have e1 : b8 a0 a1 a2 a3 a4 a5 a6 a7 / 256 = b8 a1 a2 a3 a4 a5 a6 a7 0 := by
    unfold b8
    omega
  have e2 : b8 a0 a1 a2 a3 a4 a5 a6 a7 + b8 a1 a2 a3 a4 a5 a6 a7 0 = b8 (a0 + a1) (a1 + a2) (a2 + a3) (a3 + a4) (a4 + a5) (a5 + a6) (a6 + a7) a7 := by
    unfold b8
    omega
  have e3 : b8 (a0 + a1) (a1 + a2) (a2 + a3) (a3 + a4) (a4 + a5) (a5 + a6) (a6 + a7) a7 / 65536 = b8 (a2 + a3) (a3 + a4) (a4 + a5) (a5 + a6) (a6 + a7) a7 0 0 := by
    unfold b8
    omega
  have e4 : b8 (a0 + a1) (a1 + a2) (a2 + a3) (a3 + a4) (a4 + a5) (a5 + a6) (a6 + a7) a7 + b8 (a2 + a3) (a3 + a4) (a4 + a5) (a5 + a6) (a6 + a7) a7 0 0 = b8 (a0 + a1 + a2 + a3) (a1 + a2 + a3 + a4) (a2 + a3 + a4 + a5) (a3 + a4 + a5 + a6) (a4 + a5 + a6 + a7) (a5 + a6 + a7) (a6 + a7) a7 := by
    unfold b8
    omega
  have e5 : b8 (a0 + a1 + a2 + a3) (a1 + a2 + a3 + a4) (a2 + a3 + a4 + a5) (a3 + a4 + a5 + a6) (a4 + a5 + a6 + a7) (a5 + a6 + a7) (a6 + a7) a7 / 4294967296 = b8 (a4 + a5 + a6 + a7) (a5 + a6 + a7) (a6 + a7) a7 0 0 0 0 := by
    unfold b8
    omega
  refine ⟨_, _, by rw [e1, e2], b8_lt (by omega) (by omega) (by omega) (by omega) (by omega) (by omega) (by omega) (by omega), by rw [e3, e4], b8_lt (by omega) (by omega) (by omega) (by omega) (by omega) (by omega) (by omega) (by omega), ?_⟩
  rw [e5]
  unfold b8
  omega
theorem b8_of {n : Nat} (h : n < 2 ^ 64) : n = b8 (n % 256) (n / 256 % 256) (n / 65536 % 256) (n / 16777216 % 256) (n / 4294967296 % 256) (n / 1099511627776 % 256) (n / 281474976710656 % 256) (n / 72057594037927936 % 256) := by
  unfold b8
  omega
theorem lN_su {a b : Nat} (h : b ≤ a) : lN a - lN b = lN (a - b) := lN_sub h
theorem pc_n {n : Nat} (h : n < 2 ^ 64) : ∃ v1 v2 v3 v4 v5 : Nat, n - (n / 2 &&& 6148914691236517205) = v1 ∧ (n / 2 &&& 6148914691236517205) ≤ n ∧ v1 < 2 ^ 64 ∧ (v1 &&& 3689348814741910323) + (v1 / 4 &&& 3689348814741910323) = v2 ∧ v2 < 2 ^ 64 ∧ (v2 + v2 / 16) &&& 1085102592571150095 = v3 ∧ v2 + v2 / 16 < 2 ^ 64 ∧ v3 < 2 ^ 64 ∧ v3 + v3 / 256 = v4 ∧ v4 < 2 ^ 64 ∧ v4 + v4 / 65536 = v5 ∧ v5 < 2 ^ 64 ∧ (v5 + v5 / 4294967296) % 128 = cn (fun i => n.testBit i) 64 := by
  have hn := b8_of h
  generalize ha0 : n % 256 = a0 at hn
  generalize ha1 : n / 256 % 256 = a1 at hn
  generalize ha2 : n / 65536 % 256 = a2 at hn
  generalize ha3 : n / 16777216 % 256 = a3 at hn
  generalize ha4 : n / 4294967296 % 256 = a4 at hn
  generalize ha5 : n / 1099511627776 % 256 = a5 at hn
  generalize ha6 : n / 281474976710656 % 256 = a6 at hn
  generalize ha7 : n / 72057594037927936 % 256 = a7 at hn
  have h0 : a0 < 256 := by omega
  have h1 : a1 < 256 := by omega
  have h2 : a2 < 256 := by omega
  have h3 : a3 < 256 := by omega
  have h4 : a4 < 256 := by omega
  have h5 : a5 < 256 := by omega
  have h6 : a6 < 256 := by omega
  have h7 : a7 < 256 := by omega
  have q1 : n - (n / 2 &&& 6148914691236517205) = b8 (s1 a0) (s1 a1) (s1 a2) (s1 a3) (s1 a4) (s1 a5) (s1 a6) (s1 a7) := by
    have := pc_1 h0 h1 h2 h3 h4 h5 h6 h7
    rw [← hn] at this
    exact this
  obtain ⟨-, u0, w0, x0, y0⟩ := s_fin a0 h0
  obtain ⟨-, u1, w1, x1, y1⟩ := s_fin a1 h1
  obtain ⟨-, u2, w2, x2, y2⟩ := s_fin a2 h2
  obtain ⟨-, u3, w3, x3, y3⟩ := s_fin a3 h3
  obtain ⟨-, u4, w4, x4, y4⟩ := s_fin a4 h4
  obtain ⟨-, u5, w5, x5, y5⟩ := s_fin a5 h5
  obtain ⟨-, u6, w6, x6, y6⟩ := s_fin a6 h6
  obtain ⟨-, u7, w7, x7, y7⟩ := s_fin a7 h7
  have q2 := pc_2 u0 u1 u2 u3 u4 u5 u6 u7
  have q3 := pc_3 w0 x0 w1 x1 w2 x2 w3 x3 w4 x4 w5 x5 w6 x6 w7 x7
  have tb8 : ∀ b : Nat, (b.testBit 0).toNat + (b.testBit 1).toNat + (b.testBit 2).toNat + (b.testBit 3).toNat + (b.testBit 4).toNat + (b.testBit 5).toNat + (b.testBit 6).toNat + (b.testBit 7).toNat ≤ 8 := by
    intro b
    have q := fun i => Bool.toNat_le (b.testBit i)
    have := q 0; have := q 1; have := q 2; have := q 3; have := q 4; have := q 5; have := q 6; have := q 7
    omega
  rw [y0, y1, y2, y3, y4, y5, y6, y7] at q3
  obtain ⟨v4, v5, e4, l4, e5, l5, e6⟩ := pc_4 (tb8 a0) (tb8 a1) (tb8 a2) (tb8 a3) (tb8 a4) (tb8 a5) (tb8 a6) (tb8 a7)
  refine ⟨_, _, _, v4, v5, q1, ?_, b8_lt u0 u1 u2 u3 u4 u5 u6 u7, q2, b8_lt ?_ ?_ ?_ ?_ ?_ ?_ ?_ ?_, q3, ?_, b8_lt ?_ ?_ ?_ ?_ ?_ ?_ ?_ ?_, e4, l4, e5, l5, e6.trans ?_⟩
  · exact Nat.le_trans Nat.and_le_left (Nat.div_le_self _ _)
  all_goals (try (first | (show s2 _ < 256; omega) | (refine Nat.lt_of_le_of_lt (tb8 _) (by decide))))
  · show b8 (s2 a0) (s2 a1) (s2 a2) (s2 a3) (s2 a4) (s2 a5) (s2 a6) (s2 a7) + b8 (s2 a0) (s2 a1) (s2 a2) (s2 a3) (s2 a4) (s2 a5) (s2 a6) (s2 a7) / 16 < 2 ^ 64
    unfold b8
    omega
  · have t : ∀ (r k : Nat), k < 8 → (n / 2 ^ (8 * r) % 256).testBit k = n.testBit (8 * r + k) := by
      intro r k hk
      rw [show 256 = 2 ^ 8 from rfl, Nat.testBit_mod_two_pow, Nat.testBit_div_two_pow]
      simp [hk]
      rw [Nat.add_comm]
    subst ha0 ha1 ha2 ha3 ha4 ha5 ha6 ha7
    have t0 := t 0; have t1 := t 1; have t2 := t 2; have t3 := t 3; have t4 := t 4; have t5 := t 5; have t6 := t 6; have t7 := t 7
    simp only [Nat.mul_zero, Nat.pow_zero, Nat.div_one, Nat.reduceMul, Nat.reducePow] at t0 t1 t2 t3 t4 t5 t6 t7
    simp only [Nat.zero_add, Nat.add_zero, Nat.reduceAdd] at t0 t1 t2 t3 t4 t5 t6 t7
    simp only [cn, Nat.zero_add, Nat.add_zero, Nat.reduceAdd, t0 0 (by omega), t0 1 (by omega), t0 2 (by omega), t0 3 (by omega), t0 4 (by omega), t0 5 (by omega), t0 6 (by omega), t0 7 (by omega), t1 0 (by omega), t1 1 (by omega), t1 2 (by omega), t1 3 (by omega), t1 4 (by omega), t1 5 (by omega), t1 6 (by omega), t1 7 (by omega), t2 0 (by omega), t2 1 (by omega), t2 2 (by omega), t2 3 (by omega), t2 4 (by omega), t2 5 (by omega), t2 6 (by omega), t2 7 (by omega), t3 0 (by omega), t3 1 (by omega), t3 2 (by omega), t3 3 (by omega), t3 4 (by omega), t3 5 (by omega), t3 6 (by omega), t3 7 (by omega), t4 0 (by omega), t4 1 (by omega), t4 2 (by omega), t4 3 (by omega), t4 4 (by omega), t4 5 (by omega), t4 6 (by omega), t4 7 (by omega), t5 0 (by omega), t5 1 (by omega), t5 2 (by omega), t5 3 (by omega), t5 4 (by omega), t5 5 (by omega), t5 6 (by omega), t5 7 (by omega), t6 0 (by omega), t6 1 (by omega), t6 2 (by omega), t6 3 (by omega), t6 4 (by omega), t6 5 (by omega), t6 6 (by omega), t6 7 (by omega), t7 0 (by omega), t7 1 (by omega), t7 2 (by omega), t7 3 (by omega), t7 4 (by omega), t7 5 (by omega), t7 6 (by omega), t7 7 (by omega)]
    omega
def tb (x : Int64) (i : Nat) : Bool := x.toBitVec.getLsbD i
theorem tb_lN (n i : Nat) (h : n < 2 ^ 64) : tb (lN n) i = n.testBit i := by
  unfold tb
  rw [BitVec.getLsbD, wb_tn h]
theorem pc64 (x : Int64) : J13_bitCount_95d88 x = nI (cn (tb x) 64) := by
  obtain ⟨n, hn, rfl⟩ := wb_of x
  obtain ⟨v1, v2, v3, v4, v5, e1, g1, l1, e2, l2, e3, g3, l3, e4, l4, e5, l5, e6⟩ := pc_n hn
  have c : cn (tb (lN n)) 64 = cn (fun i => n.testBit i) 64 := cn_cong (fun k _ => tb_lN n k hn)
  rw [c, ← e6]
  have r1 : ((lN n).toUInt64 >>> ((1 : Int32).toInt64.toUInt64 &&& Int64.toUInt64 63)).toInt64 = lN (n / 2) := wb_shr hn (k := 1) (by omega)
  have r2 : ((lN v1).toUInt64 >>> ((2 : Int32).toInt64.toUInt64 &&& Int64.toUInt64 63)).toInt64 = lN (v1 / 4) := wb_shr l1 (k := 2) (by omega)
  have r3 : ((lN v2).toUInt64 >>> ((4 : Int32).toInt64.toUInt64 &&& Int64.toUInt64 63)).toInt64 = lN (v2 / 16) := wb_shr l2 (k := 4) (by omega)
  have r4 : ((lN v3).toUInt64 >>> ((8 : Int32).toInt64.toUInt64 &&& Int64.toUInt64 63)).toInt64 = lN (v3 / 256) := wb_shr l3 (k := 8) (by omega)
  have r5 : ((lN v4).toUInt64 >>> ((16 : Int32).toInt64.toUInt64 &&& Int64.toUInt64 63)).toInt64 = lN (v4 / 65536) := wb_shr l4 (k := 16) (by omega)
  have r6 : ((lN v5).toUInt64 >>> ((32 : Int32).toInt64.toUInt64 &&& Int64.toUInt64 63)).toInt64 = lN (v5 / 4294967296) := wb_shr l5 (k := 32) (by omega)
  have m1 : lN n - (lN (n / 2) &&& (6148914691236517205 : Int64)) = lN v1 := by
    rw [show (6148914691236517205 : Int64) = lN 6148914691236517205 from rfl, wb_and (by omega) (by decide), lN_sub g1, e1]
  have m2 : (lN v1 &&& (3689348814741910323 : Int64)) + (lN (v1 / 4) &&& (3689348814741910323 : Int64)) = lN v2 := by
    rw [show (3689348814741910323 : Int64) = lN 3689348814741910323 from rfl, wb_and l1 (by decide), wb_and (by omega) (by decide), lN_add, e2]
  have m3 : (lN v2 + lN (v2 / 16)) &&& (1085102592571150095 : Int64) = lN v3 := by
    rw [show (1085102592571150095 : Int64) = lN 1085102592571150095 from rfl, lN_add, wb_and g3 (by decide), e3]
  have m4 : lN v3 + lN (v3 / 256) = lN v4 := by rw [lN_add, e4]
  have m5 : lN v4 + lN (v4 / 65536) = lN v5 := by rw [lN_add, e5]
  unfold J13_bitCount_95d88 aLet
  dsimp only
  rw [r1, m1, r2, m2, r3, m3, r4, m4, r5, m5, r6, lN_add, lN_i]
  exact fa_mask _ 7
