/-! sets of cells, by their bits -/
theorem pc32 : ∀ n, n < 64 → J6_bitCount_0f7a4 (nI n) = nI (cn (fun i => n.testBit i) 6) := by decide +kernel
theorem tb_ext {x y : Int64} (h : ∀ i, i < 64 → tb x i = tb y i) : x = y := Int64.toBitVec_inj.mp (BitVec.eq_of_getLsbD_eq (fun i hi => h i hi))
theorem tb_or (x y : Int64) (i : Nat) : tb (x ||| y) i = (tb x i || tb y i) := by unfold tb; rw [Int64.toBitVec_or, BitVec.getLsbD_or]
theorem tb_and (x y : Int64) (i : Nat) : tb (x &&& y) i = (tb x i && tb y i) := by unfold tb; rw [Int64.toBitVec_and, BitVec.getLsbD_and]
theorem tb_m1 {i : Nat} (h : i < 64) : tb (-1) i = true := by
  have : ∀ i, i < 64 → tb (-1) i = true := by decide +kernel
  exact this i h
theorem tb_not (x : Int64) {i : Nat} (h : i < 64) : tb (x ^^^ (-1)) i = !tb x i := by
  have := tb_m1 h
  unfold tb at this ⊢
  rw [Int64.toBitVec_xor, BitVec.getLsbD_xor, this, Bool.xor_true]
theorem tb_0 (i : Nat) : tb 0 i = false := BitVec.getLsbD_zero
theorem tb_big {x : Int64} {i : Nat} (h : 64 ≤ i) : tb x i = false := BitVec.getLsbD_of_ge _ _ h
theorem tb_shl (x : Int64) {k i : Nat} (hk : k < 64) (hi : i < 64) : tb (x <<< ((nI k).toInt64 &&& 63)) i = (decide (k ≤ i) && tb x (i - k)) := by
  obtain ⟨n, hn, rfl⟩ := wb_of x
  rw [wb_shl n hk, tb_lN _ _ hn]
  unfold tb
  rw [wb_tb, BitVec.getLsbD_ofNat, Nat.mul_comm, Nat.testBit_two_pow_mul]
  simp [hi]
theorem tb_shr (x : Int64) {k : Nat} (hk : k < 64) (i : Nat) : tb ((x.toUInt64 >>> ((nI k).toInt64.toUInt64 &&& Int64.toUInt64 63)).toInt64) i = tb x (k + i) := by
  obtain ⟨n, hn, rfl⟩ := wb_of x
  rw [wb_shr hn hk, tb_lN _ _ hn, tb_lN _ _ (Nat.lt_of_le_of_lt (Nat.div_le_self _ _) hn), Nat.testBit_div_two_pow, Nat.add_comm]
theorem tb_1 (i : Nat) : tb 1 i = decide (i = 0) := by
  show tb (lN 1) i = _
  rw [tb_lN _ _ (by decide), show 1 = 2 ^ 0 from rfl, Nat.testBit_two_pow]
  simp [eq_comm]
/-- the bit that a test looks at -/
theorem tb_at (x : Int64) {k : Nat} (hk : k < 64) : (lg_cmp (((x.toUInt64 >>> ((nI k).toInt64.toUInt64 &&& Int64.toUInt64 63)).toInt64) &&& (1 : Int64)) (0 : Int64)) = 0 ↔ tb x k = false := by
  rw [lg_cmp_eq]
  constructor
  · intro h
    have := congrArg (fun y => tb y 0) h
    simp only [tb_and, tb_shr x hk, tb_1, tb_0] at this
    simpa using this
  · intro h
    apply tb_ext
    intro i hi
    rw [tb_and, tb_shr x hk, tb_1, tb_0]
    by_cases q : i = 0
    · subst q
      simp [h]
    · simp [q]
theorem tb_ne {x : Int64} : x = 0 ↔ ∀ i, i < 64 → tb x i = false := ⟨fun h i _ => by rw [h, tb_0], fun h => tb_ext (fun i hi => by rw [h i hi, tb_0])⟩
theorem cn_lt (t : Nat) : ∀ n, cn (fun i => decide (i < t)) n = min t n
  | 0 => by simp [cn]
  | n + 1 => by
    rw [cn, cn_lt t n]
    by_cases h : n < t
    · simp [h]
      omega
    · simp [h]
      omega
theorem low_n {n t : Nat} (h1 : n.testBit t = true) (h2 : ∀ i, i < t → n.testBit i = false) (i : Nat) : (n - 1).testBit i = if i < t then true else if i = t then false else n.testBit i := by
  have e : n = 2 ^ (t + 1) * (n / 2 ^ (t + 1)) + 2 ^ t := by
    have : n % 2 ^ (t + 1) = 2 ^ t := by
      apply Nat.eq_of_testBit_eq
      intro i
      rw [Nat.testBit_mod_two_pow, Nat.testBit_two_pow]
      by_cases q : i < t
      · rw [h2 i q]
        simp
        omega
      · by_cases q2 : i = t
        · subst q2
          simp [h1]
        · simp [show ¬ i < t + 1 by omega]
          omega
    have := Nat.div_add_mod n (2 ^ (t + 1))
    omega
  generalize hk : n / 2 ^ (t + 1) = k at e
  have hp : 0 < 2 ^ t := Nat.two_pow_pos t
  have hq : 2 ^ t < 2 ^ (t + 1) := Nat.pow_lt_pow_right (by decide) (by omega)
  have e2 : n - 1 = 2 ^ (t + 1) * k + (2 ^ t - 1) := by omega
  rw [e2, Nat.testBit_two_pow_mul_add _ (by omega), Nat.testBit_two_pow_sub_one]
  by_cases q : i < t
  · simp [q, show i < t + 1 by omega]
  · by_cases q2 : i = t
    · subst q2
      simp
    · simp only [show ¬ i < t + 1 by omega, q, q2, if_false]
      rw [e, Nat.testBit_two_pow_mul_add _ (by omega)]
      simp [show ¬ i < t + 1 by omega]
theorem tb_neg {n : Nat} (h0 : 0 < n) (h : n < 2 ^ 64) {i : Nat} (hi : i < 64) : tb (-(lN n)) i = !(n - 1).testBit i := by
  have e : -(lN n) = lN (2 ^ 64 - n) := by
    apply wb_inj
    apply BitVec.eq_of_toNat_eq
    rw [Int64.toBitVec_neg, BitVec.toNat_neg, wb_tn h, wb_tn (by omega), Nat.mod_eq_of_lt (by omega)]
  rw [e, tb_lN _ _ (by omega), show 2 ^ 64 - n = 2 ^ 64 - ((n - 1) + 1) by omega, Nat.testBit_two_pow_sub_succ (by omega)]
  simp [hi]
/-- the least cell of a set: taken alone, taken away, its number -/
theorem low {x : Int64} (h : x ≠ 0) : ∃ t, t < 64 ∧ tb x t = true ∧ (∀ i, i < t → tb x i = false) ∧ (∀ i, i < 64 → tb (x &&& -x) i = decide (i = t)) ∧ (∀ i, i < 64 → tb (x &&& (x - 1)) i = (tb x i && !decide (i = t))) ∧ J13_bitCount_95d88 ((x &&& -x) - 1) = nI t := by
  obtain ⟨n, hn, rfl⟩ := wb_of x
  have h0 : n ≠ 0 := fun e => h (by rw [e]; rfl)
  obtain ⟨t, ht, hl⟩ := pk_least (fun i => n.testBit i = true) (Nat.exists_testBit_of_ne_zero h0)
  have hl : ∀ i, i < t → n.testBit i = false := fun i hi => by
    have := hl i hi
    cases q : n.testBit i
    · rfl
    · exact absurd q this
  have ht64 : t < 64 := by
    rcases Nat.lt_or_ge t 64 with q | q
    · exact q
    · have : n < 2 ^ t := Nat.lt_of_lt_of_le hn (Nat.pow_le_pow_right (by decide) q)
      rw [Nat.testBit_lt_two_pow this] at ht
      cases ht
  have e1 : ∀ i, i < 64 → tb (lN n &&& -lN n) i = decide (i = t) := by
    intro i hi
    rw [tb_and, tb_lN _ _ hn, tb_neg (by omega) hn hi, low_n ht hl]
    by_cases q : i < t
    · rw [hl i q]
      simp
      omega
    · by_cases q2 : i = t
      · subst q2
        simp [ht]
      · simp [q, q2]
  refine ⟨t, ht64, by rw [tb_lN _ _ hn]; exact ht, fun i hi => by rw [tb_lN _ _ hn]; exact hl i hi, e1, ?_, ?_⟩
  · intro i hi
    rw [tb_and, tb_lN _ _ hn, show lN n - 1 = lN (n - 1) from lN_sub (b := 1) (by omega), tb_lN _ _ (by omega), low_n ht hl]
    by_cases q : i < t
    · rw [hl i q]
      simp
    · by_cases q2 : i = t
      · subst q2
        simp
      · simp [q, q2]
  · have e : lN n &&& -lN n = lN (2 ^ t) := by
      apply tb_ext
      intro i hi
      rw [e1 i hi, tb_lN _ _ (Nat.pow_lt_pow_right (by decide) ht64), Nat.testBit_two_pow]
      simp [eq_comm]
    rw [e, show lN (2 ^ t) - 1 = lN (2 ^ t - 1) from lN_sub (b := 1) (Nat.two_pow_pos t), pc64]
    congr 1
    have hp : 2 ^ t < 2 ^ 64 := Nat.pow_lt_pow_right (by decide) ht64
    rw [cn_cong (q := fun i => decide (i < t)) (fun k _ => by rw [tb_lN _ _ (by omega), Nat.testBit_two_pow_sub_one]), cn_lt]
    omega
theorem li0 : (0 : Int32) = nI 0 := rfl
theorem li1 : (1 : Int32) = nI 1 := rfl
theorem li2 : (2 : Int32) = nI 2 := rfl
theorem li3 : (3 : Int32) = nI 3 := rfl
theorem li4 : (4 : Int32) = nI 4 := rfl
theorem li5 : (5 : Int32) = nI 5 := rfl
theorem li6 : (6 : Int32) = nI 6 := rfl
theorem li7 : (7 : Int32) = nI 7 := rfl
theorem li8 : (8 : Int32) = nI 8 := rfl
theorem li11 : (11 : Int32) = nI 11 := rfl
theorem li12 : (12 : Int32) = nI 12 := rfl
theorem li16 : (16 : Int32) = nI 16 := rfl
theorem li24 : (24 : Int32) = nI 24 := rfl
theorem li25 : (25 : Int32) = nI 25 := rfl
theorem li26 : (26 : Int32) = nI 26 := rfl
theorem li31 : (31 : Int32) = nI 31 := rfl
theorem li32 : (32 : Int32) = nI 32 := rfl
theorem li36 : (36 : Int32) = nI 36 := rfl
theorem li40 : (40 : Int32) = nI 40 := rfl
theorem li48 : (48 : Int32) = nI 48 := rfl
theorem li52 : (52 : Int32) = nI 52 := rfl
theorem li58 : (58 : Int32) = nI 58 := rfl
theorem li59 : (59 : Int32) = nI 59 := rfl
theorem li60 : (60 : Int32) = nI 60 := rfl
theorem li63 : (63 : Int32) = nI 63 := rfl
theorem li64 : (64 : Int32) = nI 64 := rfl
theorem li88 : (88 : Int32) = nI 88 := rfl
theorem li96 : (96 : Int32) = nI 96 := rfl
theorem li130 : (130 : Int32) = nI 130 := rfl
theorem li192 : (192 : Int32) = nI 192 := rfl
theorem li255 : (255 : Int32) = nI 255 := rfl
theorem li2208 : (2208 : Int32) = nI 2208 := rfl
theorem li2304 : (2304 : Int32) = nI 2304 := rfl
theorem li9999 : (9999 : Int32) = nI 9999 := rfl
theorem cmp0 (x y : Int64) : (lg_cmp x y = nI 0) ↔ x = y := lg_cmp_eq x y
theorem cmpl (x y : Int64) : (lg_cmp x y < nI 0) ↔ x < y := lg_cmp_lt x y
theorem cmpg (x y : Int64) : (nI 0 < lg_cmp x y) ↔ y < x := lg_cmp_gt x y
theorem cmple (x y : Int64) : (lg_cmp x y ≤ nI 0) ↔ x ≤ y := lg_cmp_le x y
theorem cmpge (x y : Int64) : (nI 0 ≤ lg_cmp x y) ↔ y ≤ x := lg_cmp_ge x y
theorem sh1 {k : Nat} (hk : k < 31) : nI 1 <<< (nI k &&& nI 31) = nI (2 ^ k) := by
  have := pk_shlN (n := 1) (nI k &&& nI 31) k (s_l k (by omega)) (by rw [Nat.one_mul]; exact Nat.pow_lt_pow_right (by decide) (by omega))
  rw [this, Nat.one_mul]
/-- a set of small numbers as a number -/
def ms (p : Nat → Bool) : Nat → Nat
  | 0 => 0
  | n + 1 => ms p n ||| (if p n then 2 ^ n else 0)
theorem ms_cong {p q : Nat → Bool} : ∀ {n : Nat}, (∀ k, k < n → p k = q k) → ms p n = ms q n
  | 0, _ => rfl
  | n + 1, h => by rw [ms, ms, ms_cong (n := n) (fun k hk => h k (by omega)), h n (by omega)]
theorem ms_yes {p : Nat → Bool} {k : Nat} (h : p k = true) : ms p k ||| 2 ^ k = ms p (k + 1) := by rw [ms, if_pos h]
theorem ms_no {p : Nat → Bool} {k : Nat} (h : p k = false) : ms p (k + 1) = ms p k := by
  rw [ms, if_neg (by rw [h]; decide), Nat.or_zero]
theorem ms_lt (p : Nat → Bool) : ∀ n, ms p n < 2 ^ n
  | 0 => by rw [ms]; decide
  | n + 1 => by
    have h := ms_lt p n
    have e : 2 ^ (n + 1) = 2 * 2 ^ n := by rw [Nat.pow_succ, Nat.mul_comm]
    rw [ms]
    refine Nat.or_lt_two_pow (by omega) ?_
    split <;> omega
theorem ms_bit (p : Nat → Bool) (i : Nat) : ∀ n, (ms p n).testBit i = (decide (i < n) && p i)
  | 0 => by simp [ms]
  | n + 1 => by
    rw [ms, Nat.testBit_or, ms_bit p i n]
    by_cases h : p n
    · rw [if_pos h, Nat.testBit_two_pow]
      by_cases q : n = i
      · subst q
        simp [h]
      · rw [show decide (n = i) = false by simp [q], Bool.or_false, show decide (i < n) = decide (i < n + 1) by rw [decide_eq_decide]; omega]
    · have h : p n = false := by simpa using h
      rw [if_neg (by rw [h]; decide), Nat.zero_testBit, Bool.or_false]
      by_cases q : n = i
      · subst q
        simp [h]
      · rw [show decide (i < n) = decide (i < n + 1) by rw [decide_eq_decide]; omega]
