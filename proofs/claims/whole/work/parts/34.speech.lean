/-! what one says: by sets of cells -/
/-- how many cells of a set have a sound -/
def vc (d : LD) (P : Nat → Bool) (v : Nat) : Nat := cn (fun c => inC d c && decide (lS d (pl c) = v) && P c) 64
def m5 (b0 b1 b2 b3 b4 : Bool) : Nat := (if b0 then 1 else 0) ||| (if b1 then 2 else 0) ||| (if b2 then 4 else 0) ||| (if b3 then 8 else 0) ||| (if b4 then 16 else 0)
theorem ms5 (p : Nat → Bool) : ms p 5 = m5 (p 0) (p 1) (p 2) (p 3) (p 4) := by
  simp only [ms, m5, Nat.zero_or]
theorem m5_or : ∀ a0 a1 a2 a3 a4 b0 b1 b2 b3 b4 : Bool, nI (m5 a0 a1 a2 a3 a4) ||| nI (m5 b0 b1 b2 b3 b4) = nI (m5 (a0 || b0) (a1 || b1) (a2 || b2) (a3 || b3) (a4 || b4)) := by decide +kernel
theorem m5_br : ∀ a0 a1 a2 a3 a4 : Bool, (nI (m5 a0 a1 a2 a3 a4) ||| (nI (m5 a0 a1 a2 a3 a4) <<< (nI 1 &&& nI 31))) &&& nI 31 = nI (m5 a0 (a1 || a0) (a2 || a1) (a3 || a2) (a4 || a3)) := by decide +kernel
theorem m5_br2 : ∀ a0 a1 a2 a3 a4 : Bool, nI (m5 a0 a1 a2 a3 a4) ||| ((nI (m5 a0 a1 a2 a3 a4) <<< (nI 1 &&& nI 31)) &&& nI 31) = nI (m5 a0 (a1 || a0) (a2 || a1) (a3 || a2) (a4 || a3)) := by decide +kernel
theorem m5_no : ∀ a0 a1 a2 a3 a4 b0 b1 b2 b3 b4 : Bool, nI (m5 a0 a1 a2 a3 a4) &&& (nI (m5 b0 b1 b2 b3 b4) ^^^ (-1 : Int32)) = nI (m5 (a0 && !b0) (a1 && !b1) (a2 && !b2) (a3 && !b3) (a4 && !b4)) := by decide +kernel
theorem ms_or5 (p q : Nat → Bool) : nI (ms p 5) ||| nI (ms q 5) = nI (ms (fun v => p v || q v) 5) := by rw [ms5, ms5, ms5, m5_or]
theorem ms_br5 (p : Nat → Bool) : (nI (ms p 5) ||| (nI (ms p 5) <<< (nI 1 &&& nI 31))) &&& nI 31 = nI (ms (fun v => p v || (decide (1 ≤ v) && p (v - 1))) 5) := by
  rw [ms5, ms5, m5_br]
  simp
theorem ms_br5' (p : Nat → Bool) : nI (ms p 5) ||| ((nI (ms p 5) <<< (nI 1 &&& nI 31)) &&& nI 31) = nI (ms (fun v => p v || (decide (1 ≤ v) && p (v - 1))) 5) := by
  rw [ms5, ms5, m5_br2]
  simp
theorem ms_no5 (p q : Nat → Bool) : nI (ms p 5) &&& (nI (ms q 5) ^^^ (-1 : Int32)) = nI (ms (fun v => p v && !q v) 5) := by rw [ms5, ms5, ms5, m5_no]
theorem tb_sound {d : LD} {S : Rec} (hS : LandOf d S) {v : Nat} (hv : v < 6) (y : Int64) : cn (tb (S.2.2 9 v &&& y)) 64 = vc d (tb y) v := by
  obtain ⟨-, -, -, -, -, -, -, h9, -⟩ := hS
  exact cn_cong (fun c hc => by rw [tb_and, h9 v hv c hc])
theorem cn_zero {p : Nat → Bool} : ∀ {n : Nat}, cn p n = 0 ↔ ∀ k, k < n → p k = false
  | 0 => by simp [cn]
  | n + 1 => by
    rw [cn]
    constructor
    · intro h k hk
      by_cases q : k = n
      · subst q
        cases z : p k
        · rfl
        · rw [z] at h
          simp at h
      · exact (cn_zero (n := n)).mp (by omega) k (by omega)
    · intro h
      rw [cn_zero.mpr (fun k hk => h k (by omega)), h n (by omega)]
      rfl
theorem set0 {x : Int64} : x = 0 ↔ cn (tb x) 64 = 0 := by rw [tb_ne, cn_zero]
theorem c_vowelsIn {d : LD} {S : Rec} (hS : LandOf d S) (y : Int64) : X2_vowelsIn S y = some (nI (ms (fun v => decide (0 < vc d (tb y) v)) 5)) := by
  have := forUp (fun n i s => X2_vowelsIn_L5 S y n s i) 5 (fun k => nI (ms (fun v => decide (0 < vc d (tb y) v)) k)) (some (nI (ms (fun v => decide (0 < vc d (tb y) v)) 5))) (fun n k hk => ?_) (fun n => ?_) 5 0 aFu rfl (by decide)
  · have h : X2_vowelsIn_L5 S y aFu 0 0 = some (nI (ms (fun v => decide (0 < vc d (tb y) v)) 5)) := this
    unfold X2_vowelsIn
    rw [h]
    rfl
  · have h : ¬ 5 ≤ k := by omega
    have e : S.2.2 9 k &&& y = 0 ↔ vc d (tb y) k = 0 := by rw [set0, tb_sound hS (by omega)]
    simp (disch := omega) only [X2_vowelsIn_L5, li0, li1, li2, li3, li4, li5, li6, li7, li8, li11, li12, li16, li24, li25, li26, li31, li32, li36, li40, li48, li52, li58, li59, li60, li63, li64, li88, li96, li130, li192, li255, li2208, li2304, li9999, cmp0, cmpl, cmpg, cmple, cmpge, nI_leI, nI_ltI, nI_eq, rL, rI, wL, wI, Option.bind_some, aLet, nI_add, pk_mul, ↓reduceIte, if_true, if_false, eq_self, Nat.reduceEqDiff, Nat.reduceLeDiff, Nat.reduceLT, Nat.one_ne_zero, Nat.zero_ne_one, Nat.add_zero, Bool.false_eq_true, h, e, sh1]
    by_cases q : vc d (tb y) k = 0
    · rw [if_pos q, ms_no (by simp [q])]
    · rw [if_neg q, fa_or, ms_yes (by simp; omega)]
  · simp (disch := omega) only [X2_vowelsIn_L5, li0, li1, li2, li3, li4, li5, li6, li7, li8, li11, li12, li16, li24, li25, li26, li31, li32, li36, li40, li48, li52, li58, li59, li60, li63, li64, li88, li96, li130, li192, li255, li2208, li2304, li9999, cmp0, cmpl, cmpg, cmple, cmpge, nI_leI, nI_ltI, nI_eq, rL, rI, wL, wI, Option.bind_some, aLet, nI_add, pk_mul, ↓reduceIte, if_true, if_false, eq_self, Nat.reduceEqDiff, Nat.reduceLeDiff, Nat.reduceLT, Nat.one_ne_zero, Nat.zero_ne_one, Nat.add_zero, Bool.false_eq_true, Nat.le_refl]
theorem c_once {d : LD} {S : Rec} (hS : LandOf d S) (y : Int64) : X2_vowelsOnceIn S y = some (nI (ms (fun v => decide (vc d (tb y) v = 1)) 5)) := by
  have := forUp (fun n i s => X2_vowelsOnceIn_L5 S y n s i) 5 (fun k => nI (ms (fun v => decide (vc d (tb y) v = 1)) k)) (some (nI (ms (fun v => decide (vc d (tb y) v = 1)) 5))) (fun n k hk => ?_) (fun n => ?_) 5 0 aFu rfl (by decide)
  · have h : X2_vowelsOnceIn_L5 S y aFu 0 0 = some (nI (ms (fun v => decide (vc d (tb y) v = 1)) 5)) := this
    unfold X2_vowelsOnceIn
    rw [h]
    rfl
  · have h : ¬ 5 ≤ k := by omega
    have hl : vc d (tb y) k ≤ 64 := cn_le _ _
    simp (disch := omega) only [X2_vowelsOnceIn_L5, rL, Option.bind_some, pc64, tb_sound hS (show k < 6 by omega), li0, li1, li2, li3, li4, li5, li6, li7, li8, li11, li12, li16, li24, li25, li26, li31, li32, li36, li40, li48, li52, li58, li59, li60, li63, li64, li88, li96, li130, li192, li255, li2208, li2304, li9999, cmp0, cmpl, cmpg, cmple, cmpge, nI_leI, nI_ltI, nI_eq, rL, rI, wL, wI, Option.bind_some, aLet, nI_add, pk_mul, ↓reduceIte, if_true, if_false, eq_self, Nat.reduceEqDiff, Nat.reduceLeDiff, Nat.reduceLT, Nat.one_ne_zero, Nat.zero_ne_one, Nat.add_zero, Bool.false_eq_true, h, sh1]
    by_cases q : vc d (tb y) k = 1
    · rw [if_pos q, fa_or, ms_yes (by simp [q])]
    · rw [if_neg q, ms_no (by simp [q])]
  · simp (disch := omega) only [X2_vowelsOnceIn_L5, li0, li1, li2, li3, li4, li5, li6, li7, li8, li11, li12, li16, li24, li25, li26, li31, li32, li36, li40, li48, li52, li58, li59, li60, li63, li64, li88, li96, li130, li192, li255, li2208, li2304, li9999, cmp0, cmpl, cmpg, cmple, cmpge, nI_leI, nI_ltI, nI_eq, rL, rI, wL, wI, Option.bind_some, aLet, nI_add, pk_mul, ↓reduceIte, if_true, if_false, eq_self, Nat.reduceEqDiff, Nat.reduceLeDiff, Nat.reduceLT, Nat.one_ne_zero, Nat.zero_ne_one, Nat.add_zero, Bool.false_eq_true, Nat.le_refl]
theorem and_m1 (x : Int64) : x &&& (-1) = x := by
  apply tb_ext
  intro i hi
  rw [tb_and, tb_m1 hi, Bool.and_true]
theorem c_common {d : LD} {S : Rec} (hS : LandOf d S) : X2_commonVowels S = some (nI (ms (fun v => decide (12 ≤ vc d (fun _ => true) v)) 5)) := by
  have := forUp (fun n i s => X2_commonVowels_L4 S n s i) 5 (fun k => nI (ms (fun v => decide (12 ≤ vc d (fun _ => true) v)) k)) (some (nI (ms (fun v => decide (12 ≤ vc d (fun _ => true) v)) 5))) (fun n k hk => ?_) (fun n => ?_) 5 0 aFu rfl (by decide)
  · have h : X2_commonVowels_L4 S aFu 0 0 = some (nI (ms (fun v => decide (12 ≤ vc d (fun _ => true) v)) 5)) := this
    unfold X2_commonVowels
    rw [h]
    rfl
  · have h : ¬ 5 ≤ k := by omega
    have hl : vc d (fun _ => true) k ≤ 64 := cn_le _ _
    have e : cn (tb (S.2.2 9 k)) 64 = vc d (fun _ => true) k := by
      have := tb_sound hS (show k < 6 by omega) (-1)
      rw [and_m1] at this
      rw [this]
      exact cn_cong (fun c hc => by rw [tb_m1 hc])
    simp (disch := omega) only [X2_commonVowels_L4, rL, Option.bind_some, pc64, e, li0, li1, li2, li3, li4, li5, li6, li7, li8, li11, li12, li16, li24, li25, li26, li31, li32, li36, li40, li48, li52, li58, li59, li60, li63, li64, li88, li96, li130, li192, li255, li2208, li2304, li9999, cmp0, cmpl, cmpg, cmple, cmpge, nI_leI, nI_ltI, nI_eq, rL, rI, wL, wI, Option.bind_some, aLet, nI_add, pk_mul, ↓reduceIte, if_true, if_false, eq_self, Nat.reduceEqDiff, Nat.reduceLeDiff, Nat.reduceLT, Nat.one_ne_zero, Nat.zero_ne_one, Nat.add_zero, Bool.false_eq_true, h, sh1]
    by_cases q : vc d (fun _ => true) k < 12
    · rw [if_pos q, ms_no (by simp; omega)]
    · rw [if_neg q, fa_or, ms_yes (by simp; omega)]
  · simp (disch := omega) only [X2_commonVowels_L4, li0, li1, li2, li3, li4, li5, li6, li7, li8, li11, li12, li16, li24, li25, li26, li31, li32, li36, li40, li48, li52, li58, li59, li60, li63, li64, li88, li96, li130, li192, li255, li2208, li2304, li9999, cmp0, cmpl, cmpg, cmple, cmpge, nI_leI, nI_ltI, nI_eq, rL, rI, wL, wI, Option.bind_some, aLet, nI_add, pk_mul, ↓reduceIte, if_true, if_false, eq_self, Nat.reduceEqDiff, Nat.reduceLeDiff, Nat.reduceLT, Nat.one_ne_zero, Nat.zero_ne_one, Nat.add_zero, Bool.false_eq_true, Nat.le_refl]
/-- beside a set of cells -/
def bes (P : Nat → Bool) (c : Nat) : Bool := (decide (1 ≤ c) && P (c - 1) || P (1 + c) || decide (8 ≤ c) && P (c - 8) || P (8 + c)) && !P c
theorem c_beside (y : Int64) {c : Nat} (hc : c < 64) : tb (X8_beside y) c = bes (tb y) c := by
  have a : tb (y <<< ((1 : Int32).toInt64 &&& 63)) c = (decide (1 ≤ c) && tb y (c - 1)) := tb_shl y (k := 1) (by omega) hc
  have b : tb (y <<< ((8 : Int32).toInt64 &&& 63)) c = (decide (8 ≤ c) && tb y (c - 8)) := tb_shl y (k := 8) (by omega) hc
  have e : tb ((y.toUInt64 >>> ((1 : Int32).toInt64.toUInt64 &&& Int64.toUInt64 63)).toInt64) c = tb y (1 + c) := tb_shr y (k := 1) (by omega) c
  have f : tb ((y.toUInt64 >>> ((8 : Int32).toInt64.toUInt64 &&& Int64.toUInt64 63)).toInt64) c = tb y (8 + c) := tb_shr y (k := 8) (by omega) c
  unfold X8_beside bes
  rw [tb_and, tb_or, tb_or, tb_or, tb_not _ hc, a, b, e, f]
def cm (d : LD) (v : Nat) : Bool := decide (12 ≤ vc d (fun _ => true) v)
def plv (d : LD) (P : Nat → Bool) (v : Nat) : Bool := cm d v || decide (0 < vc d P v)
def spv (d : LD) (k : Nat) (P Q : Nat → Bool) (v : Nat) : Bool :=
  if k = 1 then plv d P v
  else if k = 2 then plv d P v || (decide (1 ≤ v) && plv d P (v - 1))
  else if k = 3 then plv d P v && !decide (vc d P v = 1)
  else if k = 4 then plv d Q v
  else plv d (fun c => Q c || bes P c) v
/-- what one of a kind says who holds the first set, with the other one nobody's -/
def sp (d : LD) (k : Nat) (P Q : Nat → Bool) : Nat := ms (spv d k P Q) 5
theorem vc_cong {d : LD} {P Q : Nat → Bool} (h : ∀ c, c < 64 → inC d c = true → P c = Q c) (v : Nat) : vc d P v = vc d Q v := by
  refine cn_cong (fun c hc => ?_)
  by_cases q : inC d c = true
  · rw [h c hc q]
  · have q : inC d c = false := by simpa using q
    rw [q]
    simp
theorem c_speech {d : LD} {S : Rec} (hS : LandOf d S) {k : Nat} (h1 : 1 ≤ k) (h5 : k ≤ 5) (y z : Int64) : X2_speech S (nI k) y z = some (nI (sp d k (tb y) (tb z))) := by
  unfold X2_speech
  rw [c_common hS, Option.bind_some, c_vowelsIn hS y, Option.bind_some]
  unfold aLet
  rw [ms_or5]
  have e : (fun v => decide (12 ≤ vc d (fun _ => true) v) || decide (0 < vc d (tb y) v)) = plv d (tb y) := rfl
  rw [e]
  dsimp only
  rcases (show k = 1 ∨ k = 2 ∨ k = 3 ∨ k = 4 ∨ k = 5 by omega) with rfl | rfl | rfl | rfl | rfl
  · rw [if_pos (show nI 1 = (1 : Int32) from rfl)]
    rfl
  · rw [if_neg (show ¬ nI 2 = (1 : Int32) by decide), if_pos (show nI 2 = (2 : Int32) from rfl)]
    exact congrArg some (ms_br5 _)
  · rw [if_neg (show ¬ nI 3 = (1 : Int32) by decide), if_neg (show ¬ nI 3 = (2 : Int32) by decide), if_pos (show nI 3 = (3 : Int32) from rfl), c_once hS y, Option.bind_some, ms_no5]
    rfl
  · rw [if_neg (show ¬ nI 4 = (1 : Int32) by decide), if_neg (show ¬ nI 4 = (2 : Int32) by decide), if_neg (show ¬ nI 4 = (3 : Int32) by decide), if_pos (show nI 4 = (4 : Int32) from rfl), c_vowelsIn hS z, Option.bind_some, ms_or5]
    rfl
  · rw [if_neg (show ¬ nI 5 = (1 : Int32) by decide), if_neg (show ¬ nI 5 = (2 : Int32) by decide), if_neg (show ¬ nI 5 = (3 : Int32) by decide), if_neg (show ¬ nI 5 = (4 : Int32) by decide), if_pos (show nI 5 = (5 : Int32) from rfl), c_vowelsIn hS, Option.bind_some, ms_or5]
    refine congrArg some (congrArg nI (ms_cong (fun v _ => ?_)))
    show _ = plv d (fun c => tb z c || bes (tb y) c) v
    unfold plv
    rw [vc_cong (P := tb (z ||| X8_beside y)) (Q := fun c => tb z c || bes (tb y) c) (fun c hc _ => by rw [tb_or, c_beside y hc])]
    rfl
