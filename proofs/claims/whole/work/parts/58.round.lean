/-! round: behind how many years all sounds are as they were -/
def itr (g : Nat → Nat) : Nat → Nat → Nat
  | 0, v => v
  | n + 1, v => g (itr g n v)
theorem itr_lt {g : Nat → Nat} (hg : ∀ v, v < 5 → g v < 5) : ∀ n {v}, v < 5 → itr g n v < 5
  | 0, _, h => h
  | n + 1, _, h => hg _ (itr_lt hg n h)
theorem itr_cong {g k : Nat → Nat} (hg : ∀ v, v < 5 → g v < 5) (e : ∀ v, v < 5 → g v = k v) : ∀ n {v}, v < 5 → itr g n v = itr k n v
  | 0, _, _ => rfl
  | n + 1, v, h => by
    rw [itr, itr, ← itr_cong hg e n h, e _ (itr_lt hg n h)]
/-- five vowels come round within ten years -/
def g5 (a b c d e v : Nat) : Nat := if v = 0 then a else if v = 1 then b else if v = 2 then c else if v = 3 then d else e
def all5 (p : Nat → Bool) : Bool := p 0 && p 1 && p 2 && p 3 && p 4
def comes (g : Nat → Nat) : Bool := [1, 2, 3, 4, 5, 6].any fun l => all5 fun v => decide (itr g (4 + l) v = itr g 4 v)
theorem comes5 : ∀ a, a < 5 → ∀ b, b < 5 → ∀ c, c < 5 → ∀ d, d < 5 → ∀ e, e < 5 → comes (g5 a b c d e) = true := by decide +kernel
theorem comes_g {g : Nat → Nat} (hg : ∀ v, v < 5 → g v < 5) : ∃ l, 1 ≤ l ∧ l ≤ 6 ∧ ∀ v, v < 5 → itr g (4 + l) v = itr g 4 v := by
  have h := comes5 (g 0) (hg 0 (by omega)) (g 1) (hg 1 (by omega)) (g 2) (hg 2 (by omega)) (g 3) (hg 3 (by omega)) (g 4) (hg 4 (by omega))
  have e : ∀ v, v < 5 → g v = g5 (g 0) (g 1) (g 2) (g 3) (g 4) v := fun v hv => by
    rcases (show v = 0 ∨ v = 1 ∨ v = 2 ∨ v = 3 ∨ v = 4 by omega) with rfl | rfl | rfl | rfl | rfl <;> rfl
  unfold comes at h
  rw [List.any_eq_true] at h
  obtain ⟨l, hl, h2⟩ := h
  have hl : l = 1 ∨ l = 2 ∨ l = 3 ∨ l = 4 ∨ l = 5 ∨ l = 6 := by simpa using hl
  refine ⟨l, by omega, by omega, fun v hv => ?_⟩
  rw [itr_cong hg e (4 + l) hv, itr_cong hg e 4 hv]
  unfold all5 at h2
  simp only [Bool.and_eq_true, decide_eq_true_eq] at h2
  rcases (show v = 0 ∨ v = 1 ∨ v = 2 ∨ v = 3 ∨ v = 4 by omega) with rfl | rfl | rfl | rfl | rfl
  · exact h2.1.1.1.1
  · exact h2.1.1.1.2
  · exact h2.1.1.2
  · exact h2.1.2
  · exact h2.2
theorem yrs_S {d : LD} (ok : okL d) : ∀ n {p}, p < 36 → lS (yrs d n) p = if inP d p = true ∧ lS d p < 5 then itr (lG d) n (lS d p) else lS d p
  | 0, p, hp => by
    show lS d p = if inP d p = true ∧ lS d p < 5 then lS d p else lS d p
    split <;> rfl
  | n + 1, p, hp => by
    have ih := yrs_S ok n hp
    have eG : ∀ n, lG (yrs d n) = lG d := fun n => by
      induction n with
      | zero => rfl
      | succ n ih => exact ih
    have eI : ∀ n, inP (yrs d n) p = inP d p := fun n => by
      induction n with
      | zero => rfl
      | succ n ih => exact ih
    show (if inP (yrs d n) p = true ∧ lS (yrs d n) p < 5 then lG (yrs d n) (lS (yrs d n) p) else lS (yrs d n) p) = _
    rw [eG, eI, ih]
    by_cases h : inP d p = true ∧ lS d p < 5
    · rw [if_pos h, if_pos h]
      have := itr_lt (g := lG d) ok.2.2.2.2.2.2.1 n h.2
      rw [if_pos ⟨h.1, this⟩]
      rfl
    · rw [if_neg h, if_neg h, if_neg h]
/-- all sounds are alike behind so many years, and so many -/
def alk (d : LD) (a b : Nat) : Bool := all5 fun v => decide (vc d (fun _ => true) v = 0) || decide (itr (lG d) a v = itr (lG d) b v)
theorem all5_iff {p : Nat → Bool} : all5 p = true ↔ ∀ v, v < 5 → p v = true := by
  unfold all5
  simp only [Bool.and_eq_true]
  constructor
  · rintro ⟨⟨⟨⟨h0, h1⟩, h2⟩, h3⟩, h4⟩ v hv
    rcases (show v = 0 ∨ v = 1 ∨ v = 2 ∨ v = 3 ∨ v = 4 by omega) with rfl | rfl | rfl | rfl | rfl <;> assumption
  · intro h
    exact ⟨⟨⟨⟨h 0 (by omega), h 1 (by omega)⟩, h 2 (by omega)⟩, h 3 (by omega)⟩, h 4 (by omega)⟩
theorem alk_iff {d : LD} (ok : okL d) (a b : Nat) : alk d a b = true ↔ ∀ p, p < 36 → inP d p = true → lS (yrs d a) p = lS (yrs d b) p := by
  unfold alk
  rw [all5_iff]
  constructor
  · intro h p hp hi
    rw [yrs_S ok a hp, yrs_S ok b hp]
    by_cases z : lS d p < 5
    · rw [if_pos ⟨hi, z⟩, if_pos ⟨hi, z⟩]
      have := h _ z
      rw [Bool.or_eq_true, decide_eq_true_eq, decide_eq_true_eq] at this
      rcases this with q | q
      · have q2 := cn_zero.mp ((vc_p ok _ _).symm.trans q) p hp
        simp [hi] at q2
      · exact q
    · rw [if_neg (fun q => z q.2), if_neg (fun q => z q.2)]
  · intro h v hv
    rw [Bool.or_eq_true, decide_eq_true_eq, decide_eq_true_eq]
    by_cases z : vc d (fun _ => true) v = 0
    · exact Or.inl z
    · refine Or.inr ?_
      have : ∃ p, p < 36 ∧ inP d p = true ∧ lS d p = v := by
        rcases Classical.em (∃ p, p < 36 ∧ inP d p = true ∧ lS d p = v) with q | q
        · exact q
        · refine absurd ?_ z
          rw [vc_p ok]
          refine cn_zero.mpr (fun p hp => ?_)
          cases y : inP d p
          · rfl
          · have : ¬ lS d p = v := fun w => q ⟨p, hp, y, w⟩
            simp [this]
      obtain ⟨p, hp, hi, rfl⟩ := this
      have := h p hp hi
      rw [yrs_S ok a hp, yrs_S ok b hp, if_pos ⟨hi, hv⟩, if_pos ⟨hi, hv⟩] at this
      exact this
theorem c_like {d : LD} {S T : Rec} (ok : okL d) {a b : Nat} (ha : LandOf (yrs d a) S) (hb : LandOf (yrs d b) T) : X2_soundsLike S T = some (if alk d a b then nI 1 else nI 0) := by
  have eI : ∀ n c, inC (yrs d n) c = inC d c := fun n c => by
    induction n with
    | zero => rfl
    | succ n ih => exact ih
  have eq : ∀ s, s < 6 → (S.2.2 9 s = T.2.2 9 s ↔ ∀ p, p < 36 → inP d p = true → (lS (yrs d a) p = s ↔ lS (yrs d b) p = s)) := fun s hs => by
    have h1 := ha.2.2.2.2.2.2.2.1 s hs
    have h2 := hb.2.2.2.2.2.2.2.1 s hs
    constructor
    · intro e p hp hi
      have hc : inC d (cl p) = true := inC_cl.trans hi
      have hb' := inC_b ok hc
      have := h1 (cl p) (by omega)
      rw [e, h2 (cl p) (by omega), eI, eI, hc, pl_cl, Bool.true_and, Bool.true_and, decide_eq_decide] at this
      exact this.symm
    · intro h
      refine tb_ext (fun c hc => ?_)
      rw [h1 c hc, h2 c hc, eI, eI]
      cases q : inC d c
      · rfl
      · have hb' := inC_b ok q
        rw [Bool.true_and, Bool.true_and, decide_eq_decide]
        exact h _ hb'.2.2.1 (by rw [← inC_cl, cl_pl hb'.2.1]; exact q)
  have hs6 : ∀ n p, p < 36 → lS (yrs d n) p < 6 := fun n p hp => by
    rw [yrs_S ok n hp]
    split
    · rename_i q
      have := itr_lt (g := lG d) ok.2.2.2.2.2.2.1 n q.2
      omega
    · exact ok.2.2.2.2.2.2.2.1 p hp
  have all : alk d a b = true ↔ ∀ s, s < 6 → S.2.2 9 s = T.2.2 9 s := by
    rw [alk_iff ok]
    constructor
    · intro h s hs
      rw [eq s hs]
      intro p hp hi
      rw [h p hp hi]
    · intro h p hp hi
      have := (eq _ (hs6 a p hp)).mp (h _ (hs6 a p hp)) p hp hi
      exact (this.mp rfl).symm
  have key : ∀ e k n, k + e = 6 → e < n → (∀ s, s < k → S.2.2 9 s = T.2.2 9 s) → X2_soundsLike_L2 S T n (nI k) = some (if alk d a b then .inr () else .inl (nI 0)) := by
    intro e
    induction e with
    | zero =>
      intro k n h1 h2 h3
      obtain ⟨n, rfl⟩ : ∃ z, n = z + 1 := ⟨n - 1, by omega⟩
      have h : 6 ≤ k := by omega
      have ha : alk d a b = true := all.mpr (fun s hs => h3 s (by omega))
      rw [ha]
      simp (disch := omega) only [X2_soundsLike_L2, li0, li1, li2, li3, li4, li5, li6, li7, li8, li11, li12, li16, li24, li25, li26, li31, li32, li36, li40, li48, li52, li58, li59, li60, li63, li64, li88, li96, li130, li192, li255, li2208, li2304, li9999, li9, li13, li14, li30, li35, li44, li45, li46, li47, li97, li98, li100, li101, li104, li105, li108, li110, li111, li112, li114, li117, li122, li999999, li1000000, li2147483647, cmp0, cmpl, cmpg, cmple, cmpge, nI_leI, nI_ltI, nI_eq, rL, rI, wL, wI, ob, aLet, nI_add, pk_mul, ↓reduceIte, if_true, if_false, eq_self, Nat.reduceEqDiff, Nat.reduceLeDiff, Nat.reduceLT, Nat.one_ne_zero, Nat.zero_ne_one, Nat.add_zero, Bool.false_eq_true, nI_neq, h]
    | succ e ih =>
      intro k n h1 h2 h3
      obtain ⟨n, rfl⟩ : ∃ z, n = z + 1 := ⟨n - 1, by omega⟩
      have h : ¬ 6 ≤ k := by omega
      by_cases z : S.2.2 9 k = T.2.2 9 k
      · have i := ih (k + 1) n (by omega) (by omega) (fun s hs => by
          by_cases y : s = k
          · rw [y]; exact z
          · exact h3 s (by omega))
        rw [← i]
        simp (disch := omega) only [X2_soundsLike_L2, li0, li1, li2, li3, li4, li5, li6, li7, li8, li11, li12, li16, li24, li25, li26, li31, li32, li36, li40, li48, li52, li58, li59, li60, li63, li64, li88, li96, li130, li192, li255, li2208, li2304, li9999, li9, li13, li14, li30, li35, li44, li45, li46, li47, li97, li98, li100, li101, li104, li105, li108, li110, li111, li112, li114, li117, li122, li999999, li1000000, li2147483647, cmp0, cmpl, cmpg, cmple, cmpge, nI_leI, nI_ltI, nI_eq, rL, rI, wL, wI, ob, aLet, nI_add, pk_mul, ↓reduceIte, if_true, if_false, eq_self, Nat.reduceEqDiff, Nat.reduceLeDiff, Nat.reduceLT, Nat.one_ne_zero, Nat.zero_ne_one, Nat.add_zero, Bool.false_eq_true, nI_neq, h, z]
      · have ha : alk d a b = false := by
          cases q : alk d a b
          · rfl
          · exact absurd (all.mp q k (by omega)) z
        rw [ha]
        simp (disch := omega) only [X2_soundsLike_L2, li0, li1, li2, li3, li4, li5, li6, li7, li8, li11, li12, li16, li24, li25, li26, li31, li32, li36, li40, li48, li52, li58, li59, li60, li63, li64, li88, li96, li130, li192, li255, li2208, li2304, li9999, li9, li13, li14, li30, li35, li44, li45, li46, li47, li97, li98, li100, li101, li104, li105, li108, li110, li111, li112, li114, li117, li122, li999999, li1000000, li2147483647, cmp0, cmpl, cmpg, cmple, cmpge, nI_leI, nI_ltI, nI_eq, rL, rI, wL, wI, ob, aLet, nI_add, pk_mul, ↓reduceIte, if_true, if_false, eq_self, Nat.reduceEqDiff, Nat.reduceLeDiff, Nat.reduceLT, Nat.one_ne_zero, Nat.zero_ne_one, Nat.add_zero, Bool.false_eq_true, nI_neq, h, z]
  have l := key 6 0 aFu rfl (by decide) (fun s hs => absurd hs (by omega))
  unfold X2_soundsLike
  rw [show (0 : Int32) = nI 0 from rfl, l]
  cases alk d a b <;> rfl
/-- the first of the years before that is alike -/
def fstAlk (d : LD) (n : Nat) : Nat → Option Nat
  | 0 => none
  | k + 1 => match fstAlk d n k with
    | some j => some j
    | none => if alk d k n then some k else none
theorem fa_lt' {d : LD} {n : Nat} : ∀ {k j}, fstAlk d n k = some j → j < k
  | k + 1, j, h => by
    rw [fstAlk] at h
    cases q : fstAlk d n k with
    | some i =>
      rw [q] at h
      have := fa_lt' q
      cases h
      omega
    | none =>
      rw [q] at h
      dsimp only at h
      split at h
      · cases h
        omega
      · cases h
theorem c_yearThat {d : LD} {S E T : Rec} (ok : okL d) (hy : lY d ≤ 9999) (hS : LandOf d S) {n : Nat} (hn : n ≤ 60) (hT : LandOf (yrs d n) T) : ∃ E', X8_yearThatSoundsSo E S T (nI n) = some ((match fstAlk d n n with | some j => nI j | none => -nI 1), E') := by
  have key : ∀ e k m Z, k + e = n → e < m → fstAlk d n k = none → LandOf (yrs d k) Z → ∃ Z', (X8_yearThatSoundsSo_L13 (nI n) T m (nI k) Z = some (match fstAlk d n n with | some j => .inl (nI j, Z') | none => .inr Z')) := by
    intro e
    induction e with
    | zero =>
      intro k m Z h1 h2 h3 hZ
      obtain ⟨m, rfl⟩ : ∃ z, m = z + 1 := ⟨m - 1, by omega⟩
      obtain rfl : k = n := h1
      refine ⟨Z, ?_⟩
      rw [h3]
      simp (disch := omega) only [X8_yearThatSoundsSo_L13, li0, li1, li2, li3, li4, li5, li6, li7, li8, li11, li12, li16, li24, li25, li26, li31, li32, li36, li40, li48, li52, li58, li59, li60, li63, li64, li88, li96, li130, li192, li255, li2208, li2304, li9999, li9, li13, li14, li30, li35, li44, li45, li46, li47, li97, li98, li100, li101, li104, li105, li108, li110, li111, li112, li114, li117, li122, li999999, li1000000, li2147483647, cmp0, cmpl, cmpg, cmple, cmpge, nI_leI, nI_ltI, nI_eq, rL, rI, wL, wI, ob, aLet, nI_add, pk_mul, ↓reduceIte, if_true, if_false, eq_self, Nat.reduceEqDiff, Nat.reduceLeDiff, Nat.reduceLT, Nat.one_ne_zero, Nat.zero_ne_one, Nat.add_zero, Bool.false_eq_true, nI_neq, Nat.le_refl]
    | succ e ih =>
      intro k m Z h1 h2 h3 hZ
      obtain ⟨m, rfl⟩ : ∃ z, m = z + 1 := ⟨m - 1, by omega⟩
      have h : ¬ n ≤ k := by omega
      have sl := c_like ok hZ hT
      cases q : alk d k n
      · rw [q] at sl
        obtain ⟨Z', p1, p2⟩ := c_pass (ok_yrs ok (by omega)) hZ
        obtain ⟨Z2, i⟩ := ih (k + 1) m Z' (by omega) (by omega) (by rw [fstAlk, h3, q]; rfl) p2
        refine ⟨Z2, ?_⟩
        rw [← i]
        simp (disch := omega) only [X8_yearThatSoundsSo_L13, sl, p1, li0, li1, li2, li3, li4, li5, li6, li7, li8, li11, li12, li16, li24, li25, li26, li31, li32, li36, li40, li48, li52, li58, li59, li60, li63, li64, li88, li96, li130, li192, li255, li2208, li2304, li9999, li9, li13, li14, li30, li35, li44, li45, li46, li47, li97, li98, li100, li101, li104, li105, li108, li110, li111, li112, li114, li117, li122, li999999, li1000000, li2147483647, cmp0, cmpl, cmpg, cmple, cmpge, nI_leI, nI_ltI, nI_eq, rL, rI, wL, wI, ob, aLet, nI_add, pk_mul, ↓reduceIte, if_true, if_false, eq_self, Nat.reduceEqDiff, Nat.reduceLeDiff, Nat.reduceLT, Nat.one_ne_zero, Nat.zero_ne_one, Nat.add_zero, Bool.false_eq_true, nI_neq, h]
      · rw [q] at sl
        have ff : ∀ r, fstAlk d n (k + 1 + r) = some k := fun r => by
          induction r with
          | zero =>
            show fstAlk d n (k + 1) = _
            rw [fstAlk, h3, q]
            rfl
          | succ r ih2 =>
            show fstAlk d n (k + 1 + r + 1) = _
            rw [fstAlk, ih2]
        have f2 := ff (n - (k + 1))
        rw [show k + 1 + (n - (k + 1)) = n by omega] at f2
        refine ⟨Z, ?_⟩
        rw [f2]
        simp (disch := omega) only [X8_yearThatSoundsSo_L13, sl, li0, li1, li2, li3, li4, li5, li6, li7, li8, li11, li12, li16, li24, li25, li26, li31, li32, li36, li40, li48, li52, li58, li59, li60, li63, li64, li88, li96, li130, li192, li255, li2208, li2304, li9999, li9, li13, li14, li30, li35, li44, li45, li46, li47, li97, li98, li100, li101, li104, li105, li108, li110, li111, li112, li114, li117, li122, li999999, li1000000, li2147483647, cmp0, cmpl, cmpg, cmple, cmpge, nI_leI, nI_ltI, nI_eq, rL, rI, wL, wI, ob, aLet, nI_add, pk_mul, ↓reduceIte, if_true, if_false, eq_self, Nat.reduceEqDiff, Nat.reduceLeDiff, Nat.reduceLT, Nat.one_ne_zero, Nat.zero_ne_one, Nat.add_zero, Bool.false_eq_true, nI_neq, h]
  obtain ⟨Z', l⟩ := key n 0 aFu (X2_become E S) (by omega) (by show _ < 100000; omega) rfl (c_become ok hS)
  refine ⟨Z', ?_⟩
  unfold X8_yearThatSoundsSo
  rw [show (0 : Int32) = nI 0 from rfl, l]
  cases fstAlk d n n with
  | none => rfl
  | some j => rfl
theorem r_later {d : LD} {m : Rec} (ok : okL d) (hf : RowOf d (m.2.1 0)) {v n : Nat} (hv : v < 5) (hn : n ≤ 60) : X9_later m (nI v) (nI n) = some (nI (itr (lG d) n v)) := by
  have := forUp (fun k j s => X9_later_L5 (nI n) m k s j) n (fun k => nI (itr (lG d) k v)) (some (nI (itr (lG d) n v))) (fun t k hk => ?_) (fun t => ?_) n 0 aFu (by omega) (by show _ < 100000; omega)
  · have l : X9_later_L5 (nI n) m aFu (nI v) 0 = some (nI (itr (lG d) n v)) := this
    unfold X9_later
    rw [l]
    rfl
  · have h : ¬ n ≤ k := by omega
    have hl := itr_lt (g := lG d) ok.2.2.2.2.2.2.1 k hv
    have e := hf.2.2.2.2.2.2.1 _ hl
    simp (disch := omega) only [X9_later_L5, e, li0, li1, li2, li3, li4, li5, li6, li7, li8, li11, li12, li16, li24, li25, li26, li31, li32, li36, li40, li48, li52, li58, li59, li60, li63, li64, li88, li96, li130, li192, li255, li2208, li2304, li9999, li9, li13, li14, li30, li35, li44, li45, li46, li47, li97, li98, li100, li101, li104, li105, li108, li110, li111, li112, li114, li117, li122, li999999, li1000000, li2147483647, cmp0, cmpl, cmpg, cmple, cmpge, nI_leI, nI_ltI, nI_eq, rL, rI, wL, wI, ob, aLet, nI_add, pk_mul, ↓reduceIte, if_true, if_false, eq_self, Nat.reduceEqDiff, Nat.reduceLeDiff, Nat.reduceLT, Nat.one_ne_zero, Nat.zero_ne_one, Nat.add_zero, Bool.false_eq_true, nI_neq, h]
    rfl
  · simp (disch := omega) only [X9_later_L5, li0, li1, li2, li3, li4, li5, li6, li7, li8, li11, li12, li16, li24, li25, li26, li31, li32, li36, li40, li48, li52, li58, li59, li60, li63, li64, li88, li96, li130, li192, li255, li2208, li2304, li9999, li9, li13, li14, li30, li35, li44, li45, li46, li47, li97, li98, li100, li101, li104, li105, li108, li110, li111, li112, li114, li117, li122, li999999, li1000000, li2147483647, cmp0, cmpl, cmpg, cmple, cmpge, nI_leI, nI_ltI, nI_eq, rL, rI, wL, wI, ob, aLet, nI_add, pk_mul, ↓reduceIte, if_true, if_false, eq_self, Nat.reduceEqDiff, Nat.reduceLeDiff, Nat.reduceLT, Nat.one_ne_zero, Nat.zero_ne_one, Nat.add_zero, Bool.false_eq_true, nI_neq, Nat.le_refl]
def alP (d : LD) (a b v : Nat) : Bool := decide (vc d (fun _ => true) v = 0) || decide (itr (lG d) a v = itr (lG d) b v)
def alQ (d : LD) (a b : Nat) : Nat → Bool
  | 0 => true
  | v + 1 => alQ d a b v && alP d a b v
theorem r_areAlike {d : LD} {m : Rec} (ok : okL d) (hf : RowOf d (m.2.1 0)) {a b : Nat} (ha : a ≤ 60) (hb : b ≤ 60) : X9_areAlike m (nI a) (nI b) = some (if alk d a b then nI 1 else nI 0) := by
  have := forUp (fun n j s => X9_areAlike_L5 m (nI a) (nI b) n s j) 5 (fun k => if alQ d a b k = true then nI 1 else nI 0) (some (if alQ d a b 5 = true then nI 1 else nI 0)) (fun n k hk => ?_) (fun n => ?_) 5 0 aFu rfl (by decide)
  · have l : X9_areAlike_L5 m (nI a) (nI b) aFu 1 0 = some (if alQ d a b 5 = true then nI 1 else nI 0) := this
    have e : alQ d a b 5 = alk d a b := by
      show (((((true && alP d a b 0) && alP d a b 1) && alP d a b 2) && alP d a b 3) && alP d a b 4) = _
      rw [Bool.true_and]
      rfl
    rw [e] at l
    unfold X9_areAlike
    rw [l, ob]
    cases alk d a b
    · exact if_pos (show vp_nar .boolean (nI 0) = nI 0 by decide)
    · exact if_pos (show vp_nar .boolean (nI 1) = nI 1 by decide)
  · have h : ¬ 5 ≤ k := by omega
    have hq : alQ d a b (k + 1) = (alQ d a b k && alP d a b k) := rfl
    have c := r_cellsAll ok hf (v := k) (by omega)
    rw [show (-1 : Int32) = -nI 1 from rfl] at c
    have la : vc d (fun _ => true) k ≤ 64 := cn_le _ _
    have l1 := r_later ok hf hk ha
    have l2 := r_later ok hf hk hb
    have i1 := itr_lt (g := lG d) ok.2.2.2.2.2.2.1 a hk
    have i2 := itr_lt (g := lG d) ok.2.2.2.2.2.2.1 b hk
    rw [hq]
    cases alQ d a b k
    · simp (disch := omega) only [X9_areAlike_L5, li0, li1, li2, li3, li4, li5, li6, li7, li8, li11, li12, li16, li24, li25, li26, li31, li32, li36, li40, li48, li52, li58, li59, li60, li63, li64, li88, li96, li130, li192, li255, li2208, li2304, li9999, li9, li13, li14, li30, li35, li44, li45, li46, li47, li97, li98, li100, li101, li104, li105, li108, li110, li111, li112, li114, li117, li122, li999999, li1000000, li2147483647, cmp0, cmpl, cmpg, cmple, cmpge, nI_leI, nI_ltI, nI_eq, rL, rI, wL, wI, ob, aLet, nI_add, pk_mul, ↓reduceIte, if_true, if_false, eq_self, Nat.reduceEqDiff, Nat.reduceLeDiff, Nat.reduceLT, Nat.one_ne_zero, Nat.zero_ne_one, Nat.add_zero, Bool.false_eq_true, nI_neq, h, Bool.false_and]
    · simp (disch := omega) only [X9_areAlike_L5, c, li0, li1, li2, li3, li4, li5, li6, li7, li8, li11, li12, li16, li24, li25, li26, li31, li32, li36, li40, li48, li52, li58, li59, li60, li63, li64, li88, li96, li130, li192, li255, li2208, li2304, li9999, li9, li13, li14, li30, li35, li44, li45, li46, li47, li97, li98, li100, li101, li104, li105, li108, li110, li111, li112, li114, li117, li122, li999999, li1000000, li2147483647, cmp0, cmpl, cmpg, cmple, cmpge, nI_leI, nI_ltI, nI_eq, rL, rI, wL, wI, ob, aLet, nI_add, pk_mul, ↓reduceIte, if_true, if_false, eq_self, Nat.reduceEqDiff, Nat.reduceLeDiff, Nat.reduceLT, Nat.one_ne_zero, Nat.zero_ne_one, Nat.add_zero, Bool.false_eq_true, nI_neq, h, Bool.true_and]
      by_cases z : vc d (fun _ => true) k = 0
      · have hp : alP d a b k = true := by
          show (decide (vc d (fun _ => true) k = 0) || _) = true
          rw [decide_eq_true z]
          rfl
        simp (disch := omega) only [z, hp, li0, li1, li2, li3, li4, li5, li6, li7, li8, li11, li12, li16, li24, li25, li26, li31, li32, li36, li40, li48, li52, li58, li59, li60, li63, li64, li88, li96, li130, li192, li255, li2208, li2304, li9999, li9, li13, li14, li30, li35, li44, li45, li46, li47, li97, li98, li100, li101, li104, li105, li108, li110, li111, li112, li114, li117, li122, li999999, li1000000, li2147483647, cmp0, cmpl, cmpg, cmple, cmpge, nI_leI, nI_ltI, nI_eq, rL, rI, wL, wI, ob, aLet, nI_add, pk_mul, ↓reduceIte, if_true, if_false, eq_self, Nat.reduceEqDiff, Nat.reduceLeDiff, Nat.reduceLT, Nat.one_ne_zero, Nat.zero_ne_one, Nat.add_zero, Bool.false_eq_true, nI_neq]
      · simp (disch := omega) only [z, l1, l2, li0, li1, li2, li3, li4, li5, li6, li7, li8, li11, li12, li16, li24, li25, li26, li31, li32, li36, li40, li48, li52, li58, li59, li60, li63, li64, li88, li96, li130, li192, li255, li2208, li2304, li9999, li9, li13, li14, li30, li35, li44, li45, li46, li47, li97, li98, li100, li101, li104, li105, li108, li110, li111, li112, li114, li117, li122, li999999, li1000000, li2147483647, cmp0, cmpl, cmpg, cmple, cmpge, nI_leI, nI_ltI, nI_eq, rL, rI, wL, wI, ob, aLet, nI_add, pk_mul, ↓reduceIte, if_true, if_false, eq_self, Nat.reduceEqDiff, Nat.reduceLeDiff, Nat.reduceLT, Nat.one_ne_zero, Nat.zero_ne_one, Nat.add_zero, Bool.false_eq_true, nI_neq]
        by_cases y : itr (lG d) a k = itr (lG d) b k
        · have hp : alP d a b k = true := by
            show (_ || decide (itr (lG d) a k = itr (lG d) b k)) = true
            rw [decide_eq_true y, Bool.or_true]
          simp (disch := omega) only [y, hp, li0, li1, li2, li3, li4, li5, li6, li7, li8, li11, li12, li16, li24, li25, li26, li31, li32, li36, li40, li48, li52, li58, li59, li60, li63, li64, li88, li96, li130, li192, li255, li2208, li2304, li9999, li9, li13, li14, li30, li35, li44, li45, li46, li47, li97, li98, li100, li101, li104, li105, li108, li110, li111, li112, li114, li117, li122, li999999, li1000000, li2147483647, cmp0, cmpl, cmpg, cmple, cmpge, nI_leI, nI_ltI, nI_eq, rL, rI, wL, wI, ob, aLet, nI_add, pk_mul, ↓reduceIte, if_true, if_false, eq_self, Nat.reduceEqDiff, Nat.reduceLeDiff, Nat.reduceLT, Nat.one_ne_zero, Nat.zero_ne_one, Nat.add_zero, Bool.false_eq_true, nI_neq]
        · have hp : alP d a b k = false := by
            show (decide (vc d (fun _ => true) k = 0) || decide (itr (lG d) a k = itr (lG d) b k)) = false
            rw [decide_eq_false y, decide_eq_false z]
            rfl
          simp (disch := omega) only [y, hp, li0, li1, li2, li3, li4, li5, li6, li7, li8, li11, li12, li16, li24, li25, li26, li31, li32, li36, li40, li48, li52, li58, li59, li60, li63, li64, li88, li96, li130, li192, li255, li2208, li2304, li9999, li9, li13, li14, li30, li35, li44, li45, li46, li47, li97, li98, li100, li101, li104, li105, li108, li110, li111, li112, li114, li117, li122, li999999, li1000000, li2147483647, cmp0, cmpl, cmpg, cmple, cmpge, nI_leI, nI_ltI, nI_eq, rL, rI, wL, wI, ob, aLet, nI_add, pk_mul, ↓reduceIte, if_true, if_false, eq_self, Nat.reduceEqDiff, Nat.reduceLeDiff, Nat.reduceLT, Nat.one_ne_zero, Nat.zero_ne_one, Nat.add_zero, Bool.false_eq_true, nI_neq]
  · simp (disch := omega) only [X9_areAlike_L5, li0, li1, li2, li3, li4, li5, li6, li7, li8, li11, li12, li16, li24, li25, li26, li31, li32, li36, li40, li48, li52, li58, li59, li60, li63, li64, li88, li96, li130, li192, li255, li2208, li2304, li9999, li9, li13, li14, li30, li35, li44, li45, li46, li47, li97, li98, li100, li101, li104, li105, li108, li110, li111, li112, li114, li117, li122, li999999, li1000000, li2147483647, cmp0, cmpl, cmpg, cmple, cmpge, nI_leI, nI_ltI, nI_eq, rL, rI, wL, wI, ob, aLet, nI_add, pk_mul, ↓reduceIte, if_true, if_false, eq_self, Nat.reduceEqDiff, Nat.reduceLeDiff, Nat.reduceLT, Nat.one_ne_zero, Nat.zero_ne_one, Nat.add_zero, Bool.false_eq_true, nI_neq, Nat.le_refl]
def optI (o : Option Nat) : Int32 := match o with
  | some j => nI j
  | none => -nI 4
theorem r_round39 {d : LD} {m : Rec} (ok : okL d) (hf : RowOf d (m.2.1 0)) {n : Nat} (hn : n ≤ 60) : X9_round_L39 (nI n) m aFu (-nI 4) (nI 0) = some (optI (fstAlk d n n)) := by
  have key : ∀ e k t, k + e = n → e < t → X9_round_L39 (nI n) m t (optI (fstAlk d n k)) (nI k) = some (optI (fstAlk d n n)) := by
    intro e
    induction e with
    | zero =>
      intro k t h1 h2
      obtain ⟨t, rfl⟩ : ∃ z, t = z + 1 := ⟨t - 1, by omega⟩
      obtain rfl : k = n := h1
      simp (disch := omega) only [X9_round_L39, li0, li1, li2, li3, li4, li5, li6, li7, li8, li11, li12, li16, li24, li25, li26, li31, li32, li36, li40, li48, li52, li58, li59, li60, li63, li64, li88, li96, li130, li192, li255, li2208, li2304, li9999, li9, li13, li14, li30, li35, li44, li45, li46, li47, li97, li98, li100, li101, li104, li105, li108, li110, li111, li112, li114, li117, li122, li999999, li1000000, li2147483647, cmp0, cmpl, cmpg, cmple, cmpge, nI_leI, nI_ltI, nI_eq, rL, rI, wL, wI, ob, aLet, nI_add, pk_mul, ↓reduceIte, if_true, if_false, eq_self, Nat.reduceEqDiff, Nat.reduceLeDiff, Nat.reduceLT, Nat.one_ne_zero, Nat.zero_ne_one, Nat.add_zero, Bool.false_eq_true, nI_neq, Nat.le_refl]
    | succ e ih =>
      intro k t h1 h2
      obtain ⟨t, rfl⟩ : ∃ z, t = z + 1 := ⟨t - 1, by omega⟩
      have h : ¬ n ≤ k := by omega
      have i := ih (k + 1) t (by omega) (by omega)
      cases q : fstAlk d n k with
      | some j =>
        have jl := fa_lt' q
        have ff : ∀ r, fstAlk d n (k + r) = some j := fun r => by
          induction r with
          | zero => exact q
          | succ r ih2 =>
            show fstAlk d n (k + r + 1) = _
            rw [fstAlk, ih2]
        have f2 := ff (n - k)
        rw [show k + (n - k) = n by omega] at f2
        rw [f2]
        simp (disch := omega) only [X9_round_L39, optI, li0, li1, li2, li3, li4, li5, li6, li7, li8, li11, li12, li16, li24, li25, li26, li31, li32, li36, li40, li48, li52, li58, li59, li60, li63, li64, li88, li96, li130, li192, li255, li2208, li2304, li9999, li9, li13, li14, li30, li35, li44, li45, li46, li47, li97, li98, li100, li101, li104, li105, li108, li110, li111, li112, li114, li117, li122, li999999, li1000000, li2147483647, cmp0, cmpl, cmpg, cmple, cmpge, nI_leI, nI_ltI, nI_eq, rL, rI, wL, wI, ob, aLet, nI_add, pk_mul, ↓reduceIte, if_true, if_false, eq_self, Nat.reduceEqDiff, Nat.reduceLeDiff, Nat.reduceLT, Nat.one_ne_zero, Nat.zero_ne_one, Nat.add_zero, Bool.false_eq_true, nI_neq, h]
      | none =>
        have al := r_areAlike ok hf (a := k) (b := n) (by omega) hn
        rw [fstAlk, q] at i
        dsimp only at i
        cases y : alk d k n
        · rw [y] at al i
          rw [← i]
          simp (disch := omega) only [X9_round_L39, optI, al, li0, li1, li2, li3, li4, li5, li6, li7, li8, li11, li12, li16, li24, li25, li26, li31, li32, li36, li40, li48, li52, li58, li59, li60, li63, li64, li88, li96, li130, li192, li255, li2208, li2304, li9999, li9, li13, li14, li30, li35, li44, li45, li46, li47, li97, li98, li100, li101, li104, li105, li108, li110, li111, li112, li114, li117, li122, li999999, li1000000, li2147483647, cmp0, cmpl, cmpg, cmple, cmpge, nI_leI, nI_ltI, nI_eq, rL, rI, wL, wI, ob, aLet, nI_add, pk_mul, ↓reduceIte, if_true, if_false, eq_self, Nat.reduceEqDiff, Nat.reduceLeDiff, Nat.reduceLT, Nat.one_ne_zero, Nat.zero_ne_one, Nat.add_zero, Bool.false_eq_true, nI_neq, h]
        · rw [y] at al i
          rw [← i]
          simp (disch := omega) only [X9_round_L39, optI, al, li0, li1, li2, li3, li4, li5, li6, li7, li8, li11, li12, li16, li24, li25, li26, li31, li32, li36, li40, li48, li52, li58, li59, li60, li63, li64, li88, li96, li130, li192, li255, li2208, li2304, li9999, li9, li13, li14, li30, li35, li44, li45, li46, li47, li97, li98, li100, li101, li104, li105, li108, li110, li111, li112, li114, li117, li122, li999999, li1000000, li2147483647, cmp0, cmpl, cmpg, cmple, cmpge, nI_leI, nI_ltI, nI_eq, rL, rI, wL, wI, ob, aLet, nI_add, pk_mul, ↓reduceIte, if_true, if_false, eq_self, Nat.reduceEqDiff, Nat.reduceLeDiff, Nat.reduceLT, Nat.one_ne_zero, Nat.zero_ne_one, Nat.add_zero, Bool.false_eq_true, nI_neq, h]
  exact key n 0 aFu (by omega) (by show _ < 100000; omega)
theorem some_alk {d : LD} (ok : okL d) : ∃ n, 1 ≤ n ∧ n ≤ 10 ∧ fstAlk d n n ≠ none := by
  obtain ⟨l, h1, h2, h3⟩ := comes_g (g := lG d) ok.2.2.2.2.2.2.1
  have ha : alk d 4 (4 + l) = true := by
    unfold alk
    rw [all5_iff]
    intro v hv
    rw [Bool.or_eq_true, decide_eq_true_eq, decide_eq_true_eq]
    exact Or.inr (h3 v hv).symm
  refine ⟨4 + l, by omega, by omega, fun q => ?_⟩
  have none_all : ∀ k, fstAlk d (4 + l) k = none → ∀ j, j < k → alk d j (4 + l) = false := fun k => by
    induction k with
    | zero => exact fun _ j hj => absurd hj (by omega)
    | succ k ih =>
      intro h j hj
      rw [fstAlk] at h
      cases y : fstAlk d (4 + l) k with
      | some i => rw [y] at h; cases h
      | none =>
        rw [y] at h
        dsimp only at h
        by_cases z : j = k
        · subst z
          cases w : alk d j (4 + l)
          · rfl
          · rw [w] at h; cases h
        · exact ih y j (by omega)
  have := none_all _ q 4 (by omega)
  rw [ha] at this
  cases this
theorem q_round {d : LD} {S T E m : Rec} (ok : okL d) (hy : lY d ≤ 9999) (hS : LandOf d S) (hf : RowOf d (m.2.1 0)) (x1 : Int32) : ∃ r T' E', X8_round S T E x1 = some (r, T', E') ∧ X9_round m x1 = some r := by
  rcases rg_0_1 x1 with ⟨a, b, -⟩ | ⟨w, -, hw, rfl, a, b⟩
  · refine ⟨-nI 1, T, E, ?_, ?_⟩
    · simp (disch := omega) only [X8_round, a, li0, li1, li2, li3, li4, li5, li6, li7, li8, li11, li12, li16, li24, li25, li26, li31, li32, li36, li40, li48, li52, li58, li59, li60, li63, li64, li88, li96, li130, li192, li255, li2208, li2304, li9999, li9, li13, li14, li30, li35, li44, li45, li46, li47, li97, li98, li100, li101, li104, li105, li108, li110, li111, li112, li114, li117, li122, li999999, li1000000, li2147483647, cmp0, cmpl, cmpg, cmple, cmpge, nI_leI, nI_ltI, nI_eq, rL, rI, wL, wI, ob, aLet, nI_add, pk_mul, ↓reduceIte, if_true, if_false, eq_self, Nat.reduceEqDiff, Nat.reduceLeDiff, Nat.reduceLT, Nat.one_ne_zero, Nat.zero_ne_one, Nat.add_zero, Bool.false_eq_true, nI_neq]
    · simp (disch := omega) only [X9_round, b, li0, li1, li2, li3, li4, li5, li6, li7, li8, li11, li12, li16, li24, li25, li26, li31, li32, li36, li40, li48, li52, li58, li59, li60, li63, li64, li88, li96, li130, li192, li255, li2208, li2304, li9999, li9, li13, li14, li30, li35, li44, li45, li46, li47, li97, li98, li100, li101, li104, li105, li108, li110, li111, li112, li114, li117, li122, li999999, li1000000, li2147483647, cmp0, cmpl, cmpg, cmple, cmpge, nI_leI, nI_ltI, nI_eq, rL, rI, wL, wI, ob, aLet, nI_add, pk_mul, ↓reduceIte, if_true, if_false, eq_self, Nat.reduceEqDiff, Nat.reduceLeDiff, Nat.reduceLT, Nat.one_ne_zero, Nat.zero_ne_one, Nat.add_zero, Bool.false_eq_true, nI_neq]
  have st := c_stands ok hS
  have th := r_there ok hf
  by_cases h0 : lH d = 0
  · rw [if_pos h0] at st th
    refine ⟨-nI 2, T, E, ?_, ?_⟩
    · simp (disch := omega) only [X8_round, a, st, li0, li1, li2, li3, li4, li5, li6, li7, li8, li11, li12, li16, li24, li25, li26, li31, li32, li36, li40, li48, li52, li58, li59, li60, li63, li64, li88, li96, li130, li192, li255, li2208, li2304, li9999, li9, li13, li14, li30, li35, li44, li45, li46, li47, li97, li98, li100, li101, li104, li105, li108, li110, li111, li112, li114, li117, li122, li999999, li1000000, li2147483647, cmp0, cmpl, cmpg, cmple, cmpge, nI_leI, nI_ltI, nI_eq, rL, rI, wL, wI, ob, aLet, nI_add, pk_mul, ↓reduceIte, if_true, if_false, eq_self, Nat.reduceEqDiff, Nat.reduceLeDiff, Nat.reduceLT, Nat.one_ne_zero, Nat.zero_ne_one, Nat.add_zero, Bool.false_eq_true, nI_neq]
    · simp (disch := omega) only [X9_round, b, th, li0, li1, li2, li3, li4, li5, li6, li7, li8, li11, li12, li16, li24, li25, li26, li31, li32, li36, li40, li48, li52, li58, li59, li60, li63, li64, li88, li96, li130, li192, li255, li2208, li2304, li9999, li9, li13, li14, li30, li35, li44, li45, li46, li47, li97, li98, li100, li101, li104, li105, li108, li110, li111, li112, li114, li117, li122, li999999, li1000000, li2147483647, cmp0, cmpl, cmpg, cmple, cmpge, nI_leI, nI_ltI, nI_eq, rL, rI, wL, wI, ob, aLet, nI_add, pk_mul, ↓reduceIte, if_true, if_false, eq_self, Nat.reduceEqDiff, Nat.reduceLeDiff, Nat.reduceLT, Nat.one_ne_zero, Nat.zero_ne_one, Nat.add_zero, Bool.false_eq_true, nI_neq]
  rw [if_neg h0] at st th
  obtain ⟨n0, p1, p2, p3⟩ := some_alk ok
  obtain ⟨n, ⟨n1, hn⟩, least⟩ := pk_least (fun n => 1 ≤ n ∧ fstAlk d n n ≠ none) ⟨n0, p1, p3⟩
  have nle : n ≤ 10 := by
    rcases Nat.lt_or_ge 10 n with q | q
    · exact absurd ⟨p1, p3⟩ (least n0 (by omega))
    · exact q
  obtain ⟨j, hj⟩ : ∃ j, fstAlk d n n = some j := by
    cases q : fstAlk d n n with
    | none => exact absurd q hn
    | some j => exact ⟨j, rfl⟩
  have jl := fa_lt' hj
  have nope : ∀ k, 1 ≤ k → k < n → fstAlk d k k = none := fun k h1 h2 => by
    cases q : fstAlk d k k with
    | none => rfl
    | some i => exact absurd ⟨h1, by rw [q]; exact fun z => by cases z⟩ (least k h2)
  have cl : ∀ e k t Z F, k + e = n → e < t → 1 ≤ k → LandOf (yrs d (k - 1)) Z → ∃ Z' F', X8_round_L37 S (nI w) t (nI k) Z F = some (.inl (if w = 0 then nI n else nI (n - j), Z', F')) := by
    intro e
    induction e with
    | zero =>
      intro k t Z F h1 h2 h3 hZ
      obtain ⟨t, rfl⟩ : ∃ z, t = z + 1 := ⟨t - 1, by omega⟩
      obtain rfl : k = n := h1
      obtain ⟨Z', q1, q2⟩ := c_pass (ok_yrs ok (by omega)) hZ
      have q2 : LandOf (yrs d (k - 1 + 1)) Z' := q2
      rw [show k - 1 + 1 = k by omega] at q2
      obtain ⟨F', y⟩ := c_yearThat (E := F) ok hy hS (by omega) q2
      rw [hj] at y
      have y : X8_yearThatSoundsSo F S Z' (nI k) = some (nI j, F') := y
      have h : ¬ 60 < k := by omega
      have j0 : ¬ j < 0 := by omega
      refine ⟨Z', F', ?_⟩
      rcases (show w = 0 ∨ w = 1 by omega) with rfl | rfl
      · simp (disch := omega) only [X8_round_L37, q1, y, j0, li0, li1, li2, li3, li4, li5, li6, li7, li8, li11, li12, li16, li24, li25, li26, li31, li32, li36, li40, li48, li52, li58, li59, li60, li63, li64, li88, li96, li130, li192, li255, li2208, li2304, li9999, li9, li13, li14, li30, li35, li44, li45, li46, li47, li97, li98, li100, li101, li104, li105, li108, li110, li111, li112, li114, li117, li122, li999999, li1000000, li2147483647, cmp0, cmpl, cmpg, cmple, cmpge, nI_leI, nI_ltI, nI_eq, rL, rI, wL, wI, ob, aLet, nI_add, pk_mul, ↓reduceIte, if_true, if_false, eq_self, Nat.reduceEqDiff, Nat.reduceLeDiff, Nat.reduceLT, Nat.one_ne_zero, Nat.zero_ne_one, Nat.add_zero, Bool.false_eq_true, nI_neq, h]
      · simp (disch := omega) only [X8_round_L37, q1, y, j0, pk_sub, li0, li1, li2, li3, li4, li5, li6, li7, li8, li11, li12, li16, li24, li25, li26, li31, li32, li36, li40, li48, li52, li58, li59, li60, li63, li64, li88, li96, li130, li192, li255, li2208, li2304, li9999, li9, li13, li14, li30, li35, li44, li45, li46, li47, li97, li98, li100, li101, li104, li105, li108, li110, li111, li112, li114, li117, li122, li999999, li1000000, li2147483647, cmp0, cmpl, cmpg, cmple, cmpge, nI_leI, nI_ltI, nI_eq, rL, rI, wL, wI, ob, aLet, nI_add, pk_mul, ↓reduceIte, if_true, if_false, eq_self, Nat.reduceEqDiff, Nat.reduceLeDiff, Nat.reduceLT, Nat.one_ne_zero, Nat.zero_ne_one, Nat.add_zero, Bool.false_eq_true, nI_neq, h]
    | succ e ih =>
      intro k t Z F h1 h2 h3 hZ
      obtain ⟨t, rfl⟩ : ∃ z, t = z + 1 := ⟨t - 1, by omega⟩
      obtain ⟨Z', q1, q2⟩ := c_pass (ok_yrs ok (by omega)) hZ
      have q2 : LandOf (yrs d (k - 1 + 1)) Z' := q2
      rw [show k - 1 + 1 = k by omega] at q2
      obtain ⟨F', y⟩ := c_yearThat (E := F) ok hy hS (by omega) q2
      rw [nope k h3 (by omega)] at y
      have y : X8_yearThatSoundsSo F S Z' (nI k) = some (-nI 1, F') := y
      have h : ¬ 60 < k := by omega
      obtain ⟨Z2, F2, i⟩ := ih (k + 1) t Z' F' (by omega) (by omega) (by omega) (by rw [Nat.add_sub_cancel]; exact q2)
      refine ⟨Z2, F2, ?_⟩
      rw [← i]
      simp (disch := omega) only [X8_round_L37, q1, y, neg2, li0, li1, li2, li3, li4, li5, li6, li7, li8, li11, li12, li16, li24, li25, li26, li31, li32, li36, li40, li48, li52, li58, li59, li60, li63, li64, li88, li96, li130, li192, li255, li2208, li2304, li9999, li9, li13, li14, li30, li35, li44, li45, li46, li47, li97, li98, li100, li101, li104, li105, li108, li110, li111, li112, li114, li117, li122, li999999, li1000000, li2147483647, cmp0, cmpl, cmpg, cmple, cmpge, nI_leI, nI_ltI, nI_eq, rL, rI, wL, wI, ob, aLet, nI_add, pk_mul, ↓reduceIte, if_true, if_false, eq_self, Nat.reduceEqDiff, Nat.reduceLeDiff, Nat.reduceLT, Nat.one_ne_zero, Nat.zero_ne_one, Nat.add_zero, Bool.false_eq_true, nI_neq, h]
  have rl : ∀ e k t, k + e = n → e < t → X9_round_L27 m (t + 1) (nI k) (optI (if k = n then some j else none)) = some (nI n, nI j) := by
    intro e
    induction e with
    | zero =>
      intro k t h1 h2
      obtain rfl : k = n := h1
      rw [if_pos rfl]
      simp (disch := omega) only [X9_round_L27, optI, li0, li1, li2, li3, li4, li5, li6, li7, li8, li11, li12, li16, li24, li25, li26, li31, li32, li36, li40, li48, li52, li58, li59, li60, li63, li64, li88, li96, li130, li192, li255, li2208, li2304, li9999, li9, li13, li14, li30, li35, li44, li45, li46, li47, li97, li98, li100, li101, li104, li105, li108, li110, li111, li112, li114, li117, li122, li999999, li1000000, li2147483647, cmp0, cmpl, cmpg, cmple, cmpge, nI_leI, nI_ltI, nI_eq, rL, rI, wL, wI, ob, aLet, nI_add, pk_mul, ↓reduceIte, if_true, if_false, eq_self, Nat.reduceEqDiff, Nat.reduceLeDiff, Nat.reduceLT, Nat.one_ne_zero, Nat.zero_ne_one, Nat.add_zero, Bool.false_eq_true, nI_neq]
    | succ e ih =>
      intro k t h1 h2
      obtain ⟨t, rfl⟩ : ∃ z, t = z + 1 := ⟨t - 1, by omega⟩
      have h : ¬ k = n := by omega
      have l39 := r_round39 ok hf (n := k + 1) (by omega)
      have i := ih (k + 1) t (by omega) (by omega)
      have e : fstAlk d (k + 1) (k + 1) = if k + 1 = n then some j else none := by
        by_cases y : k + 1 = n
        · rw [if_pos y, y, hj]
        · rw [if_neg y]
          exact nope (k + 1) (by omega) (by omega)
      rw [e] at l39
      rw [if_neg h, ← i]
      simp (disch := omega) only [X9_round_L27, optI, li0, li1, li2, li3, li4, li5, li6, li7, li8, li11, li12, li16, li24, li25, li26, li31, li32, li36, li40, li48, li52, li58, li59, li60, li63, li64, li88, li96, li130, li192, li255, li2208, li2304, li9999, li9, li13, li14, li30, li35, li44, li45, li46, li47, li97, li98, li100, li101, li104, li105, li108, li110, li111, li112, li114, li117, li122, li999999, li1000000, li2147483647, cmp0, cmpl, cmpg, cmple, cmpge, nI_leI, nI_ltI, nI_eq, rL, rI, wL, wI, ob, aLet, nI_add, pk_mul, ↓reduceIte, if_true, if_false, eq_self, Nat.reduceEqDiff, Nat.reduceLeDiff, Nat.reduceLT, Nat.one_ne_zero, Nat.zero_ne_one, Nat.add_zero, Bool.false_eq_true, nI_neq]
      rw [l39, ob]
      rfl
  obtain ⟨Z, F, c1⟩ := cl (n - 1) 1 aFu (X2_become T S) E (by omega) (by show _ < 100000; omega) (Nat.le_refl 1) (c_become ok hS)
  have r1 := rl n 0 99999 (by omega) (by omega)
  rw [if_neg (by omega)] at r1
  have r1 : X9_round_L27 m aFu (nI 0) (-nI 4) = some (nI n, nI j) := r1
  refine ⟨if w = 0 then nI n else nI (n - j), Z, F, ?_, ?_⟩
  · simp (disch := omega) only [X8_round, a, st, c1, aCs, li0, li1, li2, li3, li4, li5, li6, li7, li8, li11, li12, li16, li24, li25, li26, li31, li32, li36, li40, li48, li52, li58, li59, li60, li63, li64, li88, li96, li130, li192, li255, li2208, li2304, li9999, li9, li13, li14, li30, li35, li44, li45, li46, li47, li97, li98, li100, li101, li104, li105, li108, li110, li111, li112, li114, li117, li122, li999999, li1000000, li2147483647, cmp0, cmpl, cmpg, cmple, cmpge, nI_leI, nI_ltI, nI_eq, rL, rI, wL, wI, ob, aLet, nI_add, pk_mul, ↓reduceIte, if_true, if_false, eq_self, Nat.reduceEqDiff, Nat.reduceLeDiff, Nat.reduceLT, Nat.one_ne_zero, Nat.zero_ne_one, Nat.add_zero, Bool.false_eq_true, nI_neq]
  · rcases (show w = 0 ∨ w = 1 by omega) with rfl | rfl
    · simp (disch := omega) only [X9_round, b, th, r1, li0, li1, li2, li3, li4, li5, li6, li7, li8, li11, li12, li16, li24, li25, li26, li31, li32, li36, li40, li48, li52, li58, li59, li60, li63, li64, li88, li96, li130, li192, li255, li2208, li2304, li9999, li9, li13, li14, li30, li35, li44, li45, li46, li47, li97, li98, li100, li101, li104, li105, li108, li110, li111, li112, li114, li117, li122, li999999, li1000000, li2147483647, cmp0, cmpl, cmpg, cmple, cmpge, nI_leI, nI_ltI, nI_eq, rL, rI, wL, wI, ob, aLet, nI_add, pk_mul, ↓reduceIte, if_true, if_false, eq_self, Nat.reduceEqDiff, Nat.reduceLeDiff, Nat.reduceLT, Nat.one_ne_zero, Nat.zero_ne_one, Nat.add_zero, Bool.false_eq_true, nI_neq]
    · simp (disch := omega) only [X9_round, b, th, r1, pk_sub, li0, li1, li2, li3, li4, li5, li6, li7, li8, li11, li12, li16, li24, li25, li26, li31, li32, li36, li40, li48, li52, li58, li59, li60, li63, li64, li88, li96, li130, li192, li255, li2208, li2304, li9999, li9, li13, li14, li30, li35, li44, li45, li46, li47, li97, li98, li100, li101, li104, li105, li108, li110, li111, li112, li114, li117, li122, li999999, li1000000, li2147483647, cmp0, cmpl, cmpg, cmple, cmpge, nI_leI, nI_ltI, nI_eq, rL, rI, wL, wI, ob, aLet, nI_add, pk_mul, ↓reduceIte, if_true, if_false, eq_self, Nat.reduceEqDiff, Nat.reduceLeDiff, Nat.reduceLT, Nat.one_ne_zero, Nat.zero_ne_one, Nat.add_zero, Bool.false_eq_true, nI_neq]
theorem eq_round {c : CSt} {m : Rec} (hI : Inv c m) (x1 : Int32) : ∃ (r : Int32) (c1 : CSt) (m1 : Rec), stC_round c x1 = some (r, c1) ∧ stM_round m x1 = some (r, m1) ∧ Inv c1 m1 := by
  obtain ⟨d, ok, hy, hS, hf⟩ := hI.1
  obtain ⟨r, T', E', a, b⟩ := q_round (T := c_trial c) (E := c_earlier c) ok hy hS hf x1
  exact ⟨r, _, m, by unfold stC_round; rw [a]; rfl, by unfold stM_round; rw [b]; rfl, inv_fr hI (Fr_refl m) T' E' (c_sets c) (c_survey c) (c_marriages c) (c_finder c)⟩
