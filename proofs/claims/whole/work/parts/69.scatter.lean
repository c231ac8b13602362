/-! scattered: labels of the reference -/
/-- joined by cells beside one another: what every f that is alike on neighbours can't tell apart -/
def nbr (P : Nat → Bool) (f : Nat → Nat) : Prop := (∀ p, P p = true → P (p + 1) = true → p % 6 < 5 → f p = f (p + 1)) ∧ ∀ p, P p = true → P (p + 6) = true → f p = f (p + 6)
def conn (P : Nat → Bool) (p q : Nat) : Prop := ∀ f : Nat → Nat, nbr P f → f p = f q
theorem conn_trans {P : Nat → Bool} {a b c : Nat} (h : conn P a b) (g : conn P b c) : conn P a c := fun f hf => (h f hf).trans (g f hf)
theorem conn_symm {P : Nat → Bool} {a b : Nat} (h : conn P a b) : conn P b a := fun f hf => (h f hf).symm
def lbl (P : Nat → Bool) (l : Nat → Nat) : Prop := ∀ p, P p = true → P (l p) = true ∧ l p ≤ p ∧ conn P p (l p)
def enl (P : Nat → Bool) (l : Nat → Nat) (p : Nat) : Int32 := if P p = true then nI (l p) else -nI 4
def arr (P : Nat → Bool) (l : Nat → Nat) (Z : Rec) : Prop := ∀ p, p < 36 → Z.2.1 15 p = enl P l p
def set2 (l : Nat → Nat) (p q : Nat) : Nat → Nat := fun x => if x = p ∨ x = q then min (l p) (l q) else l x
theorem lbl_set {P : Nat → Bool} {l : Nat → Nat} (h : lbl P l) {p q : Nat} (hp : P p = true) (hq : P q = true) (hpq : p ≤ q) (hc : conn P p q) : lbl P (set2 l p q) := fun x hx => by
  obtain ⟨a1, a2, a3⟩ := h p hp
  obtain ⟨b1, b2, b3⟩ := h q hq
  unfold set2
  by_cases z : x = p ∨ x = q
  · rw [if_pos z]
    have cx : conn P x p := by
      rcases z with rfl | rfl
      · exact fun f _ => rfl
      · exact conn_symm hc
    rcases Nat.le_total (l p) (l q) with w | w
    · rw [Nat.min_eq_left w]
      exact ⟨a1, by omega, conn_trans cx a3⟩
    · rw [Nat.min_eq_right w]
      exact ⟨b1, by omega, conn_trans (conn_trans cx hc) b3⟩
  · rw [if_neg z]
    exact h x hx
def pot (P : Nat → Bool) (l : Nat → Nat) : Nat := sm l P 36
theorem sm_two {P : Nat → Bool} {p q : Nat} (hp : P p = true) (hq : P q = true) (hpq : p ≠ q) (h1 : p < 36) (h2 : q < 36) (g : Nat → Nat) : sm g P 36 = sm g (fun i => (P i && !decide (i = p)) && !decide (i = q)) 36 + g p + g q := by
  have a := sm_del (g := g) hp (n := 36)
  rw [if_pos h1] at a
  have e : (fun i => P i && !decide (i = p)) q = true := by
    show (P q && !decide (q = p)) = true
    rw [hq, decide_eq_false (fun z => hpq z.symm)]
    rfl
  have b := sm_del (P := fun i => P i && !decide (i = p)) (g := g) e (n := 36)
  rw [if_pos h2] at b
  omega
theorem pot_set {P : Nat → Bool} {l : Nat → Nat} {p q : Nat} (hp : P p = true) (hq : P q = true) (hpq : p ≠ q) (h1 : p < 36) (h2 : q < 36) (hne : l p ≠ l q) : pot P (set2 l p q) < pot P l := by
  unfold pot
  rw [sm_two hp hq hpq h1 h2 l, sm_two hp hq hpq h1 h2 (set2 l p q)]
  have e : sm (set2 l p q) (fun i => (P i && !decide (i = p)) && !decide (i = q)) 36 = sm l (fun i => (P i && !decide (i = p)) && !decide (i = q)) 36 := sm_congG (fun k _ hk => by
    simp only [Bool.and_eq_true, Bool.not_eq_true', decide_eq_false_iff_not] at hk
    exact if_neg (fun z => by
      rcases z with z | z
      · exact hk.1.2 z
      · exact hk.2 z))
  have e1 : set2 l p q p = min (l p) (l q) := if_pos (Or.inl rfl)
  have e2 : set2 l p q q = min (l p) (l q) := if_pos (Or.inr rfl)
  rw [e, e1, e2]
  omega
theorem arrS {P : Nat → Bool} {l : Nat → Nat} {Z : Rec} (h : arr P l Z) {p q : Nat} (hp : P p = true) (hq : P q = true) (w : Nat → Int32) (hw : ∀ x, w x = if x = q then nI (min (l p) (l q)) else if x = p then nI (min (l p) (l q)) else Z.2.1 15 x) : arr P (set2 l p q) (sA Z 15 w) := fun x hx => by
  show w x = _
  rw [hw x]
  unfold enl set2
  by_cases y : x = q
  · rw [if_pos y, y, if_pos hq, if_pos (Or.inr rfl)]
  · rw [if_neg y]
    by_cases z : x = p
    · rw [if_pos z, z, if_pos hp, if_pos (Or.inl rfl)]
    · rw [if_neg z, h x hx]
      unfold enl
      rw [if_neg (show ¬ (x = p ∨ x = q) from fun u => by
        rcases u with u | u
        · exact z u
        · exact y u)]
theorem enl_no {P : Nat → Bool} {l : Nat → Nat} {p : Nat} (h : P p = false) : enl P l p = -nI 4 := if_neg (by rw [h]; decide)
theorem enl_yes {P : Nat → Bool} {l : Nat → Nat} {p : Nat} (h : P p = true) : enl P l p = nI (l p) := if_pos h
theorem n4l {n : Nat} (h : n < 2 ^ 31) : ¬ nI n = (-4 : Int32) := fun q => by
  rw [show (-4 : Int32) = -nI 4 from rfl, nI_neq (by decide) (by decide) h] at q
  exact q
theorem n4ne {n : Nat} (h : n < 2 ^ 31) : ¬ nI n = -nI 4 := fun q => by
  rw [nI_neq (by decide) (by decide) h] at q
  exact q
/-- what a turn makes of the labels: nothing, or two alike that were not -/
def turned (P : Nat → Bool) (l l' : Nat → Nat) (f f' : Int32) (ok : Prop) (p q : Nat) : Prop := (f' = f ∧ l' = l ∧ (ok → P p = true → P q = true → l p = l q)) ∨ (f' = nI 1 ∧ ok ∧ P p = true ∧ P q = true ∧ l p ≠ l q ∧ l' = set2 l p q)
theorem sc_below {P : Nat → Bool} {l : Nat → Nat} {m Z : Rec} (hl : lbl P l) (hF : Fr m Z) (h : arr P l Z) {p : Nat} (hp : p < 36) (k : Int32 → Int32 → Rec → Option (Int32 × Rec)) (f : Int32) : ∃ f' Z' l', X9_scattered_J219 (nI p) (if p < 30 then enl P l (p + 6) else -nI 4) k f Z = k f' (nI (p + 1)) Z' ∧ Fr m Z' ∧ arr P l' Z' ∧ turned P l l' f f' (p < 30) p (p + 6) := by
  have hz := h p hp
  by_cases p30 : p < 30
  · rw [if_pos p30]
    cases q : P p
    · rw [enl_no q] at hz
      refine ⟨f, Z, l, ?_, hF, h, Or.inl ⟨rfl, rfl, fun _ a => by rw [q] at a; cases a⟩⟩
      simp (disch := omega) only [X9_scattered_J219, hz, li0, li1, li2, li3, li4, li5, li6, li7, li8, li11, li12, li16, li24, li25, li26, li31, li32, li36, li40, li48, li52, li58, li59, li60, li63, li64, li88, li96, li130, li192, li255, li2208, li2304, li9999, li9, li13, li14, li30, li35, li44, li45, li46, li47, li97, li98, li100, li101, li104, li105, li108, li110, li111, li112, li114, li117, li122, li999999, li1000000, li2147483647, cmp0, cmpl, cmpg, cmple, cmpge, nI_leI, nI_ltI, nI_eq, rL, rI, wL, wI, ob, aLet, nI_add, pk_mul, ↓reduceIte, if_true, if_false, eq_self, Nat.reduceEqDiff, Nat.reduceLeDiff, Nat.reduceLT, Nat.one_ne_zero, Nat.zero_ne_one, Nat.add_zero, Bool.false_eq_true, nI_neq]
    · rw [enl_yes q] at hz
      have lp := (hl p q).2.1
      cases q2 : P (p + 6)
      · rw [enl_no q2]
        refine ⟨f, Z, l, ?_, hF, h, Or.inl ⟨rfl, rfl, fun _ _ a => by rw [q2] at a; cases a⟩⟩
        simp (disch := omega) only [X9_scattered_J219, hz, li0, li1, li2, li3, li4, li5, li6, li7, li8, li11, li12, li16, li24, li25, li26, li31, li32, li36, li40, li48, li52, li58, li59, li60, li63, li64, li88, li96, li130, li192, li255, li2208, li2304, li9999, li9, li13, li14, li30, li35, li44, li45, li46, li47, li97, li98, li100, li101, li104, li105, li108, li110, li111, li112, li114, li117, li122, li999999, li1000000, li2147483647, cmp0, cmpl, cmpg, cmple, cmpge, nI_leI, nI_ltI, nI_eq, rL, rI, wL, wI, ob, aLet, nI_add, pk_mul, ↓reduceIte, if_true, if_false, eq_self, Nat.reduceEqDiff, Nat.reduceLeDiff, Nat.reduceLT, Nat.one_ne_zero, Nat.zero_ne_one, Nat.add_zero, Bool.false_eq_true, nI_neq]
      · rw [enl_yes q2]
        have lq := (hl (p + 6) q2).2.1
        by_cases e : l p = l (p + 6)
        · refine ⟨f, Z, l, ?_, hF, h, Or.inl ⟨rfl, rfl, fun _ _ _ => e⟩⟩
          rw [e] at hz
          simp (disch := omega) only [X9_scattered_J219, hz, li0, li1, li2, li3, li4, li5, li6, li7, li8, li11, li12, li16, li24, li25, li26, li31, li32, li36, li40, li48, li52, li58, li59, li60, li63, li64, li88, li96, li130, li192, li255, li2208, li2304, li9999, li9, li13, li14, li30, li35, li44, li45, li46, li47, li97, li98, li100, li101, li104, li105, li108, li110, li111, li112, li114, li117, li122, li999999, li1000000, li2147483647, cmp0, cmpl, cmpg, cmple, cmpge, nI_leI, nI_ltI, nI_eq, rL, rI, wL, wI, ob, aLet, nI_add, pk_mul, ↓reduceIte, if_true, if_false, eq_self, Nat.reduceEqDiff, Nat.reduceLeDiff, Nat.reduceLT, Nat.one_ne_zero, Nat.zero_ne_one, Nat.add_zero, Bool.false_eq_true, nI_neq]
        · have e' : ¬ l (p + 6) = l p := fun z => e z.symm
          refine ⟨nI 1, sA Z 15 (upd (upd (Z.2.1 15) p (nI (min (l p) (l (p + 6))))) (p + 6) (nI (min (l p) (l (p + 6))))), set2 l p (p + 6), ?_, Fr_A hF (by omega), arrS h q q2 _ (fun x => rfl), Or.inr ⟨rfl, p30, q, q2, e, rfl⟩⟩
          have g : ∀ f, (sA Z 15 f).2.1 15 = f := fun f => rfl
          by_cases le : l (p + 6) ≤ l p
          · rw [Nat.min_eq_right le]
            simp (disch := omega) only [X9_scattered_J219, X9_scattered_J280, hz, e', le, g, pk_us, sA_sA, li0, li1, li2, li3, li4, li5, li6, li7, li8, li11, li12, li16, li24, li25, li26, li31, li32, li36, li40, li48, li52, li58, li59, li60, li63, li64, li88, li96, li130, li192, li255, li2208, li2304, li9999, li9, li13, li14, li30, li35, li44, li45, li46, li47, li97, li98, li100, li101, li104, li105, li108, li110, li111, li112, li114, li117, li122, li999999, li1000000, li2147483647, cmp0, cmpl, cmpg, cmple, cmpge, nI_leI, nI_ltI, nI_eq, rL, rI, wL, wI, ob, aLet, nI_add, pk_mul, ↓reduceIte, if_true, if_false, eq_self, Nat.reduceEqDiff, Nat.reduceLeDiff, Nat.reduceLT, Nat.one_ne_zero, Nat.zero_ne_one, Nat.add_zero, Bool.false_eq_true, nI_neq]
          · rw [Nat.min_eq_left (by omega)]
            simp (disch := omega) only [X9_scattered_J219, X9_scattered_J280, hz, e', le, g, pk_us, sA_sA, li0, li1, li2, li3, li4, li5, li6, li7, li8, li11, li12, li16, li24, li25, li26, li31, li32, li36, li40, li48, li52, li58, li59, li60, li63, li64, li88, li96, li130, li192, li255, li2208, li2304, li9999, li9, li13, li14, li30, li35, li44, li45, li46, li47, li97, li98, li100, li101, li104, li105, li108, li110, li111, li112, li114, li117, li122, li999999, li1000000, li2147483647, cmp0, cmpl, cmpg, cmple, cmpge, nI_leI, nI_ltI, nI_eq, rL, rI, wL, wI, ob, aLet, nI_add, pk_mul, ↓reduceIte, if_true, if_false, eq_self, Nat.reduceEqDiff, Nat.reduceLeDiff, Nat.reduceLT, Nat.one_ne_zero, Nat.zero_ne_one, Nat.add_zero, Bool.false_eq_true, nI_neq]
  · rw [if_neg p30]
    refine ⟨f, Z, l, ?_, hF, h, Or.inl ⟨rfl, rfl, fun a => absurd a p30⟩⟩
    cases q : P p
    · rw [enl_no q] at hz
      simp (disch := omega) only [X9_scattered_J219, hz, li0, li1, li2, li3, li4, li5, li6, li7, li8, li11, li12, li16, li24, li25, li26, li31, li32, li36, li40, li48, li52, li58, li59, li60, li63, li64, li88, li96, li130, li192, li255, li2208, li2304, li9999, li9, li13, li14, li30, li35, li44, li45, li46, li47, li97, li98, li100, li101, li104, li105, li108, li110, li111, li112, li114, li117, li122, li999999, li1000000, li2147483647, cmp0, cmpl, cmpg, cmple, cmpge, nI_leI, nI_ltI, nI_eq, rL, rI, wL, wI, ob, aLet, nI_add, pk_mul, ↓reduceIte, if_true, if_false, eq_self, Nat.reduceEqDiff, Nat.reduceLeDiff, Nat.reduceLT, Nat.one_ne_zero, Nat.zero_ne_one, Nat.add_zero, Bool.false_eq_true, nI_neq]
    · rw [enl_yes q] at hz
      have lp := (hl p q).2.1
      simp (disch := omega) only [X9_scattered_J219, hz, li0, li1, li2, li3, li4, li5, li6, li7, li8, li11, li12, li16, li24, li25, li26, li31, li32, li36, li40, li48, li52, li58, li59, li60, li63, li64, li88, li96, li130, li192, li255, li2208, li2304, li9999, li9, li13, li14, li30, li35, li44, li45, li46, li47, li97, li98, li100, li101, li104, li105, li108, li110, li111, li112, li114, li117, li122, li999999, li1000000, li2147483647, cmp0, cmpl, cmpg, cmple, cmpge, nI_leI, nI_ltI, nI_eq, rL, rI, wL, wI, ob, aLet, nI_add, pk_mul, ↓reduceIte, if_true, if_false, eq_self, Nat.reduceEqDiff, Nat.reduceLeDiff, Nat.reduceLT, Nat.one_ne_zero, Nat.zero_ne_one, Nat.add_zero, Bool.false_eq_true, nI_neq]
theorem sc_right {P : Nat → Bool} {l : Nat → Nat} {m Z : Rec} (hl : lbl P l) (hF : Fr m Z) (h : arr P l Z) {p : Nat} (hp : p < 36) (hP : ∀ p, P p = true → p < 36) (k : Int32 → Int32 → Rec → Option (Int32 × Rec)) (f : Int32) : ∃ f' Z' l', X9_scattered_J137 Z (nI p) f (if p % 6 < 5 then enl P l (p + 1) else -nI 4) k (if p < 30 then enl P l (p + 6) else -nI 4) = X9_scattered_J219 (nI p) (if p < 30 then enl P l' (p + 6) else -nI 4) k f' Z' ∧ Fr m Z' ∧ arr P l' Z' ∧ turned P l l' f f' (p % 6 < 5) p (p + 1) := by
  have hz := h p hp
  by_cases p5 : p % 6 < 5
  · rw [if_pos p5]
    cases q : P p
    · rw [enl_no q] at hz
      refine ⟨f, Z, l, ?_, hF, h, Or.inl ⟨rfl, rfl, fun _ a => by rw [q] at a; cases a⟩⟩
      rw [X9_scattered_J137, rI hp (by decide), ob, hz, if_pos (show -nI 4 = (-4 : Int32) from rfl)]
    · rw [enl_yes q] at hz
      have lp := (hl p q).2.1
      cases q2 : P (p + 1)
      · rw [enl_no q2]
        refine ⟨f, Z, l, ?_, hF, h, Or.inl ⟨rfl, rfl, fun _ _ a => by rw [q2] at a; cases a⟩⟩
        rw [X9_scattered_J137, rI hp (by decide), ob, hz, if_neg (n4l (n := l p) (by omega)), if_pos (show -nI 4 = (-4 : Int32) from rfl)]
      · rw [enl_yes q2]
        have lq := (hl (p + 1) q2).2.1
        by_cases e : l p = l (p + 1)
        · refine ⟨f, Z, l, ?_, hF, h, Or.inl ⟨rfl, rfl, fun _ _ _ => e⟩⟩
          rw [X9_scattered_J137, rI hp (by decide), ob, hz, if_neg (n4l (n := l p) (by omega)), if_neg (n4l (n := l (p + 1)) (by omega)), ob, if_pos (by rw [e])]
        · have e' : ¬ l (p + 1) = l p := fun z => e z.symm
          refine ⟨nI 1, sA Z 15 (upd (upd (Z.2.1 15) p (nI (min (l p) (l (p + 1))))) (p + 1) (nI (min (l p) (l (p + 1))))), set2 l p (p + 1), ?_, Fr_A hF (by omega), arrS h q q2 _ (fun x => rfl), Or.inr ⟨rfl, p5, q, q2, e, rfl⟩⟩
          have g : ∀ f, (sA Z 15 f).2.1 15 = f := fun f => rfl
          have eb : (if p < 30 then enl P (set2 l p (p + 1)) (p + 6) else -nI 4) = if p < 30 then enl P l (p + 6) else -nI 4 := by
            have : enl P (set2 l p (p + 1)) (p + 6) = enl P l (p + 6) := by
              unfold enl set2
              rw [if_neg (show ¬ (p + 6 = p ∨ p + 6 = p + 1) by omega)]
            rw [this]
          have p1 := hP _ q2
          rw [eb]
          by_cases le : l (p + 1) ≤ l p
          · rw [Nat.min_eq_right le, X9_scattered_J137, rI hp (by decide), ob, hz, if_neg (n4l (n := l p) (by omega)), if_neg (n4l (n := l (p + 1)) (by omega)), ob, if_neg (fun z => e' ((nI_eq (by omega) (by omega)).mp z)), ob, if_pos (nI_le le (by omega))]
            unfold X9_scattered_J200
            simp (disch := omega) only [g, pk_us, sA_sA, li0, li1, li2, li3, li4, li5, li6, li7, li8, li11, li12, li16, li24, li25, li26, li31, li32, li36, li40, li48, li52, li58, li59, li60, li63, li64, li88, li96, li130, li192, li255, li2208, li2304, li9999, li9, li13, li14, li30, li35, li44, li45, li46, li47, li97, li98, li100, li101, li104, li105, li108, li110, li111, li112, li114, li117, li122, li999999, li1000000, li2147483647, cmp0, cmpl, cmpg, cmple, cmpge, nI_leI, nI_ltI, nI_eq, rL, rI, wL, wI, ob, aLet, nI_add, pk_mul, ↓reduceIte, if_true, if_false, eq_self, Nat.reduceEqDiff, Nat.reduceLeDiff, Nat.reduceLT, Nat.one_ne_zero, Nat.zero_ne_one, Nat.add_zero, Bool.false_eq_true, nI_neq]
          · rw [Nat.min_eq_left (by omega), X9_scattered_J137, rI hp (by decide), ob, hz, if_neg (n4l (n := l p) (by omega)), if_neg (n4l (n := l (p + 1)) (by omega)), ob, if_neg (fun z => e' ((nI_eq (by omega) (by omega)).mp z)), ob, if_neg (nI_ge (by omega) (by omega)), ob]
            unfold X9_scattered_J200
            simp (disch := omega) only [g, pk_us, sA_sA, li0, li1, li2, li3, li4, li5, li6, li7, li8, li11, li12, li16, li24, li25, li26, li31, li32, li36, li40, li48, li52, li58, li59, li60, li63, li64, li88, li96, li130, li192, li255, li2208, li2304, li9999, li9, li13, li14, li30, li35, li44, li45, li46, li47, li97, li98, li100, li101, li104, li105, li108, li110, li111, li112, li114, li117, li122, li999999, li1000000, li2147483647, cmp0, cmpl, cmpg, cmple, cmpge, nI_leI, nI_ltI, nI_eq, rL, rI, wL, wI, ob, aLet, nI_add, pk_mul, ↓reduceIte, if_true, if_false, eq_self, Nat.reduceEqDiff, Nat.reduceLeDiff, Nat.reduceLT, Nat.one_ne_zero, Nat.zero_ne_one, Nat.add_zero, Bool.false_eq_true, nI_neq]
  · rw [if_neg p5]
    refine ⟨f, Z, l, ?_, hF, h, Or.inl ⟨rfl, rfl, fun a => absurd a p5⟩⟩
    cases q : P p
    · rw [enl_no q] at hz
      rw [X9_scattered_J137, rI hp (by decide), ob, hz, if_pos (show -nI 4 = (-4 : Int32) from rfl)]
    · rw [enl_yes q] at hz
      have lp := (hl p q).2.1
      rw [X9_scattered_J137, rI hp (by decide), ob, hz, if_neg (n4l (n := l p) (by omega)), if_pos (show -nI 4 = (-4 : Int32) from rfl)]
/-- one sweep -/
theorem sc_sweep {P : Nat → Bool} {m : Rec} (hP : ∀ p, P p = true → p < 36) : ∀ (e p n : Nat) (f : Int32) (Z : Rec) (l : Nat → Nat), p + e = 36 → e < n → lbl P l → Fr m Z → arr P l Z → ∃ f' Z' l', X9_scattered_L83 n f (nI p) Z = some (f', Z') ∧ Fr m Z' ∧ lbl P l' ∧ arr P l' Z' ∧ ((f' = f ∧ l' = l ∧ ∀ q, p ≤ q → q < 36 → (q % 6 < 5 → P q = true → P (q + 1) = true → l q = l (q + 1)) ∧ (P q = true → P (q + 6) = true → l q = l (q + 6))) ∨ (f' = nI 1 ∧ pot P l' < pot P l)) := by
  intro e
  induction e with
  | zero =>
    intro p n f Z l h1 h2 hl hF h
    obtain ⟨n, rfl⟩ : ∃ z, n = z + 1 := ⟨n - 1, by omega⟩
    obtain rfl : p = 36 := h1
    exact ⟨f, Z, l, by simp (disch := omega) only [X9_scattered_L83, li0, li1, li2, li3, li4, li5, li6, li7, li8, li11, li12, li16, li24, li25, li26, li31, li32, li36, li40, li48, li52, li58, li59, li60, li63, li64, li88, li96, li130, li192, li255, li2208, li2304, li9999, li9, li13, li14, li30, li35, li44, li45, li46, li47, li97, li98, li100, li101, li104, li105, li108, li110, li111, li112, li114, li117, li122, li999999, li1000000, li2147483647, cmp0, cmpl, cmpg, cmple, cmpge, nI_leI, nI_ltI, nI_eq, rL, rI, wL, wI, ob, aLet, nI_add, pk_mul, ↓reduceIte, if_true, if_false, eq_self, Nat.reduceEqDiff, Nat.reduceLeDiff, Nat.reduceLT, Nat.one_ne_zero, Nat.zero_ne_one, Nat.add_zero, Bool.false_eq_true, nI_neq, Nat.le_refl], hF, hl, h, Or.inl ⟨rfl, rfl, fun q h1 h2 => absurd h2 (by omega)⟩⟩
  | succ e ih =>
    intro p n f Z l h1 h2 hl hF h
    obtain ⟨n, rfl⟩ : ∃ z, n = z + 1 := ⟨n - 1, by omega⟩
    have hp : p < 36 := by omega
    have hlt : ¬ 36 ≤ p := by omega
    have enter : X9_scattered_L83 (n + 1) f (nI p) Z = X9_scattered_J137 Z (nI p) f (if p % 6 < 5 then enl P l (p + 1) else -nI 4) (X9_scattered_L83 n) (if p < 30 then enl P l (p + 6) else -nI 4) := by
      have rem : nI p - nI p / nI 6 * nI 6 = nI (p % 6) := pk_rem (by omega) (by decide) (by decide)
      have j113 : ∀ v, X9_scattered_J113 (nI p) Z f (X9_scattered_L83 n) v = X9_scattered_J137 Z (nI p) f v (X9_scattered_L83 n) (if p < 30 then enl P l (p + 6) else -nI 4) := fun v => by
        unfold X9_scattered_J113
        by_cases q : p < 30
        · rw [if_neg (show ¬ (30 : Int32) ≤ nI p from nI_ge (b := 30) q (by decide)), show (6 : Int32) = nI 6 from rfl, nI_add, rI (by omega) (by decide), ob, h (p + 6) (by omega), if_pos q]
        · rw [if_pos (show (30 : Int32) ≤ nI p from nI_le (a := 30) (by omega) (by omega)), if_neg q]
          rfl
      rw [X9_scattered_L83, if_neg (show ¬ (36 : Int32) ≤ nI p from nI_ge (b := 36) hp (by decide)), show (6 : Int32) = nI 6 from rfl, rem]
      by_cases q : p % 6 < 5
      · rw [if_neg (show ¬ (5 : Int32) ≤ nI (p % 6) from nI_ge (b := 5) q (by decide)), show (1 : Int32) = nI 1 from rfl, nI_add, rI (by omega) (by decide), ob, h (p + 1) (by omega), if_pos q, j113]
      · rw [if_pos (show (5 : Int32) ≤ nI (p % 6) from nI_le (a := 5) (by omega) (by omega)), if_neg q, j113]
        rfl
    obtain ⟨f1, Z1, l1, s1, s2, s3, s4⟩ := sc_right hl hF h hp hP (X9_scattered_L83 n) f
    have hl1 : lbl P l1 := by
      rcases s4 with ⟨-, e2, -⟩ | ⟨-, a2, a3, a4, a5, e2⟩
      · rw [e2]
        exact hl
      · rw [e2]
        exact lbl_set hl a3 a4 (by omega) (fun f hf => hf.1 p a3 a4 a2)
    obtain ⟨f2, Z2, l2, t1, t2, t3, t4⟩ := sc_below hl1 s2 s3 hp (X9_scattered_L83 n) f1
    have hl2 : lbl P l2 := by
      rcases t4 with ⟨-, e2, -⟩ | ⟨-, a2, a3, a4, a5, e2⟩
      · rw [e2]
        exact hl1
      · rw [e2]
        exact lbl_set hl1 a3 a4 (by omega) (fun f hf => hf.2 p a3 a4)
    obtain ⟨f3, Z3, l3, u1, u2, u3, u4, u5⟩ := ih (p + 1) n f2 Z2 l2 (by omega) (by omega) hl2 t2 t3
    refine ⟨f3, Z3, l3, by rw [enter, s1, t1, u1], u2, u3, u4, ?_⟩
    have d1 : (f1 = f ∧ l1 = l) ∨ (f1 = nI 1 ∧ pot P l1 < pot P l) := by
      rcases s4 with ⟨e1, e2, -⟩ | ⟨e1, a2, a3, a4, a5, e2⟩
      · exact Or.inl ⟨e1, e2⟩
      · rw [e2]
        exact Or.inr ⟨e1, pot_set a3 a4 (by omega) hp (hP _ a4) a5⟩
    have d2 : (f2 = f1 ∧ l2 = l1) ∨ (f2 = nI 1 ∧ pot P l2 < pot P l1) := by
      rcases t4 with ⟨e1, e2, -⟩ | ⟨e1, a2, a3, a4, a5, e2⟩
      · exact Or.inl ⟨e1, e2⟩
      · rw [e2]
        exact Or.inr ⟨e1, pot_set a3 a4 (by omega) hp (hP _ a4) a5⟩
    rcases s4 with ⟨e1, e2, e3⟩ | big1
    · rcases t4 with ⟨g1, g2, g3⟩ | big2
      · subst e2
        subst g2
        rcases u5 with ⟨w1, w2, w3⟩ | ⟨w1, w2⟩
        · refine Or.inl ⟨by rw [w1, g1, e1], w2, fun q h1 h2 => ?_⟩
          by_cases y : q = p
          · subst y
            refine ⟨fun a b c => e3 a b c, fun b c => ?_⟩
            have c36 := hP _ c
            exact g3 (by omega) b c
          · exact w3 q (by omega) h2
        · exact Or.inr ⟨w1, w2⟩
      · subst e2
        have z2 : f2 = nI 1 ∧ pot P l2 < pot P l1 := by
          rcases d2 with z | z
          · obtain ⟨b1, b2, b3, b4, b5, b6⟩ := big2
            rw [z.2] at b6
            have := pot_set b3 b4 (by omega) hp (hP _ b4) b5
            rw [← b6] at this
            omega
          · exact z
        rcases u5 with ⟨w1, w2, -⟩ | ⟨w1, w2⟩
        · exact Or.inr ⟨w1.trans z2.1, by rw [w2]; exact z2.2⟩
        · exact Or.inr ⟨w1, by omega⟩
    · have z1 : f1 = nI 1 ∧ pot P l1 < pot P l := by
        obtain ⟨b1, b2, b3, b4, b5, b6⟩ := big1
        refine ⟨b1, ?_⟩
        rw [b6]
        exact pot_set b3 b4 (by omega) hp (hP _ b4) b5
      have z2 : f2 = nI 1 ∧ pot P l2 < pot P l := by
        rcases d2 with z | z
        · rw [z.1, z.2]
          exact z1
        · exact ⟨z.1, by omega⟩
      rcases u5 with ⟨w1, w2, -⟩ | ⟨w1, w2⟩
      · exact Or.inr ⟨w1.trans z2.1, by rw [w2]; exact z2.2⟩
      · exact Or.inr ⟨w1, by omega⟩
theorem pot_le {P : Nat → Bool} {l : Nat → Nat} (hP : ∀ p, P p = true → p < 36) (h : lbl P l) : pot P l ≤ 36 * 36 := by
  refine sm_le (fun c hc => ?_) 36
  have := hP c hc
  have := (h c hc).2.1
  omega
/-- sweeps until nothing changes -/
theorem sc_all {P : Nat → Bool} {m : Rec} (hP : ∀ p, P p = true → p < 36) : ∀ (b n : Nat) (Z : Rec) (l : Nat → Nat), pot P l < b → b < n → lbl P l → Fr m Z → arr P l Z → ∃ Z' l', X9_scattered_L74 (n + 1) (nI 1) Z = some Z' ∧ Fr m Z' ∧ lbl P l' ∧ arr P l' Z' ∧ nbr P l' := by
  intro b
  induction b with
  | zero =>
    intro n Z l h
    omega
  | succ b ih =>
    intro n Z l h1 h2 hl hF h
    obtain ⟨n, rfl⟩ : ∃ z, n = z + 1 := ⟨n - 1, by omega⟩
    obtain ⟨f', Z', l', s1, s2, s3, s4, s5⟩ := sc_sweep hP 36 0 aFu (nI 0) Z l rfl (by decide) hl hF h
    have enter : X9_scattered_L74 (n + 1 + 1) (nI 1) Z = X9_scattered_L74 (n + 1) f' Z' := by
      rw [X9_scattered_L74, if_neg (show ¬ nI 1 = (0 : Int32) by decide), show (0 : Int32) = nI 0 from rfl, s1, ob]
    rw [enter]
    rcases s5 with ⟨e1, e2, e3⟩ | ⟨e1, e2⟩
    · subst e2
      refine ⟨Z', l', ?_, s2, s3, s4, fun p a b c => ?_, fun p a b => ?_⟩
      · rw [e1, X9_scattered_L74, if_pos (show nI 0 = (0 : Int32) from rfl)]
      · exact (e3 p (Nat.zero_le p) (hP p a)).1 c a b
      · exact (e3 p (Nat.zero_le p) (hP p a)).2 a b
    · rw [e1]
      exact ih n Z' l' (by omega) (by omega) s3 s2 s4
