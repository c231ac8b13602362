/-! what is made later: the lands of the past (places 0..23), the images (24, 25), the sheets (26..29) -/
abbrev DynT : Type := (Nat → Option Nat) × (Nat → Option Nat) × (Nat → Option Nat) × (Nat → Nat) × (Nat → Rec) × Nat
def xrf (D : DynT) (i : Nat) : Option Nat := if i < 24 then D.1 i else if i < 26 then D.2.1 (i - 24) else D.2.2.1 (i - 26)
def xsz (i : Nat) : Nat := if i < 26 then 8 else 2
def xbk (h : aH) (q i : Nat) (D : DynT) : Prop := if i < 26 then X2_at h q (D.2.2.2.2.1 i) else X5_at h q (D.2.2.2.1 i) (D.2.2.2.2.1 i)
def xD (h : aH) (D : DynT) : Prop := h 17 = some (.inl (3, 2, .inr (.inr (.inr (.inr D.2.1))))) ∧ h 18 = some (.inl (4, 4, .inr (.inr (.inr (.inr D.2.2.1))))) ∧ 66 ≤ D.2.2.2.2.2
  ∧ (∀ i, i < 30 → ∀ q, xrf D i = some q → 66 ≤ q ∧ q + xsz i ≤ D.2.2.2.2.2 ∧ xbk h q i D)
  ∧ ∀ i j, i < 30 → j < 30 → i ≠ j → ∀ q r, xrf D i = some q → xrf D j = some r → q + xsz i ≤ r ∨ r + xsz j ≤ q
def dLV (D : DynT) (i : Nat) (S : Rec) : DynT := (D.1, D.2.1, D.2.2.1, D.2.2.2.1, (fun j => if j = i then S else D.2.2.2.2.1 j), D.2.2.2.2.2)
def dNewP (D : DynT) (k : Nat) (S : Rec) : DynT := (va_up D.1 k (some D.2.2.2.2.2), D.2.1, D.2.2.1, D.2.2.2.1, (fun j => if j = k then S else D.2.2.2.2.1 j), D.2.2.2.2.2 + 8)
def dNewI (D : DynT) (k : Nat) (S : Rec) : DynT := (D.1, va_up D.2.1 k (some D.2.2.2.2.2), D.2.2.1, D.2.2.2.1, (fun j => if j = 24 + k then S else D.2.2.2.2.1 j), D.2.2.2.2.2 + 8)
def dNewS (D : DynT) (k m : Nat) (S : Rec) : DynT := (D.1, D.2.1, va_up D.2.2.1 k (some D.2.2.2.2.2), (fun j => if j = 26 + k then m else D.2.2.2.1 j), (fun j => if j = 26 + k then S else D.2.2.2.2.1 j), D.2.2.2.2.2 + 2)
def dNo (D : DynT) (k : Nat) : DynT := (D.1, D.2.1, va_up D.2.2.1 k none, D.2.2.2)
def rdQ (f : Nat → Option Nat) (m : Nat) (i : Int32) : Option (Option Nat) := if i < 0 ∨ m ≤ i.toNatClampNeg then none else some (f i.toNatClampNeg)
theorem rdQ_s {f : Nat → Option Nat} {m : Nat} {i : Int32} {x : Option Nat} (h : rdQ f m i = some x) : vp_in i m ∧ f i.toNatClampNeg = x := by
  unfold rdQ at h
  split at h
  · cases h
  · next q => exact ⟨q, Option.some.inj h⟩
def aQs {T : Type} (v : Option Nat) (a : T) (f : Nat → T) : T := match v with
  | none => a
  | some q => f q
theorem aQs_n {T : Type} {a : T} {f : Nat → T} {t : T} (h : aQs none a f = t) : a = t := h
theorem aQs_s {T : Type} {a : T} {f : Nat → T} {q : Nat} {t : T} (h : aQs (some q) a f = t) : f q = t := h
theorem vp_lt {i : Int32} {m : Nat} (h : ¬ (i < 0 ∨ m ≤ i.toNatClampNeg)) : i.toNatClampNeg < m := Nat.not_le.mp fun q => h (Or.inr q)
theorem xsz_le (i : Nat) : xsz i = 8 ∨ xsz i = 2 := by unfold xsz; split <;> simp
theorem xbk_off {h h1 : aH} {q i : Nat} {D : DynT} (hb : xbk h q i D) (ho : ∀ z, q ≤ z → z < q + xsz i → h1 z = h z) : xbk h1 q i D := by
  unfold xbk xsz at *
  split
  · next c => rw [if_pos c] at hb ho; exact X2_off hb ho
  · next c => rw [if_neg c] at hb ho; exact X5_off hb ho
theorem xD_off {h h1 : aH} {D : DynT} (hD : xD h D) (ho : ∀ q, (q = 17 ∨ q = 18 ∨ (66 ≤ q ∧ q < D.2.2.2.2.2)) → h1 q = h q) : xD h1 D := by
  obtain ⟨h17, h18, hn, hb, ha⟩ := hD
  refine ⟨(ho 17 (by omega)).trans h17, (ho 18 (by omega)).trans h18, hn, fun i hi q hq => ?_, ha⟩
  obtain ⟨b1, b2, b3⟩ := hb i hi q hq
  exact ⟨b1, b2, xbk_off b3 (fun z z1 z2 => ho z (by omega))⟩
/-- one place is given anew: what it holds lies behind all, or is nothing, or where it lay -/
theorem xD_re {h h1 : aH} {D D' : DynT} (i : Nat) (hD : xD h D) (h17 : h1 17 = some (.inl (3, 2, .inr (.inr (.inr (.inr D'.2.1)))))) (h18 : h1 18 = some (.inl (4, 4, .inr (.inr (.inr (.inr D'.2.2.1)))))) (hnx : D.2.2.2.2.2 ≤ D'.2.2.2.2.2)
    (hj : ∀ j, j < 30 → j ≠ i → xrf D' j = xrf D j ∧ D'.2.2.2.1 j = D.2.2.2.1 j ∧ D'.2.2.2.2.1 j = D.2.2.2.2.1 j)
    (ho : ∀ j q, j < 30 → j ≠ i → xrf D j = some q → ∀ z, q ≤ z → z < q + xsz j → h1 z = h z)
    (hn : ∀ q, xrf D' i = some q → (D.2.2.2.2.2 ≤ q ∨ xrf D i = some q) ∧ q + xsz i ≤ D'.2.2.2.2.2 ∧ xbk h1 q i D') : xD h1 D' := by
  obtain ⟨-, -, hx, hb, ha⟩ := hD
  refine ⟨h17, h18, Nat.le_trans hx hnx, fun j h30 q hq => ?_, fun a b ha30 hb30 hab q r hq hr => ?_⟩
  · by_cases hji : j = i
    · subst hji
      obtain ⟨n1, n2, n3⟩ := hn q hq
      refine ⟨?_, n2, n3⟩
      rcases n1 with n1 | n1
      · omega
      · exact (hb j h30 q n1).1
    · obtain ⟨e1, e2, e3⟩ := hj j h30 hji
      rw [e1] at hq
      obtain ⟨b1, b2, b3⟩ := hb j h30 q hq
      refine ⟨b1, by omega, ?_⟩
      have b4 := xbk_off b3 (ho j q h30 hji hq)
      unfold xbk at b4 ⊢
      rw [e2, e3]
      exact b4
  · have key : ∀ x, x < 30 → x ≠ i → ∀ y, xrf D' x = some y → ∀ z, xrf D' i = some z → i < 30 → y + xsz x ≤ z ∨ z + xsz i ≤ y := by
      intro x hx30 hxi y hy z hz hi30
      rw [(hj x hx30 hxi).1] at hy
      obtain ⟨n1, -, -⟩ := hn z hz
      rcases n1 with n1 | n1
      · have := (hb x hx30 y hy).2.1
        omega
      · exact ha x i hx30 hi30 hxi y z hy n1
    by_cases hai : a = i
    · subst hai
      have := key b hb30 (Ne.symm hab) r hr q hq ha30
      omega
    · by_cases hbi : b = i
      · subst hbi
        exact key a ha30 hai q hq r hr hb30
      · rw [(hj a ha30 hai).1] at hq
        rw [(hj b hb30 hbi).1] at hr
        exact ha a b ha30 hb30 hab q r hq hr
theorem xD_put {h h1 : aH} {D : DynT} {i q : Nat} {S : Rec} (hD : xD h D) (hi : i < 30) (hq : xrf D i = some q) (hb : xbk h1 q i (dLV D i S)) (ho : ∀ z, (z < q ∨ q + xsz i ≤ z) → h1 z = h z) : xD h1 (dLV D i S) := by
  obtain ⟨h17, h18, hn, hbk, hap⟩ := id hD
  obtain ⟨q1, q2, -⟩ := hbk i hi q hq
  refine xD_re i hD ((ho 17 (by omega)).trans h17) ((ho 18 (by omega)).trans h18) (Nat.le_refl _) (fun j _ hj => ⟨rfl, rfl, by simp [dLV, hj]⟩) (fun j r h30 hji hr z z1 z2 => ?_) (fun r hr => ?_)
  · have := hap j i h30 hi hji r q hr hq
    exact ho z (by omega)
  · have hr' : xrf D i = some r := hr
    cases hq.symm.trans hr'
    exact ⟨Or.inr hq, q2, hb⟩
theorem xrf_P {D : DynT} {k : Nat} (hk : k < 24) : xrf D k = D.1 k := by simp [xrf, hk]
theorem xrf_I {D : DynT} {k : Nat} (hk : k < 2) : xrf D (24 + k) = D.2.1 k := by
  have e : 24 + k - 24 = k := by omega
  unfold xrf; rw [if_neg (by omega), if_pos (by omega), e]
theorem xrf_S {D : DynT} {k : Nat} : xrf D (26 + k) = D.2.2.1 k := by
  have e : 26 + k - 26 = k := by omega
  unfold xrf; rw [if_neg (by omega), if_neg (by omega), e]
theorem xD_getP {h : aH} {D : DynT} {k q : Nat} (hD : xD h D) (hk : k < 24) (hq : D.1 k = some q) : 66 ≤ q ∧ q + 8 ≤ D.2.2.2.2.2 ∧ X2_at h q (D.2.2.2.2.1 k) := by
  have := hD.2.2.2.1 k (by omega) q ((xrf_P hk).trans hq)
  simpa [xsz, xbk, show k < 26 by omega] using this
theorem xD_getI {h : aH} {D : DynT} {k q : Nat} (hD : xD h D) (hk : k < 2) (hq : D.2.1 k = some q) : 66 ≤ q ∧ q + 8 ≤ D.2.2.2.2.2 ∧ X2_at h q (D.2.2.2.2.1 (24 + k)) := by
  have := hD.2.2.2.1 (24 + k) (by omega) q ((xrf_I hk).trans hq)
  simpa [xsz, xbk, show 24 + k < 26 by omega] using this
theorem xD_getS {h : aH} {D : DynT} {k q : Nat} (hD : xD h D) (hk : k < 4) (hq : D.2.2.1 k = some q) : 66 ≤ q ∧ q + 2 ≤ D.2.2.2.2.2 ∧ X5_at h q (D.2.2.2.1 (26 + k)) (D.2.2.2.2.1 (26 + k)) := by
  have := hD.2.2.2.1 (26 + k) (by omega) q (xrf_S.trans hq)
  simpa [xsz, xbk, show ¬ 26 + k < 26 by omega] using this
theorem xD_putP {h h1 : aH} {D : DynT} {k q : Nat} {S : Rec} (hD : xD h D) (hk : k < 24) (hq : D.1 k = some q) (hb : X2_at h1 q S) (ho : ∀ z, (z < q ∨ q + 8 ≤ z) → h1 z = h z) : xD h1 (dLV D k S) := by
  refine xD_put hD (by omega) ((xrf_P hk).trans hq) ?_ (fun z hz => ho z (by simpa [xsz, show k < 26 by omega] using hz))
  simpa [xbk, dLV, show k < 26 by omega] using hb
theorem xD_putI {h h1 : aH} {D : DynT} {k q : Nat} {S : Rec} (hD : xD h D) (hk : k < 2) (hq : D.2.1 k = some q) (hb : X2_at h1 q S) (ho : ∀ z, (z < q ∨ q + 8 ≤ z) → h1 z = h z) : xD h1 (dLV D (24 + k) S) := by
  refine xD_put hD (by omega) ((xrf_I hk).trans hq) ?_ (fun z hz => ho z (by simpa [xsz, show 24 + k < 26 by omega] using hz))
  simpa [xbk, dLV, show 24 + k < 26 by omega] using hb
theorem xD_putS {h h1 : aH} {D : DynT} {k q : Nat} {S : Rec} (hD : xD h D) (hk : k < 4) (hq : D.2.2.1 k = some q) (hb : X5_at h1 q (D.2.2.2.1 (26 + k)) S) (ho : ∀ z, (z < q ∨ q + 2 ≤ z) → h1 z = h z) : xD h1 (dLV D (26 + k) S) := by
  refine xD_put hD (by omega) (xrf_S.trans hq) ?_ (fun z hz => ho z (by simpa [xsz, show ¬ 26 + k < 26 by omega] using hz))
  simpa [xbk, dLV, show ¬ 26 + k < 26 by omega] using hb
theorem xD_newP {h h1 : aH} {D : DynT} {k : Nat} {S : Rec} (hD : xD h D) (hk : k < 24) (hb : X2_at h1 D.2.2.2.2.2 S) (ho : ∀ z, z < D.2.2.2.2.2 → z ≠ 16 → h1 z = h z) : xD h1 (dNewP D k S) := by
  obtain ⟨h17, h18, hn, hbk, hap⟩ := id hD
  refine xD_re k hD ((ho 17 (by omega) (by omega)).trans h17) ((ho 18 (by omega) (by omega)).trans h18) (by simp [dNewP]) (fun j h30 hj => ⟨?_, rfl, by simp [dNewP, hj]⟩) (fun j q h30 hji hq z z1 z2 => ?_) (fun q hq => ?_)
  · unfold xrf dNewP
    by_cases h24 : j < 24
    · simp [h24, va_up, hj]
    · simp [h24]
  · have := (hbk j h30 q hq).2.1
    have := (hbk j h30 q hq).1
    exact ho z (by omega) (by omega)
  · rw [xrf_P hk] at hq
    simp only [dNewP, va_up, if_true] at hq
    cases hq
    refine ⟨Or.inl (Nat.le_refl _), by simp [xsz, dNewP, show k < 26 by omega], ?_⟩
    simpa [xbk, dNewP, show k < 26 by omega] using hb
theorem xD_newI {h h1 : aH} {D : DynT} {k : Nat} {S : Rec} (hD : xD h D) (hk : k < 2) (hb : X2_at h1 D.2.2.2.2.2 S) (he : h1 17 = some (.inl (3, 2, .inr (.inr (.inr (.inr (va_up D.2.1 k (some D.2.2.2.2.2)))))))) (ho : ∀ z, z < D.2.2.2.2.2 → z ≠ 17 → h1 z = h z) : xD h1 (dNewI D k S) := by
  obtain ⟨h17, h18, hn, hbk, hap⟩ := id hD
  refine xD_re (24 + k) hD he ((ho 18 (by omega) (by omega)).trans h18) (by simp [dNewI]) (fun j h30 hj => ⟨?_, rfl, by simp [dNewI, hj]⟩) (fun j q h30 hji hq z z1 z2 => ?_) (fun q hq => ?_)
  · unfold xrf dNewI
    by_cases h24 : j < 24
    · simp [h24]
    · by_cases h26 : j < 26
      · have : ¬ j - 24 = k := by omega
        simp [h24, h26, va_up, this]
      · simp [h24, h26]
  · have := (hbk j h30 q hq).2.1
    have := (hbk j h30 q hq).1
    exact ho z (by omega) (by omega)
  · rw [xrf_I hk] at hq
    simp only [dNewI, va_up, if_true] at hq
    cases hq
    refine ⟨Or.inl (Nat.le_refl _), by simp [xsz, dNewI, show 24 + k < 26 by omega], ?_⟩
    simpa [xbk, dNewI, show 24 + k < 26 by omega] using hb
theorem xD_newS {h h1 : aH} {D : DynT} {k m : Nat} {S : Rec} (hD : xD h D) (hk : k < 4) (hb : X5_at h1 D.2.2.2.2.2 m S) (he : h1 18 = some (.inl (4, 4, .inr (.inr (.inr (.inr (va_up D.2.2.1 k (some D.2.2.2.2.2)))))))) (ho : ∀ z, z < D.2.2.2.2.2 → z ≠ 18 → h1 z = h z) : xD h1 (dNewS D k m S) := by
  obtain ⟨h17, h18, hn, hbk, hap⟩ := id hD
  refine xD_re (26 + k) hD ((ho 17 (by omega) (by omega)).trans h17) he (by simp [dNewS]) (fun j h30 hj => ⟨?_, by simp [dNewS, hj], by simp [dNewS, hj]⟩) (fun j q h30 hji hq z z1 z2 => ?_) (fun q hq => ?_)
  · unfold xrf dNewS
    by_cases h24 : j < 24
    · simp [h24]
    · by_cases h26 : j < 26
      · simp [h24, h26]
      · have : ¬ j - 26 = k := by omega
        simp [h24, h26, va_up, this]
  · have := (hbk j h30 q hq).2.1
    have := (hbk j h30 q hq).1
    exact ho z (by omega) (by omega)
  · rw [xrf_S] at hq
    simp only [dNewS, va_up, if_true] at hq
    cases hq
    refine ⟨Or.inl (Nat.le_refl _), by simp [xsz, dNewS, show ¬ 26 + k < 26 by omega], ?_⟩
    simpa [xbk, dNewS, show ¬ 26 + k < 26 by omega] using hb
theorem xD_no {h h1 : aH} {D : DynT} {k : Nat} (hD : xD h D) (hk : k < 4) (he : h1 18 = some (.inl (4, 4, .inr (.inr (.inr (.inr (va_up D.2.2.1 k none))))))) (ho : ∀ z, z ≠ 18 → h1 z = h z) : xD h1 (dNo D k) := by
  obtain ⟨h17, h18, hn, hbk, hap⟩ := id hD
  refine xD_re (26 + k) hD ((ho 17 (by omega)).trans h17) he (Nat.le_refl _) (fun j h30 hj => ⟨?_, rfl, rfl⟩) (fun j q h30 hji hq z z1 z2 => ?_) (fun q hq => ?_)
  · unfold xrf dNo
    by_cases h24 : j < 24
    · simp [h24]
    · by_cases h26 : j < 26
      · simp [h24, h26]
      · have : ¬ j - 26 = k := by omega
        simp [h24, h26, va_up, this]
  · have := (hbk j h30 q hq).1
    exact ho z (by omega)
  · rw [xrf_S] at hq
    simp [dNo, va_up] at hq
theorem ab_pop2_2 {X : aX} {G : aG} {cc : ByteArray} {nL d MC MS pc : Nat} {own : String} {lv : List (Nat × Value)} {st : List Value} {h : aH} {nx k n : Nat} (C : aC X G cc nL d MC MS own) {v : Value} (hc : v.category = 2) (hd : decode cc pc = .ok (.pop2, 1)) (kk : aV X G nL (pc + 1) lv st h nx k n) : aV X G nL pc lv (v :: st) h nx k n := fun H locs ls a b c => lv_pop2_2 C.1 C.2.1 hd ((a_cat G v).trans hc) (kk H locs ls a b c)
