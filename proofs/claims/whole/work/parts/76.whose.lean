/-! land: whose the cells are, in lockstep -/
theorem at_lt2 {T : Nat} {b : Nat → Nat} {a H : Nat} (hH : H < 7) (h : fg H (cA T b a) ≠ 9) : a < T := by
  rcases Nat.lt_or_ge a T with w | w
  · exact w
  · exfalso
    apply h
    unfold cA
    rw [if_neg (by omega)]
    exact (fig_e H hH).2.2
theorem l_who {T : Nat} {b : Nat → Nat} {m0 : Rec} {r H C : Nat} (hr : r < 6) (hH : H < 7) (hC : C ≤ 6) : ∀ (e n a f f' : Nat) (Z D M : Rec) (O : Nat → Nat), n + e = C → e < f → e < f' → TP T b Z a → RM T b m0 M a → D.1 0 = nI H → D.1 3 = nI C → M.2.1 1 0 = nI H → M.2.1 1 1 = nI C → BitsOf 7 (D.2.2 10) (rg r n C) O hw → (∀ p, p < 36 → M.2.1 1 (52 + p) = nI (O p) ∧ O p ≤ H) →
    (∃ (a' : Nat) (Z' D' M' : Rec) (O' : Nat → Nat), X7_readWhose_L27 (nI r) f (nI n) Z D = some (.inr (Z', D')) ∧ X9_readWhose_L14 (nI r) f' (nI n) M = some M' ∧ TP T b Z' a' ∧ RM T b m0 M' a' ∧ BitsOf 7 (D'.2.2 10) (rg r C C) O' hw ∧ (∀ p, p < 36 → M'.2.1 1 (52 + p) = nI (O' p) ∧ O' p ≤ H) ∧ D'.1 = D.1 ∧ D'.2.1 = D.2.1 ∧ (∀ s, s ≠ 10 → D'.2.2 s = D.2.2 s) ∧ ∀ j, (j < 52 ∨ 88 ≤ j) → M'.2.1 1 j = M.2.1 1 j) ∨
    (∃ (a' : Nat) (Z' D' M' : Rec), X7_readWhose_L27 (nI r) f (nI n) Z D = some (.inl (nI 0, Z', D')) ∧ X9_readWhose_L14 (nI r) f' (nI n) M = some M' ∧ TP T b Z' a' ∧ DM m0 M' a' ∧ ∀ j, (j < 52 ∨ 88 ≤ j) → M'.2.1 1 j = M.2.1 1 j) := by
  intro e
  induction e with
  | zero =>
    intro n a f f' Z D M O h1 h2 h3 hT hM d0 d3 f0 f1 hB hO
    obtain ⟨f, rfl⟩ : ∃ z, f = z + 1 := ⟨f - 1, by omega⟩
    obtain ⟨f', rfl⟩ : ∃ z, f' = z + 1 := ⟨f' - 1, by omega⟩
    obtain rfl : n = C := h1
    refine Or.inl ⟨a, Z, D, M, O, ?_, ?_, hT, hM, hB, hO, rfl, rfl, fun s _ => rfl, fun j _ => rfl⟩
    · rw [X7_readWhose_L27, d3, if_pos (nI_le (Nat.le_refl n) (by omega))]
    · rw [X9_readWhose_L14, show (1 : Int32) = nI 1 from rfl, rI (by decide) (by decide), ob, f1, if_pos (nI_le (Nat.le_refl n) (by omega))]
  | succ e ih =>
    intro n a f f' Z D M O h1 h2 h3 hT hM d0 d3 f0 f1 hB hO
    obtain ⟨f, rfl⟩ : ∃ z, f = z + 1 := ⟨f - 1, by omega⟩
    obtain ⟨f', rfl⟩ : ∃ z, f' = z + 1 := ⟨f' - 1, by omega⟩
    have nn : ¬ nI C ≤ nI n := nI_ge (show n < C by omega) (by omega)
    have cr := cA_r hT.2.1 a
    have cf := c_fig hT hH
    have ro := r_own cr hH f0
    have nw := r_now hM
    have fl := fg_le hH cr
    by_cases q : fg H (cA T b a) = 9
    · unfold fgC at cf
      unfold fgR at ro
      rw [if_pos q] at cf ro
      obtain ⟨w1, w2, w3⟩ := r_wrong hM
      obtain ⟨M', i1, i2, i3⟩ := d_who (r := r) hH hC e (n + 1) f' (X9_wrong M) (by omega) (by omega) (by omega) w1 (by rw [w2]; exact f0) (by rw [w2]; exact f1)
      refine Or.inr ⟨a, Z, D, M', ?_, ?_, hT, i2, fun j _ => by rw [i3, w2]⟩
      · rw [X7_readWhose_L27, d3, if_neg nn, d0, cf, ob, if_pos (show -nI 1 < 0 by decide)]
        rfl
      · rw [← i1, X9_readWhose_L14, show (1 : Int32) = nI 1 from rfl, rI (by decide) (by decide), ob, f1, if_neg nn, nw, ob, ro, ob, if_pos (show -nI 4 = (-4 : Int32) from rfl), aLet, nI_add]
    · have aT := at_lt2 hH q
      have h5 := hT.2.2.2.2.1
      have h7 := hM.2.2.2.2.2.1
      have g7 : ∀ w, (sA M 1 w).1 7 = nI a := fun w => h7
      obtain ⟨v, v7, hv, cv⟩ : ∃ v, v < 7 ∧ hw v = fg H (cA T b a) ∧ fgC H (cA T b a) = nI v := by
        unfold fgC
        rw [if_neg q]
        by_cases y : fg H (cA T b a) = 0
        · exact ⟨6, by decide, by rw [y]; rfl, by rw [if_pos y]⟩
        · refine ⟨fg H (cA T b a) - 1, by omega, ?_, by rw [if_neg y]⟩
          unfold hw
          rw [if_neg (by omega)]
          omega
      rw [cv] at cf
      unfold fgR at ro
      rw [if_neg q] at ro
      have inj : ∀ s, s < 7 → hw s = hw v → s = v := fun s hs z => by
        unfold hw at z
        by_cases y1 : s = 6
        · by_cases y2 : v = 6
          · omega
          · rw [if_pos y1, if_neg y2] at z
            omega
        · by_cases y2 : v = 6
          · rw [if_neg y1, if_pos y2] at z
            omega
          · rw [if_neg y1, if_neg y2] at z
            omega
      have hB2 := bits_up hB hr (by omega) hC v7 inj
      have v0 : ¬ v < 0 := by omega
      have b6 : v < 7 := v7
      rcases ih (n + 1) (a + 1) f f' (sI Z 2 (nI (a + 1))) (sL D 10 (vp_updL (D.2.2 10) v (D.2.2 10 v ||| oneC (8 * r + n)))) (sI (sA M 1 (upd (M.2.1 1) (52 + 6 * r + n) (nI (fg H (cA T b a))))) 7 (nI (a + 1))) (setw O (6 * r + n) (hw v)) (by omega) (by omega) (by omega) (TP_up hT aT) (RM_up (RM_A hM _) aT) d0 d3 (by
        show upd (M.2.1 1) (52 + 6 * r + n) _ 0 = nI H
        rw [pk_un (by omega)]
        exact f0) (by
        show upd (M.2.1 1) (52 + 6 * r + n) _ 1 = nI C
        rw [pk_un (by omega)]
        exact f1) hB2 (fun p hp => by
        show upd (M.2.1 1) (52 + 6 * r + n) _ (52 + p) = nI (setw O (6 * r + n) (hw v) p) ∧ setw O (6 * r + n) (hw v) p ≤ H
        unfold setw
        by_cases y : p = 6 * r + n
        · rw [if_pos y, y, show 52 + (6 * r + n) = 52 + 6 * r + n by omega, pk_us, hv]
          exact ⟨rfl, by omega⟩
        · rw [if_neg y, pk_un (by omega)]
          exact hO p hp) with ⟨a', Z', D', M', O', i1, i2, i3, i4, i5, i6, i7, i8, i9, i10⟩ | ⟨a', Z', D', M', i1, i2, i3, i4, i5⟩
      all_goals
        have cE : X7_readWhose_L27 (nI r) (f + 1) (nI n) Z D = X7_readWhose_L27 (nI r) f (nI (n + 1)) (sI Z 2 (nI (a + 1))) (sL D 10 (vp_updL (D.2.2 10) v (D.2.2 10 v ||| oneC (8 * r + n)))) := by
          rw [X7_readWhose_L27, d3, if_neg nn, d0, cf, ob]
          simp (disch := omega) only [show (Int32.ofNat 7) = nI 7 from rfl, v0, b6, h5, li0, li1, li2, li3, li4, li5, li6, li7, li8, li11, li12, li16, li24, li25, li26, li31, li32, li36, li40, li48, li52, li58, li59, li60, li63, li64, li88, li96, li130, li192, li255, li2208, li2304, li9999, li9, li13, li14, li30, li35, li44, li45, li46, li47, li97, li98, li100, li101, li104, li105, li108, li110, li111, li112, li114, li117, li122, li999999, li1000000, li2147483647, cmp0, cmpl, cmpg, cmple, cmpge, nI_leI, nI_ltI, nI_eq, rL, rI, wL, wI, ob, aLet, nI_add, pk_mul, ↓reduceIte, if_true, if_false, eq_self, Nat.reduceEqDiff, Nat.reduceLeDiff, Nat.reduceLT, Nat.one_ne_zero, Nat.zero_ne_one, Nat.add_zero, Bool.false_eq_true, nI_neq]
          rfl
        have rE : X9_readWhose_L14 (nI r) (f' + 1) (nI n) M = X9_readWhose_L14 (nI r) f' (nI (n + 1)) (sI (sA M 1 (upd (M.2.1 1) (52 + 6 * r + n) (nI (fg H (cA T b a))))) 7 (nI (a + 1))) := by
          rw [X9_readWhose_L14, show (1 : Int32) = nI 1 from rfl, rI (by decide) (by decide), ob, f1, if_neg nn, nw, ob, ro, ob, if_neg (n4l (by omega)), show (52 : Int32) = nI 52 from rfl, show (6 : Int32) = nI 6 from rfl, pk_mul, nI_add, nI_add, wI (by omega) (by decide), ob, aLet, nI_add, g7, nI_add]
        rw [cE, rE]
      · refine Or.inl ⟨a', Z', D', M', O', i1, i2, i3, i4, i5, i6, i7, i8, fun s hs => ?_, fun j hj => ?_⟩
        · rw [i9 s hs]
          exact if_neg hs
        · rw [i10 j hj]
          show upd (M.2.1 1) (52 + 6 * r + n) _ j = _
          rw [pk_un (by omega)]
      · refine Or.inr ⟨a', Z', D', M', i1, i2, i3, i4, fun j hj => ?_⟩
        rw [i5 j hj]
        show upd (M.2.1 1) (52 + 6 * r + n) _ j = _
        rw [pk_un (by omega)]
theorem rw_top {M M1 : Rec} {r R f' : Nat} (hr : r < R) (hR : R ≤ 6) (h : X9_readWhose_L14 (nI r) aFu (nI 0) M = some M1) (f2 : M.2.1 1 2 = nI R) (g2 : M1.2.1 1 2 = nI R) : X9_readWhose_L2 (f' + 1) (nI r) M = (X9_must M1 (nI (if r + 1 = R then 59 else 47))).bind fun v => X9_readWhose_L2 f' (nI (r + 1)) v := by
  have h' : X9_readWhose_L14 (nI r) aFu (0 : Int32) M = some M1 := h
  have nn : ¬ nI R ≤ nI r := nI_ge hr (by omega)
  have sb : nI R - (1 : Int32) = nI (R - 1) := pk_sub (b := 1) (by omega)
  rw [X9_readWhose_L2, show (2 : Int32) = nI 2 from rfl, rI (by decide) (by decide), ob, f2, if_neg nn, h', ob, rI (by decide) (by decide), ob, g2, sb]
  by_cases q : r + 1 = R
  · rw [if_pos (show nI (R - 1) ≤ nI r from nI_le (by omega) (by omega)), if_pos q, X9_readWhose_J97]
    simp only [aLet, nI_1]
    rfl
  · rw [if_neg (show ¬ nI (R - 1) ≤ nI r from nI_ge (by omega) (by omega)), if_neg q, X9_readWhose_J97]
    simp only [aLet, nI_1]
    rfl
theorem cw_inl {r : Nat} {Z D Z1 D1 : Rec} {k : Int32 → Rec → Rec → Option ((Int32 × Rec × Rec) ⊕ (Rec × Rec))} (h : X7_readWhose_L27 (nI r) aFu (nI 0) Z D = some (.inl (nI 0, Z1, D1))) : X7_readWhose_J25 (nI r) D k Z = some (.inl (nI 0, Z1, D1)) := by
  have h' : X7_readWhose_L27 (nI r) aFu (0 : Int32) Z D = some (.inl (nI 0, Z1, D1)) := h
  rw [X7_readWhose_J25, h', ob]
  rfl
theorem cw_inr {r : Nat} {Z D Z1 D1 : Rec} {k : Int32 → Rec → Rec → Option ((Int32 × Rec × Rec) ⊕ (Rec × Rec))} (h : X7_readWhose_L27 (nI r) aFu (nI 0) Z D = some (.inr (Z1, D1))) : X7_readWhose_J25 (nI r) D k Z = k (nI (r + 1)) Z1 D1 := by
  have h' : X7_readWhose_L27 (nI r) aFu (0 : Int32) Z D = some (.inr (Z1, D1)) := h
  rw [X7_readWhose_J25, h', ob]
  simp only [aCs, aLet, nI_1]
theorem d_must_fr {T : Nat} {b : Nat → Nat} {m0 M M2 : Rec} {a x : Nat} (h : RM T b m0 M a) (hx : cA T b a ≠ x) (he : X9_must M (nI x) = some M2) (h256 : x < 256 := by decide) : M2.2.1 1 = M.2.1 1 := by
  have nw := r_now h
  have cr := cA_r (fun j hj => (h.2.2.2.2.1 j hj).1) a
  have q : ¬ eR (cA T b a) = nI x := by
    rcases cr with w | w
    · rw [eR_b w]
      exact fun z => hx ((nI_eq (by omega) (by omega)).mp z)
    · rw [w, eR_e]
      exact fun z => n4ne (show x < 2 ^ 31 by omega) z.symm
  unfold X9_must at he
  rw [nw, ob, if_neg q] at he
  rw [← Option.some.inj he]
  exact (r_wrong h).2.1
theorem l_whose {T : Nat} {b : Nat → Nat} {m0 : Rec} {H C R : Nat} (hH : H < 7) (hC : C ≤ 6) (hR : R ≤ 6) : ∀ (e r a f f' : Nat) (Z D M : Rec) (O : Nat → Nat), r + e + 1 = R → e < f → e + 1 < f' → TP T b Z a → RM T b m0 M a → D.1 0 = nI H → D.1 3 = nI C → D.1 2 = nI R → M.2.1 1 0 = nI H → M.2.1 1 1 = nI C → M.2.1 1 2 = nI R → BitsOf 7 (D.2.2 10) (rg r 0 C) O hw → (∀ p, p < 36 → M.2.1 1 (52 + p) = nI (O p) ∧ O p ≤ H) →
    (∃ (a' : Nat) (Z' D' M' : Rec) (O' : Nat → Nat), X7_readWhose_J25 (nI r) D (X7_readWhose_L2 f) Z = some (.inr (Z', D')) ∧ X9_readWhose_L2 f' (nI r) M = some M' ∧ TP T b Z' a' ∧ cA T b a' = 59 ∧ RM T b m0 M' (a' + 1) ∧ BitsOf 7 (D'.2.2 10) (rg R 0 C) O' hw ∧ (∀ p, p < 36 → M'.2.1 1 (52 + p) = nI (O' p) ∧ O' p ≤ H) ∧ D'.1 = D.1 ∧ D'.2.1 = D.2.1 ∧ (∀ s, s ≠ 10 → D'.2.2 s = D.2.2 s) ∧ ∀ j, (j < 52 ∨ 88 ≤ j) → M'.2.1 1 j = M.2.1 1 j) ∨
    (∃ (a' : Nat) (Z' D' M' : Rec), (X7_readWhose_J25 (nI r) D (X7_readWhose_L2 f) Z = some (.inl (nI 0, Z', D')) ∨ (cA T b a' ≠ 59 ∧ X7_readWhose_J25 (nI r) D (X7_readWhose_L2 f) Z = some (.inr (Z', D')))) ∧ X9_readWhose_L2 f' (nI r) M = some M' ∧ TP T b Z' a' ∧ DM m0 M' a') := by
  intro e
  induction e with
  | zero =>
    intro r a f f' Z D M O h1 h2 h3 hT hM d0 d3 d2 f0 f1 f2 hB hO
    obtain ⟨f, rfl⟩ : ∃ z, f = z + 1 := ⟨f - 1, by omega⟩
    obtain ⟨f', rfl⟩ : ∃ z, f' = z + 1 + 1 := ⟨f' - 2, by omega⟩
    have z59 : (if r + 1 = R then 59 else 47) = 59 := if_pos (by omega)
    rcases l_who (show r < 6 by omega) hH hC C 0 a aFu aFu Z D M O (by omega) (show C < 100000 by omega) (show C < 100000 by omega) hT hM d0 d3 f0 f1 hB hO with ⟨a', Z', D', M', O', i1, i2, i3, i4, i5, i6, i7, i8, i9, i10⟩ | ⟨a', Z', D', M', i1, i2, i3, i4, i5⟩
    · have top := rw_top (f' := f' + 1) (show r < R by omega) hR i2 f2 (by rw [i10 2 (by omega)]; exact f2)
      rw [z59] at top
      have cc : X7_readWhose_J25 (nI r) D (X7_readWhose_L2 (f + 1)) Z = some (.inr (Z', D')) := by
        rw [cw_inr i1, X7_readWhose_L2, i7, d2, if_pos (nI_le (show R ≤ r + 1 by omega) (by omega))]
      rcases r_must i4 (show 59 < 256 by decide) with ⟨m1, m2, m3⟩ | ⟨m1, M2, m2, m3⟩
      · have fin : X9_readWhose_L2 (f' + 1) (nI (r + 1)) (sI M' 7 (nI (a' + 1))) = some (sI M' 7 (nI (a' + 1))) := by
          have g2 : (sI M' 7 (nI (a' + 1))).2.1 1 2 = nI R := (i10 2 (by omega)).trans f2
          rw [X9_readWhose_L2, show (2 : Int32) = nI 2 from rfl, rI (by decide) (by decide), ob, g2, if_pos (nI_le (show R ≤ r + 1 by omega) (by omega))]
        refine Or.inl ⟨a', Z', D', sI M' 7 (nI (a' + 1)), O', cc, ?_, i3, m1, m3, bits_rg i5 (fun c => ?_), i6, i7, i8, i9, i10⟩
        · rw [top, m2, ob]
          exact fin
        · rw [rg_next (Or.inl rfl), show r + 1 = R by omega]
      · have e1 := (d_must_fr i4 m1 m2)
        obtain ⟨M3, n1, n2⟩ := d_whose hH hC hR 0 (r + 1) (f' + 1) M2 (by omega) (by omega) (by omega) m3 (by rw [e1, i10 0 (by omega)]; exact f0) (by rw [e1, i10 1 (by omega)]; exact f1) (by rw [e1, i10 2 (by omega)]; exact f2)
        refine Or.inr ⟨a', Z', D', M3, Or.inr ⟨m1, cc⟩, ?_, i3, n2⟩
        rw [top, m2, ob]
        exact n1
    · have top := rw_top (f' := f' + 1) (show r < R by omega) hR i2 f2 (by rw [i5 2 (by omega)]; exact f2)
      rw [z59] at top
      obtain ⟨M2, m2, m3, m4⟩ := d_must i4 (show 59 < 256 by decide)
      obtain ⟨M3, n1, n2⟩ := d_whose hH hC hR 0 (r + 1) (f' + 1) M2 (by omega) (by omega) (by omega) m3 (by rw [m4, i5 0 (by omega)]; exact f0) (by rw [m4, i5 1 (by omega)]; exact f1) (by rw [m4, i5 2 (by omega)]; exact f2)
      refine Or.inr ⟨a', Z', D', M3, Or.inl (cw_inl i1), ?_, i3, n2⟩
      rw [top, m2, ob]
      exact n1
  | succ e ih =>
    intro r a f f' Z D M O h1 h2 h3 hT hM d0 d3 d2 f0 f1 f2 hB hO
    obtain ⟨f, rfl⟩ : ∃ z, f = z + 1 := ⟨f - 1, by omega⟩
    obtain ⟨f', rfl⟩ : ∃ z, f' = z + 1 + 1 := ⟨f' - 2, by omega⟩
    have z47 : (if r + 1 = R then 59 else 47) = 47 := if_neg (by omega)
    rcases l_who (show r < 6 by omega) hH hC C 0 a aFu aFu Z D M O (by omega) (show C < 100000 by omega) (show C < 100000 by omega) hT hM d0 d3 f0 f1 hB hO with ⟨a', Z', D', M', O', i1, i2, i3, i4, i5, i6, i7, i8, i9, i10⟩ | ⟨a', Z', D', M', i1, i2, i3, i4, i5⟩
    · have top := rw_top (f' := f' + 1) (show r < R by omega) hR i2 f2 (by rw [i10 2 (by omega)]; exact f2)
      rw [z47] at top
      have d2' : D'.1 2 = nI R := by rw [i7]; exact d2
      have cc : X7_readWhose_J25 (nI r) D (X7_readWhose_L2 (f + 1)) Z = if cA T b a' = 47 then X7_readWhose_J25 (nI (r + 1)) D' (X7_readWhose_L2 f) (sI Z' 2 (nI (a' + 1))) else some (.inl (nI 0, Z', D')) := by
        have ps := c_passes i3 (show 47 < 256 by decide)
        have n1 : ¬ nI R ≤ nI (r + 1) := nI_ge (by omega) (by omega)
        have n2 : ¬ nI (r + 1) ≤ nI 0 := nI_ge (by omega) (by omega)
        rw [cw_inr i1, X7_readWhose_L2, d2', if_neg n1, if_neg (show ¬ nI (r + 1) ≤ 0 from n2), show (47 : Int32) = nI 47 from rfl, ps]
        by_cases x : cA T b a' = 47
        · rw [if_pos x, if_pos x, ob, if_neg (show ¬ nI 1 = 0 by decide)]
        · rw [if_neg x, if_neg x, ob, if_pos (show nI 0 = 0 from rfl)]
          rfl
      rcases r_must i4 (show 47 < 256 by decide) with ⟨m1, m2, m3⟩ | ⟨m1, M2, m2, m3⟩
      · rw [if_pos m1] at cc
        rw [m2, ob] at top
        rw [cc, top]
        have aT := cA_lt m1 (show 47 < 256 by decide)
        rcases ih (r + 1) (a' + 1) f (f' + 1) (sI Z' 2 (nI (a' + 1))) D' (sI M' 7 (nI (a' + 1))) O' (by omega) (by omega) (by omega) (TP_up i3 aT) m3 (by rw [i7]; exact d0) (by rw [i7]; exact d3) d2' ((i10 0 (by omega)).trans f0) ((i10 1 (by omega)).trans f1) ((i10 2 (by omega)).trans f2) (bits_rg i5 (fun c => rg_next (Or.inl rfl))) i6 with ⟨a'', Z'', D'', M'', O'', j1, j2, j3, j4, j5, j6, j7, j8, j9, j10, j11⟩ | x
        · refine Or.inl ⟨a'', Z'', D'', M'', O'', j1, j2, j3, j4, j5, j6, j7, j8.trans i7, j9.trans i8, fun s hs => (j10 s hs).trans (i9 s hs), fun j hj => (j11 j hj).trans (i10 j hj)⟩
        · exact Or.inr x
      · rw [if_neg m1] at cc
        have e1 := (d_must_fr i4 m1 m2)
        obtain ⟨M3, n1, n2⟩ := d_whose hH hC hR e.succ (r + 1) (f' + 1) M2 (by omega) (by omega) (by omega) m3 (by rw [e1, i10 0 (by omega)]; exact f0) (by rw [e1, i10 1 (by omega)]; exact f1) (by rw [e1, i10 2 (by omega)]; exact f2)
        refine Or.inr ⟨a', Z', D', M3, Or.inl cc, ?_, i3, n2⟩
        rw [top, m2, ob]
        exact n1
    · have top := rw_top (f' := f' + 1) (show r < R by omega) hR i2 f2 (by rw [i5 2 (by omega)]; exact f2)
      rw [z47] at top
      obtain ⟨M2, m2, m3, m4⟩ := d_must i4 (show 47 < 256 by decide)
      obtain ⟨M3, n1, n2⟩ := d_whose hH hC hR e.succ (r + 1) (f' + 1) M2 (by omega) (by omega) (by omega) m3 (by rw [m4, i5 0 (by omega)]; exact f0) (by rw [m4, i5 1 (by omega)]; exact f1) (by rw [m4, i5 2 (by omega)]; exact f2)
      refine Or.inr ⟨a', Z', D', M3, Or.inl (cw_inl i1), ?_, i3, n2⟩
      rw [top, m2, ob]
      exact n1
