/-! land: the later stages -/
theorem g_whose {T : Nat} {b : Nat → Nat} {m0 Z D M : Rec} {a H C R : Nat} (hH : H < 7) (hC : C ≤ 6) (hR : R ≤ 6) (hR1 : 1 ≤ R) (hT : TP T b Z a) (hM : RM T b m0 M a) (d0 : D.1 0 = nI H) (d3 : D.1 3 = nI C) (d2 : D.1 2 = nI R) (f0 : M.2.1 1 0 = nI H) (f1 : M.2.1 1 1 = nI C) (f2 : M.2.1 1 2 = nI R) (hD : ∀ s, s < 7 → D.2.2 10 s = 0) (hS : ∀ p, p < 36 → M.2.1 1 (52 + p) = nI 0) :
    (∃ (a' : Nat) (Z' D' M' : Rec) (O : Nat → Nat), (∀ K, st2 X7_readWhose Z D K = K Z' D') ∧ X9_readWhose M = some M' ∧ TP T b Z' a' ∧ RM T b m0 M' a' ∧ BitsOf 7 (D'.2.2 10) (rg R 0 C) O hw ∧ (∀ p, p < 36 → M'.2.1 1 (52 + p) = nI (O p) ∧ O p ≤ H) ∧ D'.1 = D.1 ∧ D'.2.1 = D.2.1 ∧ (∀ s, s ≠ 10 → D'.2.2 s = D.2.2 s) ∧ ∀ j, (j < 52 ∨ 88 ≤ j) → M'.2.1 1 j = M.2.1 1 j) ∨
    (∃ (a' : Nat) (Z' D' M' : Rec), (∀ K, st2 X7_readWhose Z D K = some (nI 0, Z', D')) ∧ X9_readWhose M = some M' ∧ TP T b Z' a' ∧ DM m0 M' a') := by
  have cl : X7_readWhose Z D = (X7_readWhose_J25 (nI 0) D (X7_readWhose_L2 99999) Z).bind fun e31 => aCs e31 (fun t34 => some t34) (fun s33 => some ((1 : Int32), s33.1, s33.2)) := by
    obtain ⟨f, hf⟩ : ∃ f, f = 99999 := ⟨99999, rfl⟩
    have : X7_readWhose_L2 (f + 1) (0 : Int32) Z D = X7_readWhose_J25 (nI 0) D (X7_readWhose_L2 f) Z := by
      rw [X7_readWhose_L2, d2, if_neg (show ¬ nI R ≤ 0 from nI_ge (show 0 < R by omega) (by omega)), if_pos (show (0 : Int32) ≤ 0 by decide)]
      rfl
    rw [hf] at this
    rw [X7_readWhose]
    exact congrArg (fun z => Option.bind z _) this
  rcases l_whose hH hC hR (R - 1) 0 a 99999 aFu Z D M (fun _ => 0) (by omega) (by omega) (show R - 1 + 1 < 100000 by omega) hT hM d0 d3 d2 f0 f1 f2 (fun s hs c hc => by
      rw [hD s hs, tb_0]
      have : rg 0 0 C c = false := by
        unfold rg
        exact decide_eq_false (by omega)
      rw [this, Bool.false_and]) (fun p hp => ⟨hS p hp, by omega⟩) with ⟨a', Z1, D1, M1, O, x1, x2, x3, x4, x5, x6, x7, x8, x9, x10, x11⟩ | ⟨a', Z1, D1, M1, x1, x2, x3, x4⟩
  · have x2' : X9_readWhose_L2 aFu (0 : Int32) M = some M1 := x2
    have cc : X7_readWhose Z D = some (nI 1, Z1, D1) := by
      rw [cl, x1, ob]
      rfl
    have ct := st2_sep cc x3
    refine Or.inl ⟨a' + 1, sI Z1 2 (nI (a' + 1)), D1, M1, O, fun K => by rw [ct, if_pos x4], ?_, TP_up x3 (cA_lt x4 (by decide)), x5, x6, x7, x8, x9, x10, x11⟩
    rw [X9_readWhose, x2', ob]
  · have x2' : X9_readWhose_L2 aFu (0 : Int32) M = some M1 := x2
    refine Or.inr ⟨a', Z1, D1, M1, ?_, ?_, x3, x4⟩
    · rcases x1 with y | ⟨y1, y2⟩
      · have cc : X7_readWhose Z D = some (nI 0, Z1, D1) := by
          rw [cl, y, ob]
          rfl
        exact st2_bad cc
      · have cc : X7_readWhose Z D = some (nI 1, Z1, D1) := by
          rw [cl, y2, ob]
          rfl
        have ct := st2_sep cc x3
        exact fun K => by rw [ct, if_neg y1]
    · rw [X9_readWhose, x2', ob]
theorem g_words {T : Nat} {b : Nat → Nat} {m0 Z D M : Rec} {a : Nat} (hT : TP T b Z a) (hM : RM T b m0 M a) (h4 : M.2.1 1 4 = nI 0) (h0 : ∀ j, 88 ≤ j → j < 96 → M.2.1 1 j = nI 0) :
    (∃ (W a' : Nat) (Z' D' M' : Rec) (L E : Nat → Nat), 1 ≤ W ∧ W ≤ 4 ∧ (∀ K, st2 X7_readWords Z D K = K Z' D') ∧ X9_readWords M = some M' ∧ TP T b Z' a' ∧ RM T b m0 M' a' ∧ M'.2.1 1 4 = nI W ∧ D'.1 4 = nI W ∧ (∀ i, i < W → D'.2.1 5 i = nI (L i) ∧ D'.2.1 6 i = nI (E i) ∧ M'.2.1 1 (88 + 2 * i) = nI (L i) ∧ M'.2.1 1 (88 + 2 * i + 1) = nI (E i) ∧ E i < 32 ∧ L i ≤ 6) ∧ (∀ j, j ≠ 4 → D'.1 j = D.1 j) ∧ (∀ j, j ≠ 5 → j ≠ 6 → D'.2.1 j = D.2.1 j) ∧ D'.2.2 = D.2.2 ∧ ∀ j, j ≠ 4 → j < 88 → M'.2.1 1 j = M.2.1 1 j) ∨
    (∃ (a' : Nat) (Z' D' M' : Rec), (∀ K, st2 X7_readWords Z D K = some (nI 0, Z', D')) ∧ X9_readWords M = some M' ∧ TP T b Z' a' ∧ DM m0 M' a') := by
  rcases l_words 4 0 a aFu aFu Z D M (fun _ => 0) (fun _ => 0) (by decide) (by decide) (by decide) (by decide) hT hM h4 (fun j j1 j2 => h0 j (by omega) j2) (fun i hi => by omega) with ⟨W, a', Z1, D1, M1, L, E, x1, x2, x3, x4, x5, x6, x7, x8, x9, x10, x11, x12⟩ | ⟨a', Z1, D1, M1, x1, x2, x3, x4⟩
  · have x3' : X7_readWords_L2 aFu (0 : Int32) Z D = some (.inr (nI W, Z1, D1)) := x3
    have x4' : X9_readWords_L2 aFu (1 : Int32) M = some M1 := x4
    have cc : X7_readWords Z D = some (nI 1, Z1, sI D1 4 (nI W)) := by
      rw [X7_readWords, x3', ob]
      rfl
    have ct := st2_sep cc x5
    have rt : X9_readWords M = X9_must M1 (nI 59) := by
      rw [X9_readWords, x4', ob]
      show (X9_must M1 (nI 59)).bind _ = _
      cases X9_must M1 (nI 59) <;> rfl
    rcases r_must x6 (show 59 < 256 by decide) with ⟨n1, n2, n3⟩ | ⟨n1, M2, n2, n3⟩
    · exact Or.inl ⟨W, a' + 1, sI Z1 2 (nI (a' + 1)), sI D1 4 (nI W), sI M1 7 (nI (a' + 1)), L, E, x1, x2, fun K => by rw [ct, if_pos n1], by rw [rt, n2], TP_up x5 (cA_lt n1 (by decide)), n3, x7, rfl, x8, fun j hj => Eq.trans (show upd D1.1 4 (nI W) j = D1.1 j from pk_un hj) (congrFun x9 j), x10, x11, x12⟩
    · exact Or.inr ⟨a', Z1, sI D1 4 (nI W), M2, fun K => by rw [ct, if_neg n1], by rw [rt, n2], x5, n3⟩
  · have x1' : X7_readWords_L2 aFu (0 : Int32) Z D = some (.inl (nI 0, Z1, D1)) := x1
    have x2' : X9_readWords_L2 aFu (1 : Int32) M = some M1 := x2
    have cc : X7_readWords Z D = some (nI 0, Z1, D1) := by
      rw [X7_readWords, x1', ob]
      rfl
    obtain ⟨M2, u1, u2, -⟩ := d_must x4 (show 59 < 256 by decide)
    refine Or.inr ⟨a', Z1, D1, M2, st2_bad cc, ?_, x3, u2⟩
    rw [X9_readWords, x2', ob, show (59 : Int32) = nI 59 from rfl, u1, ob]
theorem g_change {T : Nat} {b : Nat → Nat} {m0 Z D M : Rec} {a : Nat} (hT : TP T b Z a) (hM : RM T b m0 M a) :
    (∃ (a' : Nat) (Z' D' M' : Rec) (G : Nat → Nat), st5 Z D = some (nI 1, Z', D') ∧ X9_readChange M = some M' ∧ TP T b Z' a' ∧ RM T b m0 M' a' ∧ (∀ i, i < 5 → D'.2.1 7 i = nI (G i) ∧ M'.2.1 1 (11 + i) = nI (G i) ∧ G i < 5) ∧ D'.1 = D.1 ∧ (∀ j, j ≠ 7 → D'.2.1 j = D.2.1 j) ∧ D'.2.2 = D.2.2 ∧ ∀ j, (j < 11 ∨ 16 ≤ j) → M'.2.1 1 j = M.2.1 1 j) ∨
    (∃ (a' : Nat) (Z' D' M' : Rec), st5 Z D = some (nI 0, Z', D') ∧ X9_readChange M = some M' ∧ TP T b Z' a' ∧ DM m0 M' a') := by
  have dead : ∀ {M1 : Rec} {a' : Nat}, X9_readChange_L2 aFu (0 : Int32) M = some M1 → DM m0 M1 a' → ∃ M', X9_readChange M = some M' ∧ DM m0 M' a' := fun {M1 a'} h1 h2 => by
    rw [X9_readChange, h1, ob]
    split
    · exact ⟨M1, rfl, h2⟩
    · exact ⟨X9_wrong M1, rfl, (d_wrong h2).1⟩
  rcases l_chg 5 0 a aFu aFu Z D M (fun _ => 0) (by decide) (by decide) (by decide) hT hM (fun i hi => by omega) with ⟨a', Z1, D1, M1, G, x1, x2, x3, x4, x5, x6, x7, x8, x9⟩ | ⟨a', Z1, D1, M1, x1, x2, x3, x4⟩
  · have x1' : X7_readChange_L2 aFu (0 : Int32) Z D = some (.inr (Z1, D1)) := x1
    have x2' : X9_readChange_L2 aFu (0 : Int32) M = some M1 := x2
    have cc : X7_readChange Z D = some (nI 1, Z1, D1) := by
      rw [X7_readChange, x1', ob]
      rfl
    have z1 := x3.2.2.2.1
    have z2 := x3.2.2.2.2.1
    have zT := x3.1
    have za := x3.2.2.1
    have m6 : M1.1 6 = nI T := x4.1.2.1.trans x4.2.2.2.1
    have m7 := x4.2.2.2.2.2.1
    by_cases q : a' = T
    · refine Or.inl ⟨a', Z1, D1, M1, G, ?_, ?_, x3, x4, x5, x6, x7, x8, x9⟩
      · rw [st5, cc, ob, if_neg (show ¬ nI 1 = 0 by decide), if_pos (show Z1.1 2 = Z1.1 1 by rw [z1, z2, q])]
        rfl
      · rw [X9_readChange, x2', ob, if_pos (show M1.1 6 ≤ M1.1 7 by rw [m6, m7]; exact nI_le (by omega) (by omega))]
    · refine Or.inr ⟨a', Z1, D1, X9_wrong M1, ?_, ?_, x3, (r_wrong x4).1⟩
      · rw [st5, cc, ob, if_neg (show ¬ nI 1 = 0 by decide), if_neg (show ¬ Z1.1 2 = Z1.1 1 by rw [z1, z2]; exact fun z => q ((nI_eq (by omega) (by omega)).mp z))]
        rfl
      · rw [X9_readChange, x2', ob, if_neg (show ¬ M1.1 6 ≤ M1.1 7 by rw [m6, m7]; exact nI_ge (by omega) (by omega))]
  · have x1' : X7_readChange_L2 aFu (0 : Int32) Z D = some (.inl (nI 0, Z1, D1)) := x1
    have x2' : X9_readChange_L2 aFu (0 : Int32) M = some M1 := x2
    have cc : X7_readChange Z D = some (nI 0, Z1, D1) := by
      rw [X7_readChange, x1', ob]
      rfl
    obtain ⟨M', u1, u2⟩ := dead x2' x4
    refine Or.inr ⟨a', Z1, D1, M', ?_, u1, x3, u2⟩
    rw [st5, cc, ob, if_pos (show nI 0 = 0 from rfl)]
    rfl
