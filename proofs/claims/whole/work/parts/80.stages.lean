/-! land: its stages, class and reference together -/
abbrev TR : Type := Option (Int32 × Rec × Rec)
def st1 (Z D : Rec) (K : Rec → Rec → TR) : TR :=
  (X7_passes Z (108 : Int32)).bind fun v4 => if v4.1 = 0 then some ((0 : Int32), v4.2, D) else
    (X7_readHolders v4.2 D).bind fun v7 => if v7.1 = 0 then some ((0 : Int32), v7.2.1, v7.2.2) else
      (X7_passes v7.2.1 (59 : Int32)).bind fun v10 => if v10.1 = 0 then some ((0 : Int32), v10.2, v7.2.2) else K v10.2 v7.2.2
def st2 (F : Rec → Rec → TR) (Z D : Rec) (K : Rec → Rec → TR) : TR :=
  (F Z D).bind fun v13 => if v13.1 = 0 then some ((0 : Int32), v13.2.1, v13.2.2) else
    (X7_passes v13.2.1 (59 : Int32)).bind fun v16 => if v16.1 = 0 then some ((0 : Int32), v16.2, v13.2.2) else K v16.2 v13.2.2
def st5 (Z D : Rec) : TR :=
  (X7_readChange Z D).bind fun v31 => if v31.1 = 0 then some ((0 : Int32), v31.2.1, v31.2.2) else
    if (v31.2.1.1 2) = (v31.2.1.1 1) then some ((1 : Int32), v31.2.1, v31.2.2) else some ((0 : Int32), v31.2.1, v31.2.2)
theorem c_into (S0 S1 : Rec) : X7_readInto S0 S1 = (X2_clear S1).bind fun v2 => st1 (sI S0 2 (0 : Int32)) v2 fun Z D => st2 X7_readCells Z D fun Z D => st2 X7_readWhose Z D fun Z D => st2 X7_readWords Z D fun Z D => st5 Z D := rfl
/-- the class's separator after a stage that went well, and the reference's -/
theorem st2_sep {T : Nat} {b : Nat → Nat} {Z D Z1 D1 : Rec} {a : Nat} {F : Rec → Rec → TR} (h : F Z D = some (nI 1, Z1, D1)) (hT : TP T b Z1 a) (K : Rec → Rec → TR) : st2 F Z D K = if cA T b a = 59 then K (sI Z1 2 (nI (a + 1))) D1 else some (nI 0, Z1, D1) := by
  have ps := c_passes hT (show 59 < 256 by decide)
  rw [st2, h, ob, if_neg (show ¬ nI 1 = 0 by decide), show (59 : Int32) = nI 59 from rfl, ps]
  by_cases x : cA T b a = 59
  · rw [if_pos x, if_pos x, ob, if_neg (show ¬ nI 1 = 0 by decide)]
  · rw [if_neg x, if_neg x, ob, if_pos (show nI 0 = 0 from rfl)]
    rfl
theorem st2_bad {Z D Z1 D1 : Rec} {F : Rec → Rec → TR} (h : F Z D = some (nI 0, Z1, D1)) (K : Rec → Rec → TR) : st2 F Z D K = some (nI 0, Z1, D1) := by
  rw [st2, h, ob, if_pos (show nI 0 = 0 from rfl)]
  rfl
theorem d_hold {m0 M : Rec} {a : Nat} (h : DM m0 M a) : ∃ M', (X9_readHolders_L6 aFu M).bind (fun e17 => (rdI (e17.2.1 1) 96 (0 : Int32)).bind fun v19 => if v19 = 0 then X9_readHolders_J85 (X9_wrong e17) else X9_readHolders_J85 e17) = some M' ∧ DM m0 M' a := by
  have l6 : X9_readHolders_L6 aFu M = some M := by
    obtain ⟨f, hf⟩ : ∃ f, aFu = f + 1 := ⟨99999, rfl⟩
    rw [hf, X9_readHolders_L6, d_now h, ob, if_pos (show X9_kindBy (-nI 4) = (-4 : Int32) by decide)]
  rw [l6, ob, show rdI (M.2.1 1) 96 (0 : Int32) = some (M.2.1 1 0) from rI (j := 0) (by decide) (by decide), ob]
  split
  · obtain ⟨M', i1, i2, -⟩ := d_must (d_wrong h).1 (show 59 < 256 by decide)
    exact ⟨M', by rw [X9_readHolders_J85, show (59 : Int32) = nI 59 from rfl, i1, ob], i2⟩
  · obtain ⟨M', i1, i2, -⟩ := d_must h (show 59 < 256 by decide)
    exact ⟨M', by rw [X9_readHolders_J85, show (59 : Int32) = nI 59 from rfl, i1, ob], i2⟩
theorem g_holders {T : Nat} {b : Nat → Nat} {m0 Z D M : Rec} {a : Nat} (hT : TP T b Z a) (hM : RM T b m0 M a) (h0 : M.2.1 1 0 = nI 0) :
    (∃ (H a' : Nat) (Z' D' M' : Rec) (K' : Nat → Nat), 1 ≤ H ∧ H ≤ 6 ∧ (∀ K, st1 Z D K = K Z' D') ∧ X9_readHolders M = some M' ∧ TP T b Z' a' ∧ RM T b m0 M' a' ∧ M'.2.1 1 0 = nI H ∧ D'.1 0 = nI H ∧ (∀ i, i < H → 1 ≤ K' i ∧ K' i ≤ 5 ∧ D'.2.1 1 i = nI (K' i) ∧ M'.2.1 1 (5 + i) = nI (K' i)) ∧ (∀ j, j ≠ 0 → D'.1 j = D.1 j) ∧ D'.2.2 = D.2.2 ∧ ∀ j, j ≠ 0 → (j < 5 ∨ 11 ≤ j) → M'.2.1 1 j = M.2.1 1 j) ∨
    (∃ (a' : Nat) (Z' D' M' : Rec), (∀ K, st1 Z D K = some (nI 0, Z', D')) ∧ X9_readHolders M = some M' ∧ TP T b Z' a' ∧ DM m0 M' a') := by
  have ps := c_passes hT (show 108 < 256 by decide)
  rcases r_must hM (show 108 < 256 by decide) with ⟨m1, m2, m3⟩ | ⟨m1, M2, m2, m3⟩
  · have aT := cA_lt m1 (show 108 < 256 by decide)
    rw [if_pos m1] at ps
    obtain ⟨n, a', Z1, D1, M1, K1, i1, i2, i3, i4, i5, i6, i7, i8, i9, i10⟩ := l_holders 6 0 (a + 1) aFu aFu (sI Z 2 (nI (a + 1))) D (sI M 7 (nI (a + 1))) (fun _ => 0) (by omega) (by decide) (by decide) (TP_up hT aT) m3 h0 (fun i hi => by omega)
    have i2' : X7_readHolders_L2 aFu (0 : Int32) (sI Z 2 (nI (a + 1))) D = some (nI n, Z1, D1) := i2
    have rd : rdI (M1.2.1 1) 96 (0 : Int32) = some (nI n) := (rI (j := 0) (by decide) (by decide)).trans (congrArg some i6)
    have rt : X9_readHolders M = if n = 0 then X9_readHolders_J85 (X9_wrong M1) else X9_readHolders_J85 M1 := by
      rw [X9_readHolders, show (108 : Int32) = nI 108 from rfl, m2, ob, i3, ob, rd, ob]
      by_cases y : n = 0
      · rw [if_pos (show nI n = 0 by rw [y]; rfl), if_pos y]
      · rw [if_neg (show ¬ nI n = 0 from fun z => y ((nI_eq (by omega) (by decide)).mp z)), if_neg y]
    by_cases y : n = 0
    · rw [if_pos y] at rt
      obtain ⟨M', u1, u2, -⟩ := d_must (r_wrong i5).1 (show 59 < 256 by decide)
      refine Or.inr ⟨a', Z1, sI D1 0 (nI n), M', fun K => ?_, ?_, i4, u2⟩
      · rw [st1, show (108 : Int32) = nI 108 from rfl, ps, ob, if_neg (show ¬ nI 1 = 0 by decide), X7_readHolders, i2', ob, if_pos (show nI n ≤ 0 from nI_le (show n ≤ 0 by omega) (by decide)), ob, if_pos (show (0 : Int32) = 0 from rfl)]
        rfl
      · rw [rt, X9_readHolders_J85, show (59 : Int32) = nI 59 from rfl, u1, ob]
    · rw [if_neg y, X9_readHolders_J85, show (59 : Int32) = nI 59 from rfl] at rt
      have ps2 := c_passes i4 (show 59 < 256 by decide)
      have ct : ∀ K, st1 Z D K = if cA T b a' = 59 then K (sI Z1 2 (nI (a' + 1))) (sI D1 0 (nI n)) else some (nI 0, Z1, sI D1 0 (nI n)) := fun K => by
        rw [st1, show (108 : Int32) = nI 108 from rfl, ps, ob, if_neg (show ¬ nI 1 = 0 by decide), X7_readHolders, i2', ob, if_neg (show ¬ nI n ≤ 0 from nI_ge (show 0 < n by omega) (by omega)), ob, if_neg (show ¬ (1 : Int32) = 0 by decide), show (59 : Int32) = nI 59 from rfl, ps2]
        by_cases x : cA T b a' = 59
        · rw [if_pos x, if_pos x, ob, if_neg (show ¬ nI 1 = 0 by decide)]
        · rw [if_neg x, if_neg x, ob, if_pos (show nI 0 = 0 from rfl)]
          rfl
      rcases r_must i5 (show 59 < 256 by decide) with ⟨n1, n2, n3⟩ | ⟨n1, M2, n2, n3⟩
      · refine Or.inl ⟨n, a' + 1, sI Z1 2 (nI (a' + 1)), sI D1 0 (nI n), sI M1 7 (nI (a' + 1)), K1, by omega, i1, fun K => ?_, ?_, TP_up i4 (cA_lt n1 (by decide)), n3, i6, rfl, i7, fun j hj => ?_, i9, i10⟩
        · rw [ct, if_pos n1]
        · rw [rt, n2, ob]
        · exact (pk_un hj).trans (congrFun i8 j)
      · refine Or.inr ⟨a', Z1, sI D1 0 (nI n), M2, fun K => ?_, ?_, i4, n3⟩
        · rw [ct, if_neg n1]
        · rw [rt, n2, ob]
  · rw [if_neg m1] at ps
    obtain ⟨M', u1, u2⟩ := d_hold m3
    refine Or.inr ⟨a, Z, D, M', fun K => ?_, ?_, hT, u2⟩
    · rw [st1, show (108 : Int32) = nI 108 from rfl, ps, ob, if_pos (show nI 0 = 0 from rfl)]
      rfl
    · rw [X9_readHolders, show (108 : Int32) = nI 108 from rfl, m2, ob]
      exact u1
theorem g_cells {T : Nat} {b : Nat → Nat} {m0 Z D M : Rec} {a : Nat} (hT : TP T b Z a) (hM : RM T b m0 M a) (h2 : M.2.1 1 2 = nI 0) (hD : ∀ s, s < 6 → D.2.2 9 s = 0) (hS : ∀ p, p < 36 → M.2.1 1 (16 + p) = nI 0) :
    (∃ (R C a' : Nat) (Z' D' M' : Rec) (S : Nat → Nat), 1 ≤ R ∧ R ≤ 6 ∧ 1 ≤ C ∧ C ≤ 6 ∧ (∀ K, st2 X7_readCells Z D K = K Z' D') ∧ X9_readSounds M = some M' ∧ TP T b Z' a' ∧ RM T b m0 M' a' ∧ D'.1 3 = nI C ∧ D'.1 2 = nI R ∧ M'.2.1 1 1 = nI C ∧ M'.2.1 1 2 = nI R ∧ BitsOf 6 (D'.2.2 9) (rg R 0 C) S (fun s => s) ∧ (∀ p, p < 36 → M'.2.1 1 (16 + p) = nI (S p) ∧ S p < 6) ∧ (∀ j, j ≠ 3 → j ≠ 2 → D'.1 j = D.1 j) ∧ D'.2.1 = D.2.1 ∧ (∀ s, s ≠ 9 → D'.2.2 s = D.2.2 s) ∧ ∀ j, j ≠ 1 → j ≠ 2 → (j < 16 ∨ 52 ≤ j) → M'.2.1 1 j = M.2.1 1 j) ∨
    (∃ (a' : Nat) (Z' D' M' : Rec), (∀ K, st2 X7_readCells Z D K = some (nI 0, Z', D')) ∧ X9_readSounds M = some M' ∧ TP T b Z' a' ∧ DM m0 M' a') := by
  rcases l_cells 6 0 a aFu aFu Z D M 0 (fun _ => 0) (by decide) (by decide) (by decide) (by decide) hT hM h2 (fun z => (z rfl).elim) (fun s hs c hc => by
      rw [hD s hs, tb_0]
      show false = (rg 0 0 0 c && _)
      have : rg 0 0 0 c = false := by
        unfold rg
        exact decide_eq_false (by omega)
      rw [this, Bool.false_and]) (fun p hp => ⟨hS p hp, by decide⟩) with ⟨R, C, a', Z1, D1, M1, S, x1, x2, x3, x4, x5, x6, x7, x8, x9, x10, x11, x12, x13, x14, x15, x16, x17⟩ | ⟨a', Z1, D1, M1, x1, x2, x3, x4⟩
  · have x5' : X7_readCells_L2 aFu (0 : Int32) Z D = some (.inr (nI R, Z1, D1)) := x5
    have x6' : X9_readSounds_L2 aFu (1 : Int32) M = some M1 := x6
    have cc : X7_readCells Z D = some (nI 1, Z1, sI D1 2 (nI R)) := by
      rw [X7_readCells, x5', ob]
      rfl
    have ct := st2_sep cc x7
    have rt : X9_readSounds M = X9_must M1 (nI 59) := by
      rw [X9_readSounds, x6', ob]
      show (X9_must M1 (nI 59)).bind _ = _
      cases X9_must M1 (nI 59) <;> rfl
    rcases r_must x8 (show 59 < 256 by decide) with ⟨n1, n2, n3⟩ | ⟨n1, M2, n2, n3⟩
    · exact Or.inl ⟨R, C, a' + 1, sI Z1 2 (nI (a' + 1)), sI D1 2 (nI R), sI M1 7 (nI (a' + 1)), S, x1, x2, x3, x4, fun K => by rw [ct, if_pos n1], by rw [rt, n2], TP_up x7 (cA_lt n1 (by decide)), n3, Eq.trans (show upd D1.1 2 (nI R) 3 = D1.1 3 from pk_un (by decide)) x9, rfl, x10, x11, x12, x13, fun j j1 j2 => (pk_un j2).trans (x14 j j1), x15, x16, x17⟩
    · exact Or.inr ⟨a', Z1, sI D1 2 (nI R), M2, fun K => by rw [ct, if_neg n1], by rw [rt, n2], x7, n3⟩
  · have x1' : X7_readCells_L2 aFu (0 : Int32) Z D = some (.inl (nI 0, Z1, D1)) := x1
    have x2' : X9_readSounds_L2 aFu (1 : Int32) M = some M1 := x2
    have cc : X7_readCells Z D = some (nI 0, Z1, D1) := by
      rw [X7_readCells, x1', ob]
      rfl
    obtain ⟨M2, u1, u2, -⟩ := d_must x4 (show 59 < 256 by decide)
    refine Or.inr ⟨a', Z1, D1, M2, st2_bad cc, ?_, x3, u2⟩
    rw [X9_readSounds, x2', ob, show (59 : Int32) = nI 59 from rfl, u1, ob]
