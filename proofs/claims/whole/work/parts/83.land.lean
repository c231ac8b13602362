/-! land: class and reference read the same land, or fail at the same place -/
theorem q_land {T : Nat} {b : Nat → Nat} {m S0 S1 : Rec} (hT : T ≤ 130) (t1 : S0.1 1 = nI T) (t2 : m.1 6 = nI T) (tb' : ∀ j, j < T → b j < 256 ∧ S0.2.1 0 j = nI (b j) ∧ m.2.1 5 j = nI (b j)) :
    (∃ (a : Nat) (Z D M : Rec), X7_readInto S0 S1 = some (nI 0, Z, D) ∧ Z.1 2 = nI a ∧ X9_land m = some ((-100 : Int32) - nI a, sI M 6 (0 : Int32)) ∧ Fr m M) ∨
    (∃ (d : LD) (Z D M : Rec), X7_readInto S0 S1 = some (nI 1, Z, D) ∧ okL d ∧ lY d = 0 ∧ LandOf d D ∧ RowOf d (M.2.1 1) ∧ Fr m M ∧ X9_land m = some (laid (M.2.1 1) (M.2.1 0) 96 0, sI (sA (sI M 6 (0 : Int32)) 0 (laid (M.2.1 1) (M.2.1 0) 96)) 4 (0 : Int32))) := by
  obtain ⟨D0, c0, c8, c9, c10⟩ := c_clear S1
  have hZ : TP T b (sI S0 2 (0 : Int32)) 0 := ⟨hT, fun j hj => (tb' j hj).1, by omega, Eq.trans (show upd S0.1 2 0 1 = S0.1 1 from pk_un (by decide)) t1, rfl, fun j hj => (tb' j hj).2.1⟩
  obtain ⟨M0, hM0⟩ : ∃ M0, M0 = sI (sI (sA m 1 (laid (fun _ => nI 0) (m.2.1 1) 96)) 7 (0 : Int32)) 8 (-4 : Int32) := ⟨_, rfl⟩
  have hM : RM T b m M0 0 := by
    rw [hM0]
    refine ⟨Fr_I (Fr_I (Fr_A (Fr_refl m) (by omega)) (by omega)) (by omega), hT, by omega, t2, fun j hj => ⟨(tb' j hj).1, (tb' j hj).2.2⟩, rfl, rfl⟩
  have f0 : ∀ j, j < 96 → M0.2.1 1 j = nI 0 := fun j hj => by
    rw [hM0]
    exact if_pos hj
  have cT : X7_readInto S0 S1 = st1 (sI S0 2 (0 : Int32)) D0 fun Z D => st2 X7_readCells Z D fun Z D => st2 X7_readWhose Z D fun Z D => st2 X7_readWords Z D fun Z D => st5 Z D := by
    rw [c_into, c0, ob]
  have rT : X9_land m = (X9_readHolders M0).bind fun v12 => if (v12.1 8) = (-4 : Int32) then (X9_readSounds v12).bind fun v46 => X9_land_J49 v46 else X9_land_J49 v12 := by
    rw [X9_land, r_zero, ob, hM0]
  rcases g_holders hZ hM (f0 0 (by decide)) with ⟨H, a1, Z1, D1, M1, K, h1, h6, k1, r1, p1, q1, u1, w1, hk, dI1, dL1, fr1⟩ | ⟨a1, Z1, D1, M1, k1, r1, p1, q1⟩
  rotate_left
  · refine Or.inl ⟨a1, Z1, D1, M1, ?_, p1.2.2.2.2.1, ?_, q1.1⟩
    · rw [cT, k1]
    · rw [rT, r1, ob, if_neg (show ¬ M1.1 8 = (-4 : Int32) by rw [q1.2.2]; exact n4l (by have := q1.2.1; omega)), (r_dead q1).2.2.2]
  rw [k1] at cT
  rw [r1, ob, if_pos (show M1.1 8 = (-4 : Int32) from q1.2.2.2.2.2.2)] at rT
  rcases g_cells p1 q1 ((fr1 2 (by decide) (by decide)).trans (f0 2 (by decide))) (fun s hs => by rw [dL1]; exact c9 s hs) (fun p hp => (fr1 _ (by omega) (by omega)).trans (f0 _ (by omega))) with ⟨R, C, a2, Z2, D2, M2, S, R1, R6, C1, C6, k2, r2, p2, q2, x3, x2, y1, y2, hB, hS, dI2, dA2, dL2, fr2⟩ | ⟨a2, Z2, D2, M2, k2, r2, p2, q2⟩
  rotate_left
  · refine Or.inl ⟨a2, Z2, D2, M2, ?_, p2.2.2.2.2.1, ?_, q2.1⟩
    · rw [cT, k2]
    · rw [rT, r2, ob, (r_dead q2).2.2.2]
  rw [k2] at cT
  rw [r2, ob, X9_land_J49, if_pos (show M2.1 8 = (-4 : Int32) from q2.2.2.2.2.2.2)] at rT
  have e0 : D2.1 0 = nI H := (dI2 0 (by decide) (by decide)).trans w1
  have g0 : M2.2.1 1 0 = nI H := (fr2 0 (by decide) (by decide) (by decide)).trans u1
  rcases g_whose (show H < 7 by omega) C6 R6 R1 p2 q2 e0 x3 x2 g0 y1 y2 (fun s hs => by rw [dL2 10 (by decide), dL1]; exact c10 s hs) (fun p hp => (fr2 _ (by omega) (by omega) (by omega)).trans ((fr1 _ (by omega) (by omega)).trans (f0 _ (by omega)))) with ⟨a3, Z3, D3, M3, O, k3, r3, p3, q3, hB3, hO, dI3, dA3, dL3, fr3⟩ | ⟨a3, Z3, D3, M3, k3, r3, p3, q3⟩
  rotate_left
  · refine Or.inl ⟨a3, Z3, D3, M3, ?_, p3.2.2.2.2.1, ?_, q3.1⟩
    · rw [cT, k3]
    · rw [rT, r3, ob, (r_dead q3).2.2.1]
  rw [k3] at cT
  rw [r3, ob, X9_land_J62, if_pos (show M3.1 8 = (-4 : Int32) from q3.2.2.2.2.2.2)] at rT
  rcases g_words p3 q3 ((fr3 4 (by decide)).trans ((fr2 4 (by decide) (by decide) (by decide)).trans ((fr1 4 (by decide) (by decide)).trans (f0 4 (by decide))))) (fun j j1 j2 => (fr3 j (by omega)).trans ((fr2 j (by omega) (by omega) (by omega)).trans ((fr1 j (by omega) (by omega)).trans (f0 j (by omega))))) with ⟨W, a4, Z4, D4, M4, L, E, W1, W4, k4, r4, p4, q4, v4, x4, hL, dI4, dA4, dL4, fr4⟩ | ⟨a4, Z4, D4, M4, k4, r4, p4, q4⟩
  rotate_left
  · refine Or.inl ⟨a4, Z4, D4, M4, ?_, p4.2.2.2.2.1, ?_, q4.1⟩
    · rw [cT, k4]
    · rw [rT, r4, ob, (r_dead q4).2.1]
  rw [k4] at cT
  rw [r4, ob, X9_land_J75, if_pos (show M4.1 8 = (-4 : Int32) from q4.2.2.2.2.2.2)] at rT
  rcases g_change p4 q4 with ⟨a5, Z5, D5, M5, G, k5, r5, p5, q5, hG, dI5, dA5, dL5, fr5⟩ | ⟨a5, Z5, D5, M5, k5, r5, p5, q5⟩
  rotate_left
  · refine Or.inl ⟨a5, Z5, D5, M5, ?_, p5.2.2.2.2.1, ?_, q5.1⟩
    · rw [cT, k5]
    · rw [rT, r5, ob, (r_dead q5).1]
  refine Or.inr ⟨(H, C, R, 0, W, K, G, S, O, L, E), Z5, D5, M5, ?_, ?_, rfl, ?_, ?_, q5.1, ?_⟩
  · rw [cT, k5]
  · exact ⟨h6, C6, R6, by show 0 ≤ 20000; omega, W4, fun i hi => ⟨(hk i hi).1, (hk i hi).2.1⟩, fun v hv => (hG v hv).2.2, fun p hp => (hS p hp).2, fun p hp => (hO p hp).2, fun w hw => ⟨(hL w hw).2.2.2.2.1, (hL w hw).2.2.2.2.2⟩, fun z => by have : H = 0 := z; omega, fun _ => ⟨by show 0 < C; omega, by show 0 < R; omega, by show 0 < W; omega⟩⟩
  · have i0 : ∀ j, j ≠ 4 → D5.1 j = D2.1 j := fun j hj => by rw [dI5, dI4 j hj, dI3]
    have eq : ∀ c, inC (H, C, R, 0, W, K, G, S, O, L, E) c = rg R 0 C c := fun c => by
      show (decide (c / 8 < R) && decide (c % 8 < C)) = decide ((c / 8 < R ∧ c % 8 < C) ∨ (c / 8 = R ∧ c % 8 < 0))
      rw [← Bool.decide_and, decide_eq_decide]
      omega
    refine ⟨(i0 0 (by decide)).trans e0, (i0 3 (by decide)).trans x3, (i0 2 (by decide)).trans x2, ?_, ?_, fun i hi => ?_, fun v hv => (hG v hv).1, fun s hs c hc => ?_, fun h hh c hc => ?_, fun w hw => ⟨?_, ?_⟩⟩
    · rw [i0 8 (by decide), dI2 8 (by decide) (by decide), dI1 8 (by decide)]
      exact c8
    · rw [dI5]
      exact x4
    · rw [dA5 1 (by decide), dA4 1 (by decide) (by decide), dA3, dA2]
      exact (hk i hi).2.2.1
    · rw [dL5, dL4, dL3 9 (by decide), eq]
      exact hB s hs c hc
    · rw [dL5, dL4, eq]
      exact hB3 h hh c hc
    · rw [dA5 5 (by decide)]
      exact (hL w hw).1
    · rw [dA5 6 (by decide)]
      exact (hL w hw).2.1
  · have s4 : ∀ j, j ≠ 4 → j < 88 → (j < 11 ∨ 16 ≤ j) → M5.2.1 1 j = M3.2.1 1 j := fun j j1 j2 j3 => (fr5 j j3).trans (fr4 j j1 j2)
    refine ⟨?_, ?_, ?_, ?_, ?_, fun i hi => ?_, fun v hv => (hG v hv).2.1, fun p hp => ?_, fun p hp => ?_, fun w hw => ⟨?_, ?_⟩⟩
    · exact (s4 0 (by decide) (by decide) (by decide)).trans ((fr3 0 (by decide)).trans g0)
    · exact (s4 1 (by decide) (by decide) (by decide)).trans ((fr3 1 (by decide)).trans y1)
    · exact (s4 2 (by decide) (by decide) (by decide)).trans ((fr3 2 (by decide)).trans y2)
    · exact (s4 3 (by decide) (by decide) (by decide)).trans ((fr3 3 (by decide)).trans ((fr2 3 (by decide) (by decide) (by decide)).trans ((fr1 3 (by decide) (by decide)).trans (f0 3 (by decide)))))
    · exact (fr5 4 (by decide)).trans v4
    · have hi' : i < H := hi
      exact (s4 _ (by omega) (by omega) (by omega)).trans ((fr3 _ (by omega)).trans ((fr2 _ (by omega) (by omega) (by omega)).trans (hk i hi).2.2.2))
    · exact (s4 _ (by omega) (by omega) (by omega)).trans ((fr3 _ (by omega)).trans (hS p hp).1)
    · exact (s4 _ (by omega) (by omega) (by omega)).trans (hO p hp).1
    · exact (fr5 _ (by omega)).trans (hL w hw).2.2.1
    · exact (fr5 _ (by omega)).trans (hL w hw).2.2.2.1
  · rw [rT, r5, ob, r_live q5.2.2.2.2.2.2]
theorem eq_land {c : CSt} {m : Rec} (hI : Inv c m) : ∃ (r : Int32) (c1 : CSt) (m1 : Rec), stC_land c = some (r, c1) ∧ stM_land m = some (r, m1) ∧ Inv c1 m1 := by
  obtain ⟨iN, ⟨T, hT, t1, t2, ht⟩, iP, iG, iS⟩ := hI
  have hb : ∀ j, j < T → (fun i => (m.2.1 5 i).toInt.toNat) j < 256 ∧ (c_tape c).2.1 0 j = nI ((fun i => (m.2.1 5 i).toInt.toNat) j) ∧ m.2.1 5 j = nI ((fun i => (m.2.1 5 i).toInt.toNat) j) := fun j hj => by
    obtain ⟨b0, h1, h2, h3⟩ := ht j hj
    have e : (m.2.1 5 j).toInt.toNat = b0 := by
      rw [h3, nI_toInt (by omega)]
      rfl
    show (m.2.1 5 j).toInt.toNat < 256 ∧ _ = nI ((m.2.1 5 j).toInt.toNat) ∧ _ = nI ((m.2.1 5 j).toInt.toNat)
    rw [e]
    exact ⟨h1, h2, h3⟩
  have tape0 : ∀ (Z : Rec) (f : Nat → Int32), TapeOf (sI Z 1 (0 : Int32)) (0 : Int32) f := fun Z f => ⟨0, by decide, rfl, rfl, fun i hi => by omega⟩
  rcases q_land (S1 := c_trial c) hT t1 t2 hb with ⟨a, Z, D, M, q1, q2, q3, q4⟩ | ⟨d, Z, D, M, q1, ok, y0, hS, hf, q4, q3⟩
  · obtain ⟨h1, h2, h3, h4, h5, h6, h7, h8, h9, h10⟩ := q4
    refine ⟨(-100 : Int32) - nI a, (sI Z 1 (0 : Int32), c_now c, c_past c, c_D c, D, c_earlier c, c_sets c, c_survey c, c_marriages c, c_finder c), sI M 6 (0 : Int32), ?_, ?_, ?_⟩
    · have : X8_land (c_tape c) (c_trial c) (c_now c) (c_D c).1 (c_past c) = some ((-100 : Int32) - nI a, sI Z 1 (0 : Int32), D, c_now c, c_past c) := by
        rw [X8_land, q1, ob, aLet, if_pos (show nI 0 = 0 from rfl), X7_fault, q2, X7_clear]
      unfold stC_land
      rw [this]
      rfl
    · unfold stM_land
      rw [q3]
      rfl
    · have e4 : (sI M 6 (0 : Int32)).1 4 = m.1 4 := (show upd M.1 6 0 4 = M.1 4 from pk_un (by decide)).trans h1
      refine ⟨?_, tape0 Z _, ?_, ?_, ?_⟩
      · show ∃ d, okL d ∧ lY d ≤ 9999 ∧ LandOf d (c_now c) ∧ RowOf d (M.2.1 0)
        rw [h3]
        exact iN
      · show PastOf (c_past c) (c_D c).1 (c_D c).2.2.2.2.1 ((sI M 6 (0 : Int32)).1 4) (M.2.1 3)
        rw [e4, h4]
        exact iP
      · show ImgOf (c_D c).2.1 (c_D c).2.2.2.2.1 (M.2.1 9) (M.2.1 10)
        rw [h6, h7]
        exact iG
      · show SheetOf (c_D c).2.2.1 (c_D c).2.2.2.1 (c_D c).2.2.2.2.1 (M.2.1 26) (M.2.1 27) (M.2.2 28)
        rw [h8, h9, h10]
        exact iS
  · obtain ⟨h1, h2, h3, h4, h5, h6, h7, h8, h9, h10⟩ := q4
    have hN := c_become (S0 := c_now c) ok hS
    have hR := row_laid (g := M.2.1 0) ok hf
    refine ⟨nI (lH d), (sI Z 1 (0 : Int32), X2_become (c_now c) D, sI (c_past c) 2 (0 : Int32), c_D c, D, c_earlier c, c_sets c, c_survey c, c_marriages c, c_finder c), sI (sA (sI M 6 (0 : Int32)) 0 (laid (M.2.1 1) (M.2.1 0) 96)) 4 (0 : Int32), ?_, ?_, ?_⟩
    · have : X8_land (c_tape c) (c_trial c) (c_now c) (c_D c).1 (c_past c) = some (nI (lH d), sI Z 1 (0 : Int32), D, X2_become (c_now c) D, sI (c_past c) 2 (0 : Int32)) := by
        rw [X8_land, q1, ob, aLet, if_neg (show ¬ nI 1 = 0 by decide), hN.1, X7_clear, X4_forget]
      unfold stC_land
      rw [this]
      rfl
    · unfold stM_land
      rw [q3, hR.1]
      rfl
    · refine ⟨⟨d, ok, by omega, hN, hR⟩, tape0 Z _, ?_, ?_, ?_⟩
      · obtain ⟨a, k, ha, hk, p1, p2, p3, p4⟩ := iP
        exact ⟨a, 0, ha, by decide, Eq.trans (show upd (c_past c).1 2 0 1 = (c_past c).1 1 from pk_un (by decide)) p1, rfl, rfl, fun i hi => by omega⟩
      · show ImgOf (c_D c).2.1 (c_D c).2.2.2.2.1 (M.2.1 9) (M.2.1 10)
        rw [h6, h7]
        exact iG
      · show SheetOf (c_D c).2.2.1 (c_D c).2.2.2.1 (c_D c).2.2.2.2.1 (M.2.1 26) (M.2.1 27) (M.2.2 28)
        rw [h8, h9, h10]
        exact iS
