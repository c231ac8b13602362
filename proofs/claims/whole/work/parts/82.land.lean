/-! land: the whole of it -/
theorem c_clear (S : Rec) : ∃ D, X2_clear S = some D ∧ D.1 8 = nI 0 ∧ (∀ s, s < 6 → D.2.2 9 s = 0) ∧ ∀ s, s < 7 → D.2.2 10 s = 0 := by
  have sLs : ∀ (X : Rec) (j : Nat) (f g : Nat → Int64), sL (sL X j f) j g = sL X j g := fun X j f g => by
    unfold sL
    refine Prod.ext rfl (Prod.ext rfl (funext fun i => ?_))
    dsimp only
    by_cases h : i = j
    · simp [h]
    · simp [h]
  have sLi : ∀ (X : Rec) (j : Nat), sL X j (X.2.2 j) = X := fun X j => by
    unfold sL
    refine Prod.ext rfl (Prod.ext rfl (funext fun i => ?_))
    dsimp only
    by_cases h : i = j
    · simp [h]
    · simp [h]
  let zz : (Nat → Int64) → Nat → Nat → Int64 := fun f k j => if j < k then 0 else f j
  have z0 : ∀ f, zz f 0 = f := fun f => funext fun j => if_neg (Nat.not_lt_zero j)
  have zu : ∀ f k, vp_updL (zz f k) k 0 = zz f (k + 1) := fun f k => by
    funext j
    show (if j = k then (0 : Int64) else if j < k then 0 else f j) = if j < k + 1 then 0 else f j
    by_cases h : j = k
    · rw [if_pos h, if_pos (by omega)]
    · by_cases q : j < k
      · rw [if_neg h, if_pos q, if_pos (by omega)]
      · rw [if_neg h, if_neg q, if_neg (by omega)]
  have a1 : ∀ X : Rec, X2_clear_L27 aFu (nI 0) X = some (sL X 9 (zz (X.2.2 9) 6)) := fun X => by
    have := forUp (fun n i s => X2_clear_L27 n i s) 6 (fun k => sL X 9 (zz (X.2.2 9) k)) (some (sL X 9 (zz (X.2.2 9) 6))) (fun n k hk => ?_) (fun n => ?_) 6 0 aFu rfl (by decide)
    · have h : X2_clear_L27 aFu (nI 0) (sL X 9 (zz (X.2.2 9) 0)) = _ := this
      rw [z0, sLi] at h
      exact h
    · have h : ¬ nI 6 ≤ nI k := nI_ge (by omega) (by omega)
      show X2_clear_L27 (n + 1) (nI k) (sL X 9 (zz (X.2.2 9) k)) = X2_clear_L27 n (nI (k + 1)) (sL X 9 (zz (X.2.2 9) (k + 1)))
      rw [X2_clear_L27, if_neg (show ¬ (6 : Int32) ≤ nI k from h), wL (by omega) (by decide), ob, aLet, nI_1, sLs, show (sL X 9 (zz (X.2.2 9) k)).2.2 9 = zz (X.2.2 9) k from rfl, zu]
    · show X2_clear_L27 (n + 1) (nI 6) _ = _
      rw [X2_clear_L27, if_pos (show (6 : Int32) ≤ nI 6 by decide)]
  have a2 : ∀ X : Rec, X2_clear_L48 aFu (nI 0) X = some (sL X 10 (zz (X.2.2 10) 7)) := fun X => by
    have := forUp (fun n i s => X2_clear_L48 n i s) 7 (fun k => sL X 10 (zz (X.2.2 10) k)) (some (sL X 10 (zz (X.2.2 10) 7))) (fun n k hk => ?_) (fun n => ?_) 7 0 aFu rfl (by decide)
    · have h : X2_clear_L48 aFu (nI 0) (sL X 10 (zz (X.2.2 10) 0)) = _ := this
      rw [z0, sLi] at h
      exact h
    · have h : ¬ nI 6 < nI k := nI_nlt (by omega) (by omega)
      show X2_clear_L48 (n + 1) (nI k) (sL X 10 (zz (X.2.2 10) k)) = X2_clear_L48 n (nI (k + 1)) (sL X 10 (zz (X.2.2 10) (k + 1)))
      rw [X2_clear_L48, if_neg (show ¬ (6 : Int32) < nI k from h), wL (by omega) (by decide), ob, aLet, nI_1, sLs, show (sL X 10 (zz (X.2.2 10) k)).2.2 10 = zz (X.2.2 10) k from rfl, zu]
    · show X2_clear_L48 (n + 1) (nI 7) _ = _
      rw [X2_clear_L48, if_pos (show (6 : Int32) < nI 7 by decide)]
  obtain ⟨X, hX⟩ : ∃ X, X = (sI (sI (sI (sI (sI S 0 (0 : Int32)) 2 (0 : Int32)) 3 (0 : Int32)) 4 (0 : Int32)) 8 (0 : Int32)) := ⟨_, rfl⟩
  have a1' : X2_clear_L27 aFu (0 : Int32) X = some (sL X 9 (zz (X.2.2 9) 6)) := a1 X
  have a2' : X2_clear_L48 aFu (0 : Int32) (sL X 9 (zz (X.2.2 9) 6)) = some (sL (sL X 9 (zz (X.2.2 9) 6)) 10 (zz ((sL X 9 (zz (X.2.2 9) 6)).2.2 10) 7)) := a2 _
  refine ⟨sL (sL X 9 (zz (X.2.2 9) 6)) 10 (zz ((sL X 9 (zz (X.2.2 9) 6)).2.2 10) 7), ?_, ?_, fun s hs => ?_, fun s hs => ?_⟩
  · rw [X2_clear, ← hX, a1', ob, a2', ob]
  · show X.1 8 = nI 0
    rw [hX]
    rfl
  · exact if_pos hs
  · exact if_pos hs
theorem r_zero (m : Rec) : X9_land_L2 aFu (0 : Int32) m = some (sA m 1 (laid (fun _ => nI 0) (m.2.1 1) 96)) := by
  have := forUp (fun n i s => X9_land_L2 n i s) 96 (fun k => sA m 1 (laid (fun _ => nI 0) (m.2.1 1) k)) (some (sA m 1 (laid (fun _ => nI 0) (m.2.1 1) 96))) (fun n k hk => ?_) (fun n => ?_) 96 0 aFu rfl (by decide)
  · have e : sA m 1 (laid (fun _ => nI 0) (m.2.1 1) 0) = m := by
      have : laid (fun _ => nI 0) (m.2.1 1) 0 = m.2.1 1 := funext fun j => if_neg (Nat.not_lt_zero j)
      rw [this, sA_id]
    have h : X9_land_L2 aFu (nI 0) (sA m 1 (laid (fun _ => nI 0) (m.2.1 1) 0)) = _ := this
    rw [e] at h
    exact h
  · have h : ¬ nI 96 ≤ nI k := nI_ge (by omega) (by omega)
    have e : (sA m 1 (laid (fun _ => nI 0) (m.2.1 1) k)).2.1 1 = laid (fun _ => nI 0) (m.2.1 1) k := rfl
    show X9_land_L2 (n + 1) (nI k) (sA m 1 (laid (fun _ => nI 0) (m.2.1 1) k)) = X9_land_L2 n (nI (k + 1)) _
    rw [X9_land_L2, if_neg (show ¬ (96 : Int32) ≤ nI k from h), e, wI (by omega) (by decide), ob, aLet, nI_1, sA_sA]
    exact congrArg (fun z => X9_land_L2 n (nI (k + 1)) (sA m 1 z)) (laid_up (fun _ => nI 0) (m.2.1 1) k)
  · show X9_land_L2 (n + 1) (nI 96) _ = _
    rw [X9_land_L2, if_pos (show (96 : Int32) ≤ nI 96 by decide)]
theorem r_lay112 (m : Rec) : X9_land_L112 aFu (0 : Int32) m = some (sA m 0 (laid (m.2.1 1) (m.2.1 0) 96)) := by
  have := forUp (fun n i s => X9_land_L112 n i s) 96 (fun k => sA m 0 (laid (m.2.1 1) (m.2.1 0) k)) (some (sA m 0 (laid (m.2.1 1) (m.2.1 0) 96))) (fun n k hk => ?_) (fun n => ?_) 96 0 aFu rfl (by decide)
  · have e : sA m 0 (laid (m.2.1 1) (m.2.1 0) 0) = m := by
      have : laid (m.2.1 1) (m.2.1 0) 0 = m.2.1 0 := funext fun j => if_neg (Nat.not_lt_zero j)
      rw [this, sA_id]
    have h : X9_land_L112 aFu (nI 0) (sA m 0 (laid (m.2.1 1) (m.2.1 0) 0)) = _ := this
    rw [e] at h
    exact h
  · have h : ¬ nI 96 ≤ nI k := nI_ge (by omega) (by omega)
    have e : (sA m 0 (laid (m.2.1 1) (m.2.1 0) k)).2.1 0 = laid (m.2.1 1) (m.2.1 0) k := rfl
    have e1 : (sA m 0 (laid (m.2.1 1) (m.2.1 0) k)).2.1 1 = m.2.1 1 := rfl
    show X9_land_L112 (n + 1) (nI k) (sA m 0 (laid (m.2.1 1) (m.2.1 0) k)) = X9_land_L112 n (nI (k + 1)) _
    rw [X9_land_L112, if_neg (show ¬ (96 : Int32) ≤ nI k from h), e, e1, rI (by omega) (by decide), ob, wI (by omega) (by decide), ob, aLet, nI_1, sA_sA, laid_up]
  · show X9_land_L112 (n + 1) (nI 96) _ = _
    rw [X9_land_L112, if_pos (show (96 : Int32) ≤ nI 96 by decide)]
theorem r_dead {m M : Rec} {a : Nat} (h : DM m M a) : X9_land_J88 M = some ((-100 : Int32) - nI a, sI M 6 (0 : Int32)) ∧ X9_land_J75 M = some ((-100 : Int32) - nI a, sI M 6 (0 : Int32)) ∧ X9_land_J62 M = some ((-100 : Int32) - nI a, sI M 6 (0 : Int32)) ∧ X9_land_J49 M = some ((-100 : Int32) - nI a, sI M 6 (0 : Int32)) := by
  have h8 := h.2.2
  have ha := h.2.1
  have n8 : ¬ M.1 8 = (-4 : Int32) := by rw [h8]; exact n4l (by omega)
  have g8 : (sI M 6 (0 : Int32)).1 8 = nI a := (show upd M.1 6 0 8 = M.1 8 from pk_un (by decide)).trans h8
  have e88 : X9_land_J88 M = some ((-100 : Int32) - nI a, sI M 6 (0 : Int32)) := by
    rw [X9_land_J88, g8, if_neg (show ¬ nI a = (-4 : Int32) from n4l (by omega))]
  have e75 : X9_land_J75 M = some ((-100 : Int32) - nI a, sI M 6 (0 : Int32)) := by rw [X9_land_J75, if_neg n8, e88]
  have e62 : X9_land_J62 M = some ((-100 : Int32) - nI a, sI M 6 (0 : Int32)) := by rw [X9_land_J62, if_neg n8, e75]
  exact ⟨e88, e75, e62, by rw [X9_land_J49, if_neg n8, e62]⟩
theorem r_live {M : Rec} (h : M.1 8 = -nI 4) : X9_land_J88 M = some (laid (M.2.1 1) (M.2.1 0) 96 0, sI (sA (sI M 6 (0 : Int32)) 0 (laid (M.2.1 1) (M.2.1 0) 96)) 4 (0 : Int32)) := by
  have g8 : (sI M 6 (0 : Int32)).1 8 = -nI 4 := (show upd M.1 6 0 8 = M.1 8 from pk_un (by decide)).trans h
  rw [X9_land_J88, g8, if_pos (show -nI 4 = (-4 : Int32) from rfl), r_lay112, ob]
  show (rdI (laid (M.2.1 1) (M.2.1 0) 96) 96 (nI 0)).bind _ = _
  rw [rI (by decide) (by decide), ob]
  rfl
