/-! a land laid over another -/
theorem c_become {d : LD} {S0 S1 : Rec} (ok : okL d) (hS : LandOf d S1) : LandOf d (X2_become S0 S1) := by
  obtain ⟨a1, a2, a3, a4, a5, a6, a7, a8, a9, a10⟩ := hS
  have h6 := ok.1
  have h4 := ok.2.2.2.2.1
  have cp : ∀ {α : Type} (f g : Nat → α) (n j : Nat), j < n → va_cpy f g 0 0 n j = f j := fun f g n j h => by
    rw [pk_cpy_in (by omega) (by omega), show 0 + (j - 0) = j by omega]
  refine ⟨a1, a2, a3, a4, a5, fun i hi => ?_, fun v hv => ?_, fun s hs c hc => ?_, fun h hh c hc => ?_, fun w hw => ⟨?_, ?_⟩⟩
  · exact (cp (S1.2.1 1) _ 6 i (by omega)).trans (a6 i hi)
  · exact (cp (S1.2.1 7) _ 5 v hv).trans (a7 v hv)
  · exact (congrArg (fun x => tb x c) (cp (S1.2.2 9) _ 6 s hs)).trans (a8 s hs c hc)
  · exact (congrArg (fun x => tb x c) (cp (S1.2.2 10) _ 7 h hh)).trans (a9 h hh c hc)
  · exact (cp (S1.2.1 5) _ 4 w (by omega)).trans (a10 w hw).1
  · exact (cp (S1.2.1 6) _ 4 w (by omega)).trans (a10 w hw).2
theorem sA_sA (S : Rec) (j : Nat) (f g : Nat → Int32) : sA (sA S j f) j g = sA S j g := by
  unfold sA
  refine Prod.ext rfl (Prod.ext (funext fun i => ?_) rfl)
  dsimp only
  by_cases h : i = j
  · simp [h]
  · simp [h]
theorem sA_id (S : Rec) (j : Nat) : sA S j (S.2.1 j) = S := by
  unfold sA
  refine Prod.ext rfl (Prod.ext (funext fun i => ?_) rfl)
  dsimp only
  by_cases h : i = j
  · subst h
    simp
  · simp [h]
def laid (f g : Nat → Int32) (k : Nat) : Nat → Int32 := fun j => if j < k then f j else g j
theorem laid_up (f g : Nat → Int32) (k : Nat) : upd (laid f g k) k (f k) = laid f g (k + 1) := by
  funext j
  unfold upd laid
  by_cases h : j = k
  · subst h
    rw [if_pos rfl, if_pos (by omega)]
  · by_cases q : j < k
    · rw [if_neg h, if_pos q, if_pos (by omega)]
    · rw [if_neg h, if_neg q, if_neg (by omega)]
theorem r_lay (S : Rec) : X9_layThen S = some (sA S 2 (laid (S.2.1 0) (S.2.1 2) 96)) := by
  have := forUp (fun n i s => X9_layThen_L2 n i s) 96 (fun k => sA S 2 (laid (S.2.1 0) (S.2.1 2) k)) (some (sA S 2 (laid (S.2.1 0) (S.2.1 2) 96))) (fun n k hk => ?_) (fun n => ?_) 96 0 aFu rfl (by decide)
  · have e : sA S 2 (laid (S.2.1 0) (S.2.1 2) 0) = S := by
      have : laid (S.2.1 0) (S.2.1 2) 0 = S.2.1 2 := funext fun j => if_neg (Nat.not_lt_zero j)
      rw [this, sA_id]
    have h : X9_layThen_L2 aFu 0 (sA S 2 (laid (S.2.1 0) (S.2.1 2) 0)) = _ := this
    rw [e] at h
    unfold X9_layThen
    rw [h]
    rfl
  · have h : ¬ 96 ≤ k := by omega
    have e : (sA S 2 (laid (S.2.1 0) (S.2.1 2) k)).2.1 2 = laid (S.2.1 0) (S.2.1 2) k := rfl
    have e0 : (sA S 2 (laid (S.2.1 0) (S.2.1 2) k)).2.1 0 = S.2.1 0 := rfl
    simp (disch := omega) only [X9_layThen_L2, li0, li1, li2, li3, li4, li5, li6, li7, li8, li11, li12, li16, li24, li25, li26, li31, li32, li36, li40, li48, li52, li58, li59, li60, li63, li64, li88, li96, li130, li192, li255, li2208, li2304, li9999, cmp0, cmpl, cmpg, cmple, cmpge, nI_leI, nI_ltI, nI_eq, rL, rI, wL, wI, Option.bind_some, aLet, nI_add, pk_mul, ↓reduceIte, if_true, if_false, eq_self, Nat.reduceEqDiff, Nat.reduceLeDiff, Nat.reduceLT, Nat.one_ne_zero, Nat.zero_ne_one, Nat.add_zero, Bool.false_eq_true, h, e, e0, sA_sA]
    rw [laid_up]
  · simp (disch := omega) only [X9_layThen_L2, li0, li1, li2, li3, li4, li5, li6, li7, li8, li11, li12, li16, li24, li25, li26, li31, li32, li36, li40, li48, li52, li58, li59, li60, li63, li64, li88, li96, li130, li192, li255, li2208, li2304, li9999, cmp0, cmpl, cmpg, cmple, cmpge, nI_leI, nI_ltI, nI_eq, rL, rI, wL, wI, Option.bind_some, aLet, nI_add, pk_mul, ↓reduceIte, if_true, if_false, eq_self, Nat.reduceEqDiff, Nat.reduceLeDiff, Nat.reduceLT, Nat.one_ne_zero, Nat.zero_ne_one, Nat.add_zero, Bool.false_eq_true, Nat.le_refl]
theorem row_laid {d : LD} {f g : Nat → Int32} (ok : okL d) (hf : RowOf d f) : RowOf d (laid f g 96) := by
  obtain ⟨b1, b2, b3, b4, b5, b6, b7, b8, b9, b10⟩ := hf
  have h6 := ok.1
  have h4 := ok.2.2.2.2.1
  have o : ∀ j, j < 96 → laid f g 96 j = f j := fun j h => if_pos h
  exact ⟨(o _ (by omega)).trans b1, (o _ (by omega)).trans b2, (o _ (by omega)).trans b3, (o _ (by omega)).trans b4, (o _ (by omega)).trans b5, fun i hi => (o _ (by omega)).trans (b6 i hi), fun v hv => (o _ (by omega)).trans (b7 v hv), fun p hp => (o _ (by omega)).trans (b8 p hp), fun p hp => (o _ (by omega)).trans (b9 p hp), fun w hw => ⟨(o _ (by omega)).trans (b10 w hw).1, (o _ (by omega)).trans (b10 w hw).2⟩⟩
