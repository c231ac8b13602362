/-! a cell handed over, a cell tuned -/
def hnd (f : Nat → Int64) (y : Int64) (w k : Nat) : Nat → Int64 := fun h => if h < k then (if h = w then f h ||| y else f h &&& (y ^^^ (-1))) else f h
theorem hnd_up (f : Nat → Int64) (y : Int64) (w k : Nat) : vp_updL (hnd f y w k) k (if k = w then f k ||| y else f k &&& (y ^^^ (-1))) = hnd f y w (k + 1) := by
  funext j
  unfold vp_updL hnd
  by_cases h : j = k
  · subst h
    rw [if_pos rfl, if_pos (show j < j + 1 by omega)]
  · by_cases q : j < k
    · rw [if_neg h, if_pos q, if_pos (show j < k + 1 by omega)]
    · rw [if_neg h, if_neg q, if_neg (show ¬ j < k + 1 by omega)]
theorem hnd_at (f : Nat → Int64) (y : Int64) (w k : Nat) : hnd f y w k k = f k := if_neg (Nat.lt_irrefl k)
theorem c_handF (S : Rec) (y : Int64) {w : Nat} (hw : w < 100) : X2_hand S y (nI w) = some (sL S 10 (hnd (S.2.2 10) y w 7)) := by
  have := forUp (fun n i s => X2_hand_L3 (nI w) y n i s) 7 (fun k => sL S 10 (hnd (S.2.2 10) y w k)) (some (sL S 10 (hnd (S.2.2 10) y w 7))) (fun n k hk => ?_) (fun n => ?_) 7 0 aFu rfl (by decide)
  · have e : sL S 10 (hnd (S.2.2 10) y w 0) = S := by
      have : hnd (S.2.2 10) y w 0 = S.2.2 10 := funext fun j => if_neg (Nat.not_lt_zero j)
      rw [this, sL_id]
    have h : X2_hand_L3 (nI w) y aFu 0 (sL S 10 (hnd (S.2.2 10) y w 0)) = _ := this
    rw [e] at h
    unfold X2_hand
    rw [h]
    rfl
  · have h : ¬ 6 < k := by omega
    have e : (sL S 10 (hnd (S.2.2 10) y w k)).2.2 10 = hnd (S.2.2 10) y w k := rfl
    simp (disch := omega) only [X2_hand_L3, li0, li1, li2, li3, li4, li5, li6, li7, li8, li11, li12, li16, li24, li25, li26, li31, li32, li36, li40, li48, li52, li58, li59, li60, li63, li64, li88, li96, li130, li192, li255, li2208, li2304, li9999, cmp0, cmpl, cmpg, cmple, cmpge, nI_leI, nI_ltI, nI_eq, rL, rI, wL, wI, Option.bind_some, aLet, nI_add, pk_mul, ↓reduceIte, if_true, if_false, eq_self, Nat.reduceEqDiff, Nat.reduceLeDiff, Nat.reduceLT, Nat.one_ne_zero, Nat.zero_ne_one, Nat.add_zero, Bool.false_eq_true, h, e, sL_sL, hnd_at]
    have u := hnd_up (S.2.2 10) y w k
    by_cases q : k = w
    · rw [if_pos q] at u ⊢
      rw [u]
    · rw [if_neg q] at u ⊢
      rw [u]
  · have h : 6 < 7 := by omega
    simp (disch := omega) only [X2_hand_L3, li0, li1, li2, li3, li4, li5, li6, li7, li8, li11, li12, li16, li24, li25, li26, li31, li32, li36, li40, li48, li52, li58, li59, li60, li63, li64, li88, li96, li130, li192, li255, li2208, li2304, li9999, cmp0, cmpl, cmpg, cmple, cmpge, nI_leI, nI_ltI, nI_eq, rL, rI, wL, wI, Option.bind_some, aLet, nI_add, pk_mul, ↓reduceIte, if_true, if_false, eq_self, Nat.reduceEqDiff, Nat.reduceLeDiff, Nat.reduceLT, Nat.one_ne_zero, Nat.zero_ne_one, Nat.add_zero, Bool.false_eq_true, h]
theorem c_tuneF (S : Rec) (y : Int64) {w : Nat} (hw : w < 100) : X2_tune S y (nI w) = some (sL S 9 (hnd (S.2.2 9) y w 6)) := by
  have := forUp (fun n i s => X2_tune_L3 (nI w) y n i s) 6 (fun k => sL S 9 (hnd (S.2.2 9) y w k)) (some (sL S 9 (hnd (S.2.2 9) y w 6))) (fun n k hk => ?_) (fun n => ?_) 6 0 aFu rfl (by decide)
  · have e : sL S 9 (hnd (S.2.2 9) y w 0) = S := by
      have : hnd (S.2.2 9) y w 0 = S.2.2 9 := funext fun j => if_neg (Nat.not_lt_zero j)
      rw [this, sL_id]
    have h : X2_tune_L3 (nI w) y aFu 0 (sL S 9 (hnd (S.2.2 9) y w 0)) = _ := this
    rw [e] at h
    unfold X2_tune
    rw [h]
    rfl
  · have h : ¬ 6 ≤ k := by omega
    have e : (sL S 9 (hnd (S.2.2 9) y w k)).2.2 9 = hnd (S.2.2 9) y w k := rfl
    simp (disch := omega) only [X2_tune_L3, li0, li1, li2, li3, li4, li5, li6, li7, li8, li11, li12, li16, li24, li25, li26, li31, li32, li36, li40, li48, li52, li58, li59, li60, li63, li64, li88, li96, li130, li192, li255, li2208, li2304, li9999, cmp0, cmpl, cmpg, cmple, cmpge, nI_leI, nI_ltI, nI_eq, rL, rI, wL, wI, Option.bind_some, aLet, nI_add, pk_mul, ↓reduceIte, if_true, if_false, eq_self, Nat.reduceEqDiff, Nat.reduceLeDiff, Nat.reduceLT, Nat.one_ne_zero, Nat.zero_ne_one, Nat.add_zero, Bool.false_eq_true, h, e, sL_sL, hnd_at]
    have u := hnd_up (S.2.2 9) y w k
    by_cases q : k = w
    · rw [if_pos q] at u ⊢
      rw [u]
    · rw [if_neg q] at u ⊢
      rw [u]
  · simp (disch := omega) only [X2_tune_L3, li0, li1, li2, li3, li4, li5, li6, li7, li8, li11, li12, li16, li24, li25, li26, li31, li32, li36, li40, li48, li52, li58, li59, li60, li63, li64, li88, li96, li130, li192, li255, li2208, li2304, li9999, cmp0, cmpl, cmpg, cmple, cmpge, nI_leI, nI_ltI, nI_eq, rL, rI, wL, wI, Option.bind_some, aLet, nI_add, pk_mul, ↓reduceIte, if_true, if_false, eq_self, Nat.reduceEqDiff, Nat.reduceLeDiff, Nat.reduceLT, Nat.one_ne_zero, Nat.zero_ne_one, Nat.add_zero, Bool.false_eq_true, Nat.le_refl]
