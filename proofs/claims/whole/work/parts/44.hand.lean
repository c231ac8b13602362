/-! a cell handed over, a cell tuned -/
def hnd (f : Nat → Int64) (y : Int64) (w k : Nat) : Nat → Int64 := fun h => if h < k then (if h = w then f h ||| y else f h &&& (y ^^^ (-1))) else f h
theorem hnd_up (f : Nat → Int64) (y : Int64) (w k : Nat) : vp_updL (hnd f y w k) k (if k = w then f k ||| y else f k &&& (y ^^^ (-1))) = hnd f y w (k + 1) := by
  funext j
  unfold vp_updL hnd
  by_cases h : j = k
  · subst h
    rw [if_pos rfl, if_pos (show j < j + 1 by omega)]
  · by_cases q : j < k
    · rw [if_neg h, if_pos q, if_pos (show j < k + 1 by omega)]
    · rw [if_neg h, if_neg q, if_neg (show ¬ j < k + 1 by omega)]
theorem hnd_at (f : Nat → Int64) (y : Int64) (w k : Nat) : hnd f y w k k = f k := if_neg (Nat.lt_irrefl k)
theorem c_handF (S : Rec) (y : Int64) {w : Nat} (hw : w < 100) : X2_hand S y (nI w) = some (sL S 10 (hnd (S.2.2 10) y w 7)) := by
  have := forUp (fun n i s => X2_hand_L3 (nI w) y n i s) 7 (fun k => sL S 10 (hnd (S.2.2 10) y w k)) (some (sL S 10 (hnd (S.2.2 10) y w 7))) (fun n k hk => ?_) (fun n => ?_) 7 0 aFu rfl (by decide)
  · have e : sL S 10 (hnd (S.2.2 10) y w 0) = S := by
      have : hnd (S.2.2 10) y w 0 = S.2.2 10 := funext fun j => if_neg (Nat.not_lt_zero j)
      rw [this, sL_id]
    have h : X2_hand_L3 (nI w) y aFu 0 (sL S 10 (hnd (S.2.2 10) y w 0)) = _ := this
    rw [e] at h
    unfold X2_hand
    rw [h]
    rfl
  · have h : ¬ 6 < k := by omega
    have e : (sL S 10 (hnd (S.2.2 10) y w k)).2.2 10 = hnd (S.2.2 10) y w k := rfl
    simp (disch := omega) only [X2_hand_L3, li0, li1, li2, li3, li4, li5, li6, li7, li8, li11, li12, li16, li24, li25, li26, li31, li32, li36, li40, li48, li52, li58, li59, li60, li63, li64, li88, li96, li130, li192, li255, li2208, li2304, li9999, cmp0, cmpl, cmpg, cmple, cmpge, nI_leI, nI_ltI, nI_eq, rL, rI, wL, wI, Option.bind_some, aLet, nI_add, pk_mul, ↓reduceIte, if_true, if_false, eq_self, Nat.reduceEqDiff, Nat.reduceLeDiff, Nat.reduceLT, Nat.one_ne_zero, Nat.zero_ne_one, Nat.add_zero, Bool.false_eq_true, h, e, sL_sL, hnd_at]
    have u := hnd_up (S.2.2 10) y w k
    by_cases q : k = w
    · rw [if_pos q] at u ⊢
      rw [u]
    · rw [if_neg q] at u ⊢
      rw [u]
  · have h : 6 < 7 := by omega
    simp (disch := omega) only [X2_hand_L3, li0, li1, li2, li3, li4, li5, li6, li7, li8, li11, li12, li16, li24, li25, li26, li31, li32, li36, li40, li48, li52, li58, li59, li60, li63, li64, li88, li96, li130, li192, li255, li2208, li2304, li9999, cmp0, cmpl, cmpg, cmple, cmpge, nI_leI, nI_ltI, nI_eq, rL, rI, wL, wI, Option.bind_some, aLet, nI_add, pk_mul, ↓reduceIte, if_true, if_false, eq_self, Nat.reduceEqDiff, Nat.reduceLeDiff, Nat.reduceLT, Nat.one_ne_zero, Nat.zero_ne_one, Nat.add_zero, Bool.false_eq_true, h]
theorem c_tuneF (S : Rec) (y : Int64) {w : Nat} (hw : w < 100) : X2_tune S y (nI w) = some (sL S 9 (hnd (S.2.2 9) y w 6)) := by
  have := forUp (fun n i s => X2_tune_L3 (nI w) y n i s) 6 (fun k => sL S 9 (hnd (S.2.2 9) y w k)) (some (sL S 9 (hnd (S.2.2 9) y w 6))) (fun n k hk => ?_) (fun n => ?_) 6 0 aFu rfl (by decide)
  · have e : sL S 9 (hnd (S.2.2 9) y w 0) = S := by
      have : hnd (S.2.2 9) y w 0 = S.2.2 9 := funext fun j => if_neg (Nat.not_lt_zero j)
      rw [this, sL_id]
    have h : X2_tune_L3 (nI w) y aFu 0 (sL S 9 (hnd (S.2.2 9) y w 0)) = _ := this
    rw [e] at h
    unfold X2_tune
    rw [h]
    rfl
  · have h : ¬ 6 ≤ k := by omega
    have e : (sL S 9 (hnd (S.2.2 9) y w k)).2.2 9 = hnd (S.2.2 9) y w k := rfl
    simp (disch := omega) only [X2_tune_L3, li0, li1, li2, li3, li4, li5, li6, li7, li8, li11, li12, li16, li24, li25, li26, li31, li32, li36, li40, li48, li52, li58, li59, li60, li63, li64, li88, li96, li130, li192, li255, li2208, li2304, li9999, cmp0, cmpl, cmpg, cmple, cmpge, nI_leI, nI_ltI, nI_eq, rL, rI, wL, wI, Option.bind_some, aLet, nI_add, pk_mul, ↓reduceIte, if_true, if_false, eq_self, Nat.reduceEqDiff, Nat.reduceLeDiff, Nat.reduceLT, Nat.one_ne_zero, Nat.zero_ne_one, Nat.add_zero, Bool.false_eq_true, h, e, sL_sL, hnd_at]
    have u := hnd_up (S.2.2 9) y w k
    by_cases q : k = w
    · rw [if_pos q] at u ⊢
      rw [u]
    · rw [if_neg q] at u ⊢
      rw [u]
  · simp (disch := omega) only [X2_tune_L3, li0, li1, li2, li3, li4, li5, li6, li7, li8, li11, li12, li16, li24, li25, li26, li31, li32, li36, li40, li48, li52, li58, li59, li60, li63, li64, li88, li96, li130, li192, li255, li2208, li2304, li9999, cmp0, cmpl, cmpg, cmple, cmpge, nI_leI, nI_ltI, nI_eq, rL, rI, wL, wI, Option.bind_some, aLet, nI_add, pk_mul, ↓reduceIte, if_true, if_false, eq_self, Nat.reduceEqDiff, Nat.reduceLeDiff, Nat.reduceLT, Nat.one_ne_zero, Nat.zero_ne_one, Nat.add_zero, Bool.false_eq_true, Nat.le_refl]
theorem tb_one {c i : Nat} (hc : c < 64) (hi : i < 64) : tb ((1 : Int64) <<< ((nI c).toInt64 &&& 63)) i = decide (i = c) := by
  rw [tb_shl 1 hc hi, tb_1, Bool.eq_iff_iff]
  simp
  omega
def soldD (d : LD) (q to : Nat) : LD := (lH d, lC d, lR d, lY d, lW d, lK d, lG d, lS d, fun p => if p = q then to else lO d p, lL d, lE d)
def tunedD (d : LD) (q to : Nat) : LD := (lH d, lC d, lR d, lY d, lW d, lK d, lG d, fun p => if p = q then to else lS d p, lO d, lL d, lE d)
theorem ok_sold {d : LD} (ok : okL d) {q to : Nat} (h : to ≤ lH d) : okL (soldD d q to) := by
  obtain ⟨a1, a2, a3, a4, a5, a6, a7, a8, a9, a10⟩ := ok
  refine ⟨a1, a2, a3, a4, a5, a6, a7, a8, fun p hp => ?_, a10⟩
  show (if p = q then to else lO d p) ≤ lH d
  split
  · exact h
  · exact a9 p hp
theorem ok_tuned {d : LD} (ok : okL d) {q to : Nat} (h : to < 6) : okL (tunedD d q to) := by
  obtain ⟨a1, a2, a3, a4, a5, a6, a7, a8, a9, a10⟩ := ok
  refine ⟨a1, a2, a3, a4, a5, a6, a7, fun p hp => ?_, a9, a10⟩
  show (if p = q then to else lS d p) < 6
  split
  · exact h
  · exact a8 p hp
theorem pl_inj {d : LD} (ok : okL d) {a b : Nat} (ha : inC d a = true) (hb : inC d b = true) : pl a = pl b ↔ a = b := by
  have := inC_b ok ha
  have := inC_b ok hb
  unfold pl
  omega
theorem c_hand {d : LD} {S : Rec} (ok : okL d) (hS : LandOf d S) {c w : Nat} (hc : c < 64) (hi : inC d c = true) (hw6 : w < 7) : ∃ S', X2_hand S ((1 : Int64) <<< ((nI c).toInt64 &&& 63)) (nI w) = some S' ∧ LandOf (soldD d (pl c) (hw w)) S' := by
  refine ⟨_, c_handF S _ (by omega), ?_⟩
  obtain ⟨a1, a2, a3, a4, a5, a6, a7, a8, a9, a10⟩ := hS
  refine ⟨a1, a2, a3, a4, a5, a6, a7, a8, fun h hh b hb => ?_, a10⟩
  show tb (hnd (S.2.2 10) _ w 7 h) b = (inC d b && decide ((if pl b = pl c then hw w else lO d (pl b)) = hw h))
  have e : hnd (S.2.2 10) ((1 : Int64) <<< ((nI c).toInt64 &&& 63)) w 7 h = if h = w then S.2.2 10 h ||| ((1 : Int64) <<< ((nI c).toInt64 &&& 63)) else S.2.2 10 h &&& (((1 : Int64) <<< ((nI c).toInt64 &&& 63)) ^^^ (-1)) := if_pos hh
  rw [e]
  have inj : hw w = hw h ↔ w = h := by unfold hw; split <;> split <;> omega
  by_cases q : h = w
  · subst q
    rw [if_pos rfl, tb_or, tb_one hc hb, a9 h hh b hb]
    by_cases z : b = c
    · subst z
      rw [hi, if_pos rfl]
      simp
    · by_cases y : inC d b = true
      · rw [if_neg (fun t => z ((pl_inj ok y hi).mp t))]
        simp [z]
      · have y : inC d b = false := by simpa using y
        simp [y, z]
  · rw [if_neg q, tb_and, tb_not _ hb, tb_one hc hb, a9 h hh b hb]
    by_cases z : b = c
    · subst z
      rw [if_pos rfl]
      have : ¬ hw w = hw h := fun t => q (inj.mp t).symm
      simp [this]
    · by_cases y : inC d b = true
      · rw [if_neg (fun t => z ((pl_inj ok y hi).mp t))]
        simp [z]
      · have y : inC d b = false := by simpa using y
        simp [y]
theorem c_tune {d : LD} {S : Rec} (ok : okL d) (hS : LandOf d S) {c w : Nat} (hc : c < 64) (hi : inC d c = true) (hw6 : w < 6) : ∃ S', X2_tune S ((1 : Int64) <<< ((nI c).toInt64 &&& 63)) (nI w) = some S' ∧ LandOf (tunedD d (pl c) w) S' := by
  refine ⟨_, c_tuneF S _ (by omega), ?_⟩
  obtain ⟨a1, a2, a3, a4, a5, a6, a7, a8, a9, a10⟩ := hS
  refine ⟨a1, a2, a3, a4, a5, a6, a7, fun h hh b hb => ?_, a9, a10⟩
  show tb (hnd (S.2.2 9) _ w 6 h) b = (inC d b && decide ((if pl b = pl c then w else lS d (pl b)) = h))
  have e : hnd (S.2.2 9) ((1 : Int64) <<< ((nI c).toInt64 &&& 63)) w 6 h = if h = w then S.2.2 9 h ||| ((1 : Int64) <<< ((nI c).toInt64 &&& 63)) else S.2.2 9 h &&& (((1 : Int64) <<< ((nI c).toInt64 &&& 63)) ^^^ (-1)) := if_pos hh
  rw [e]
  by_cases q : h = w
  · subst q
    rw [if_pos rfl, tb_or, tb_one hc hb, a8 h hh b hb]
    by_cases z : b = c
    · subst z
      rw [hi, if_pos rfl]
      simp
    · by_cases y : inC d b = true
      · rw [if_neg (fun t => z ((pl_inj ok y hi).mp t))]
        simp [z]
      · have y : inC d b = false := by simpa using y
        simp [y, z]
  · rw [if_neg q, tb_and, tb_not _ hb, tb_one hc hb, a8 h hh b hb]
    by_cases z : b = c
    · subst z
      rw [if_pos rfl]
      have : ¬ w = h := fun t => q t.symm
      simp [this]
    · by_cases y : inC d b = true
      · rw [if_neg (fun t => z ((pl_inj ok y hi).mp t))]
        simp [z]
      · have y : inC d b = false := by simpa using y
        simp [y]
