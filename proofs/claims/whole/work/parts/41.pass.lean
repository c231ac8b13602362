/-! a year in the program -/
theorem sL_sL (S : Rec) (j : Nat) (f g : Nat → Int64) : sL (sL S j f) j g = sL S j g := by
  unfold sL
  refine Prod.ext rfl (Prod.ext rfl (funext fun i => ?_))
  dsimp only
  by_cases h : i = j
  · simp [h]
  · simp [h]
theorem sL_id (S : Rec) (j : Nat) : sL S j (S.2.2 j) = S := by
  unfold sL
  refine Prod.ext rfl (Prod.ext rfl (funext fun i => ?_))
  dsimp only
  by_cases h : i = j
  · subst h
    simp
  · simp [h]
def zf (f : Nat → Int64) (k : Nat) : Nat → Int64 := fun j => if j < k then 0 else f j
theorem zf_up (f : Nat → Int64) (k : Nat) : vp_updL (zf f k) k 0 = zf f (k + 1) := by
  funext j
  unfold vp_updL zf
  by_cases h : j = k
  · subst h
    simp
  · by_cases q : j < k
    · rw [if_neg h, if_pos q, if_pos (by omega)]
    · rw [if_neg h, if_neg q, if_neg (by omega)]
def nxt (g : Nat → Nat) (s b : Nat → Int64) : Nat → (Nat → Int64)
  | 0 => b
  | k + 1 => vp_updL (nxt g s b k) (g k) (nxt g s b k (g k) ||| s k)
theorem tb_nxt {g : Nat → Nat} {s b : Nat → Int64} {t : Nat} (hb : b t = 0) (c : Nat) : ∀ k, tb (nxt g s b k t) c = true ↔ ∃ v, v < k ∧ g v = t ∧ tb (s v) c = true
  | 0 => by
    rw [nxt, hb, tb_0]
    simp
  | k + 1 => by
    have ih := tb_nxt (g := g) (s := s) hb c k
    rw [nxt]
    unfold vp_updL
    by_cases h : t = g k
    · subst h
      rw [if_pos rfl, tb_or, Bool.or_eq_true, ih]
      constructor
      · rintro (⟨v, h1, h2, h3⟩ | h)
        · exact ⟨v, by omega, h2, h3⟩
        · exact ⟨k, by omega, rfl, h⟩
      · rintro ⟨v, h1, h2, h3⟩
        by_cases q : v = k
        · exact Or.inr (q ▸ h3)
        · exact Or.inl ⟨v, by omega, h2, h3⟩
    · rw [if_neg h, ih]
      constructor
      · rintro ⟨v, h1, h2, h3⟩
        exact ⟨v, by omega, h2, h3⟩
      · rintro ⟨v, h1, h2, h3⟩
        by_cases q : v = k
        · exact absurd (q ▸ h2).symm h
        · exact ⟨v, by omega, h2, h3⟩
/-- how many cells sound otherwise, vowel by vowel -/
def yc (d : LD) : Nat → Nat
  | 0 => 0
  | k + 1 => yc d k + (if lG d k = k then 0 else vc d (fun _ => true) k)
theorem yc_le (d : LD) : ∀ k, yc d k ≤ 64 * k
  | 0 => by simp [yc]
  | k + 1 => by
    have := yc_le d k
    have h : vc d (fun _ => true) k ≤ 64 := cn_le _ _
    rw [yc]
    split <;> omega
theorem c_pass1 (S : Rec) : X2_passYear_L2 aFu 0 S = some (sL S 11 (zf (S.2.2 11) 5)) := by
  have := forUp (fun n i s => X2_passYear_L2 n i s) 5 (fun k => sL S 11 (zf (S.2.2 11) k)) (some (sL S 11 (zf (S.2.2 11) 5))) (fun n k hk => ?_) (fun n => ?_) 5 0 aFu rfl (by decide)
  · have e : sL S 11 (zf (S.2.2 11) 0) = S := by
      have : zf (S.2.2 11) 0 = S.2.2 11 := funext fun j => if_neg (Nat.not_lt_zero j)
      rw [this, sL_id]
    have h : X2_passYear_L2 aFu 0 (sL S 11 (zf (S.2.2 11) 0)) = _ := this
    rw [e] at h
    exact h
  · have h : ¬ 5 ≤ k := by omega
    have e : (sL S 11 (zf (S.2.2 11) k)).2.2 11 = zf (S.2.2 11) k := rfl
    simp (disch := omega) only [X2_passYear_L2, li0, li1, li2, li3, li4, li5, li6, li7, li8, li11, li12, li16, li24, li25, li26, li31, li32, li36, li40, li48, li52, li58, li59, li60, li63, li64, li88, li96, li130, li192, li255, li2208, li2304, li9999, cmp0, cmpl, cmpg, cmple, cmpge, nI_leI, nI_ltI, nI_eq, rL, rI, wL, wI, Option.bind_some, aLet, nI_add, pk_mul, ↓reduceIte, if_true, if_false, eq_self, Nat.reduceEqDiff, Nat.reduceLeDiff, Nat.reduceLT, Nat.one_ne_zero, Nat.zero_ne_one, Nat.add_zero, Bool.false_eq_true, h, e, sL_sL]
    rw [zf_up]
  · simp (disch := omega) only [X2_passYear_L2, li0, li1, li2, li3, li4, li5, li6, li7, li8, li11, li12, li16, li24, li25, li26, li31, li32, li36, li40, li48, li52, li58, li59, li60, li63, li64, li88, li96, li130, li192, li255, li2208, li2304, li9999, cmp0, cmpl, cmpg, cmple, cmpge, nI_leI, nI_ltI, nI_eq, rL, rI, wL, wI, Option.bind_some, aLet, nI_add, pk_mul, ↓reduceIte, if_true, if_false, eq_self, Nat.reduceEqDiff, Nat.reduceLeDiff, Nat.reduceLT, Nat.one_ne_zero, Nat.zero_ne_one, Nat.add_zero, Bool.false_eq_true, Nat.le_refl]
theorem c_pass2 {d : LD} {S : Rec} (ok : okL d) (hS : LandOf d S) (b : Nat → Int64) : X2_passYear_L24 aFu 0 0 (sL S 11 b) = some (nI (yc d 5), sL S 11 (nxt (lG d) (S.2.2 9) b 5)) := by
  have := forUp (fun n i (s : Int32 × Rec) => X2_passYear_L24 n s.1 i s.2) 5 (fun k => (nI (yc d k), sL S 11 (nxt (lG d) (S.2.2 9) b k))) (some (nI (yc d 5), sL S 11 (nxt (lG d) (S.2.2 9) b 5))) (fun n k hk => ?_) (fun n => ?_) 5 0 aFu rfl (by decide)
  · exact this
  · have h : ¬ 5 ≤ k := by omega
    have hg := ok.2.2.2.2.2.2.1 k hk
    have hg' : ¬ 5 ≤ lG d k := by omega
    have e1 : ∀ f, (sL S 11 f).2.1 7 = S.2.1 7 := fun _ => rfl
    have e2 : ∀ f, (sL S 11 f).2.2 11 = f := fun _ => rfl
    have e3 : ∀ f, (sL S 11 f).2.2 9 = S.2.2 9 := fun _ => rfl
    have eg := hS.2.2.2.2.2.2.1 k hk
    have hp : ¬ nI (lG d k) < nI 0 := nI_pos (by omega)
    have e : cn (tb (S.2.2 9 k)) 64 = vc d (fun _ => true) k := by
      have := tb_sound hS (show k < 6 by omega) (-1)
      rw [and_m1] at this
      rw [this]
      exact cn_cong (fun c hc => by rw [tb_m1 hc])
    simp (disch := omega) only [X2_passYear_L24, li0, li1, li2, li3, li4, li5, li6, li7, li8, li11, li12, li16, li24, li25, li26, li31, li32, li36, li40, li48, li52, li58, li59, li60, li63, li64, li88, li96, li130, li192, li255, li2208, li2304, li9999, cmp0, cmpl, cmpg, cmple, cmpge, nI_leI, nI_ltI, nI_eq, rL, rI, wL, wI, Option.bind_some, aLet, nI_add, pk_mul, ↓reduceIte, if_true, if_false, eq_self, Nat.reduceEqDiff, Nat.reduceLeDiff, Nat.reduceLT, Nat.one_ne_zero, Nat.zero_ne_one, Nat.add_zero, Bool.false_eq_true, h, e1, e2, e3, eg, hp, hg', pc64, e, sL_sL]
    by_cases q : lG d k = k
    · simp (disch := omega) only [li0, li1, li2, li3, li4, li5, li6, li7, li8, li11, li12, li16, li24, li25, li26, li31, li32, li36, li40, li48, li52, li58, li59, li60, li63, li64, li88, li96, li130, li192, li255, li2208, li2304, li9999, cmp0, cmpl, cmpg, cmple, cmpge, nI_leI, nI_ltI, nI_eq, rL, rI, wL, wI, Option.bind_some, aLet, nI_add, pk_mul, ↓reduceIte, if_true, if_false, eq_self, Nat.reduceEqDiff, Nat.reduceLeDiff, Nat.reduceLT, Nat.one_ne_zero, Nat.zero_ne_one, Nat.add_zero, Bool.false_eq_true, q]
      simp only [nxt, yc, q, if_true, Nat.add_zero]
    · simp (disch := omega) only [li0, li1, li2, li3, li4, li5, li6, li7, li8, li11, li12, li16, li24, li25, li26, li31, li32, li36, li40, li48, li52, li58, li59, li60, li63, li64, li88, li96, li130, li192, li255, li2208, li2304, li9999, cmp0, cmpl, cmpg, cmple, cmpge, nI_leI, nI_ltI, nI_eq, rL, rI, wL, wI, Option.bind_some, aLet, nI_add, pk_mul, ↓reduceIte, if_true, if_false, eq_self, Nat.reduceEqDiff, Nat.reduceLeDiff, Nat.reduceLT, Nat.one_ne_zero, Nat.zero_ne_one, Nat.add_zero, Bool.false_eq_true, q]
      simp only [nxt, yc, q, if_false]
  · simp (disch := omega) only [X2_passYear_L24, li0, li1, li2, li3, li4, li5, li6, li7, li8, li11, li12, li16, li24, li25, li26, li31, li32, li36, li40, li48, li52, li58, li59, li60, li63, li64, li88, li96, li130, li192, li255, li2208, li2304, li9999, cmp0, cmpl, cmpg, cmple, cmpge, nI_leI, nI_ltI, nI_eq, rL, rI, wL, wI, Option.bind_some, aLet, nI_add, pk_mul, ↓reduceIte, if_true, if_false, eq_self, Nat.reduceEqDiff, Nat.reduceLeDiff, Nat.reduceLT, Nat.one_ne_zero, Nat.zero_ne_one, Nat.add_zero, Bool.false_eq_true, Nat.le_refl]
theorem yc_eq {d : LD} (ok : okL d) : yc d 5 = cn (chg d) 36 := by
  have key : ∀ n, n ≤ 36 → ((if lG d 0 = 0 then 0 else cn (fun p => inP d p && decide (lS d p = 0) && true) n) + (if lG d 1 = 1 then 0 else cn (fun p => inP d p && decide (lS d p = 1) && true) n) + (if lG d 2 = 2 then 0 else cn (fun p => inP d p && decide (lS d p = 2) && true) n) + (if lG d 3 = 3 then 0 else cn (fun p => inP d p && decide (lS d p = 3) && true) n) + (if lG d 4 = 4 then 0 else cn (fun p => inP d p && decide (lS d p = 4) && true) n)) = cn (chg d) n := by
    intro n
    induction n with
    | zero => intro _; simp [cn]
    | succ n ih =>
      intro hn
      have := ih (by omega)
      have hs := ok.2.2.2.2.2.2.2.1 n (by omega)
      have e : (chg d n) = (inP d n && decide (lS d n < 5) && !decide (lG d (lS d n) = lS d n)) := rfl
      simp only [cn]
      rw [e]
      cases q : inP d n
      · simp only [Bool.false_and, Bool.toNat_false, Nat.add_zero]
        exact this
      · rcases (show lS d n = 0 ∨ lS d n = 1 ∨ lS d n = 2 ∨ lS d n = 3 ∨ lS d n = 4 ∨ lS d n = 5 by omega) with z | z | z | z | z | z <;> rw [z] <;> simp <;> (repeat' split) <;> simp_all <;> omega
  have := key 36 (Nat.le_refl _)
  simp only [yc, Nat.zero_add, vc_p ok]
  exact this
theorem c_pass {d : LD} {S : Rec} (ok : okL d) (hS : LandOf d S) : ∃ S', X2_passYear S = some (nI (cn (chg d) 36), S') ∧ LandOf (nextD d) S' := by
  have hy := ok.2.2.2.1
  refine ⟨_, by
    unfold X2_passYear
    rw [c_pass1, Option.bind_some, c_pass2 ok hS, Option.bind_some, yc_eq ok], ?_⟩
  obtain ⟨a1, a2, a3, a4, a5, a6, a7, a8, a9, a10⟩ := hS
  refine ⟨a1, a2, a3, ?_, a5, a6, a7, fun s hs c hc => ?_, a9, a10⟩
  · show (S.1 8) + 1 = nI (lY d + 1)
    rw [a4]
    exact nI_1 _
  · show tb (va_cpy (nxt (lG d) (S.2.2 9) (zf (S.2.2 11) 5) 5) (S.2.2 9) 0 0 5 s) c = (inC d c && decide ((if inP d (pl c) = true ∧ lS d (pl c) < 5 then lG d (lS d (pl c)) else lS d (pl c)) = s))
    by_cases q : inC d c = true
    · obtain ⟨b1, b2, b3, b4⟩ := inC_b ok q
      have ep : inP d (pl c) = true := by rw [← inC_cl, cl_pl b2]; exact q
      have hs2 := ok.2.2.2.2.2.2.2.1 (pl c) b3
      rw [ep, q, Bool.true_and]
      by_cases z : s < 5
      · rw [pk_cpy_in (by omega) (by omega), show 0 + (s - 0) = s by omega, Bool.eq_iff_iff, tb_nxt (by unfold zf; rw [if_pos z])]
        simp only [decide_eq_true_eq, true_and]
        constructor
        · rintro ⟨v, h1, h2, h3⟩
          rw [a8 v (by omega) c hc, q, Bool.true_and, decide_eq_true_eq] at h3
          rw [h3, if_pos h1]
          exact h2
        · intro h
          by_cases y : lS d (pl c) < 5
          · rw [if_pos y] at h
            exact ⟨_, y, h, by rw [a8 _ (by omega) c hc, q]; simp⟩
          · rw [if_neg y] at h
            omega
      · rw [pk_cpy_out (by omega), a8 s hs c hc, q, Bool.true_and]
        have s5 : s = 5 := by omega
        subst s5
        simp only [true_and]
        by_cases y : lS d (pl c) < 5
        · have := ok.2.2.2.2.2.2.1 _ y
          rw [if_pos y, decide_eq_decide]
          omega
        · rw [if_neg y]
    · have q : inC d c = false := by simpa using q
      rw [q, Bool.false_and]
      by_cases z : s < 5
      · rw [pk_cpy_in (by omega) (by omega), show 0 + (s - 0) = s by omega, ← Bool.not_eq_true, tb_nxt (by unfold zf; rw [if_pos z])]
        rintro ⟨v, h1, h2, h3⟩
        rw [a8 v (by omega) c hc, q] at h3
        cases h3
      · rw [pk_cpy_out (by omega), a8 s hs c hc, q, Bool.false_and]
