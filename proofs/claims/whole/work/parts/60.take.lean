/-! take: turns, each the best of what follows -/
def setw (w : Nat → Nat) (p o : Nat) : Nat → Nat := fun q => if q = p then o else w q
def wth (d : LD) (i j : Nat) (w : Nat → Nat) : Int32 := nI (nb (sy (giveD d w) i)) - nI (nb (sy (giveD d w) j))
def bst (mx : Bool) (a b : Int32) : Int32 := if mx then a_max a b else a_min a b
def fldv (E : Nat → Nat) (r : (Nat → Nat) → Int32) (mx : Bool) (o : Nat) (w : Nat → Nat) : Nat → Int32
  | 0 => r w
  | k + 1 => if w (E k) = 0 then bst mx (fldv E r mx o w k) (r (setw w (E k) o)) else fldv E r mx o w k
def val (d : LD) (E : Nat → Nat) (F i j : Nat) : Nat → (Nat → Nat) → Int32
  | 0, w => wth d i j w
  | T + 1, w => fldv E (val d E F i j T) (decide ((T + 1) % 2 = 0)) (if (T + 1) % 2 = 0 then i + 1 else j + 1) w F
def Wt (d : LD) (i j : Nat) (w : Nat → Nat) : Prop := ∀ p, p < 36 → (w p = 0 → lO d p = 0) ∧ (lO d p = 0 → w p = 0 ∨ w p = i + 1 ∨ w p = j + 1) ∧ w p ≤ lH d
theorem Wt_set {d : LD} {i j : Nat} {w : Nat → Nat} (h : Wt d i j w) {p o : Nat} (ho : o = i + 1 ∨ o = j + 1) (hl : o ≤ lH d) : Wt d i j (setw w p o) := fun q hq => by
  obtain ⟨h1, h2, h3⟩ := h q hq
  unfold setw
  by_cases z : q = p
  · rw [if_pos z]
    exact ⟨fun e => by omega, fun _ => Or.inr ho, hl⟩
  · rw [if_neg z]
    exact ⟨h1, h2, h3⟩
theorem Wt_start {d : LD} (ok : okL d) (i j : Nat) : Wt d i j (lO d) := fun p hp => ⟨fun h => h, fun h => Or.inl h, ok.2.2.2.2.2.2.2.2.1 p hp⟩
theorem own_set {d : LD} (ok : okL d) {w : Nat → Nat} {p : Nat} (hp : p < 36) (hi : inP d p = true) (o : Nat) : own (giveD d (setw w p o)) o = fun c => own (giveD d w) o c || decide (c = cl p) := funext fun c => by
  have hc : inC d (cl p) = true := inC_cl.trans hi
  rw [own_give, own_give]
  unfold setw
  by_cases z : c = cl p
  · subst z
    rw [hc, pl_cl, if_pos rfl]
    simp
  · rw [decide_eq_false z, Bool.or_false]
    cases q : inC d c
    · rfl
    · have hb := inC_b ok q
      rw [if_neg (fun e => z (by rw [← e, cl_pl hb.2.1]))]
theorem own_set2 {d : LD} (ok : okL d) {w : Nat → Nat} {p o o2 : Nat} (hp : p < 36) (hi : inP d p = true) (h0 : w p = 0) (ho : o ≠ o2) (ho2 : o2 ≠ 0) : own (giveD d (setw w p o)) o2 = own (giveD d w) o2 := funext fun c => by
  rw [own_give, own_give]
  unfold setw
  cases q : inC d c
  · rfl
  · by_cases e : pl c = p
    · rw [if_pos e, e, h0, decide_eq_false ho, decide_eq_false (fun z => ho2 z.symm)]
    · rw [if_neg e]
theorem c_lead {d : LD} {S : Rec} (ok : okL d) (hS : LandOf d S) {i j : Nat} (hi : i < lH d) (hj : j < lH d) {w : Nat → Nat} (hW : Wt d i j w) {x y : Int64} (hx : tb x = own (giveD d w) (i + 1)) (hy : tb y = own (giveD d w) (j + 1)) : X2_lead S (nI i) x (nI j) y = some (wth d i j w) := by
  have h6 := ok.1
  obtain ⟨k1, k5⟩ := ok.2.2.2.2.2.1 i hi
  obtain ⟨l1, l5⟩ := ok.2.2.2.2.2.1 j hj
  have z : tb (S.2.2 10 6 &&& ((x ||| y) ^^^ (-1))) = own (giveD d w) 0 := by
    rw [tb_andnF, tb_held ok hS (by omega), show hw 6 = 0 from rfl]
    funext c
    rw [tb_or, hx, hy, own_give, own_give, own_give]
    unfold own
    cases q : inC d c
    · rfl
    · obtain ⟨w1, w2, w3⟩ := hW (pl c) (inC_b ok q).2.2.1
      simp only [Bool.true_and]
      by_cases e : lO d (pl c) = 0
      · rw [decide_eq_true e, Bool.true_and]
        by_cases e2 : w (pl c) = 0
        · simp [e2]
        · rcases w2 e with g | g | g
          · exact absurd g e2
          · simp [g]
          · simp [g]
      · rw [decide_eq_false e, Bool.false_and, decide_eq_false (fun g => e (w1 g))]
  have s1 := c_speech hS k1 k5 x (S.2.2 10 6 &&& ((x ||| y) ^^^ (-1)))
  have s2 := c_speech hS l1 l5 y (S.2.2 10 6 &&& ((x ||| y) ^^^ (-1)))
  rw [z, hx, ← sy_give] at s1
  rw [z, hy, ← sy_give] at s2
  have g1 := sy_lt (giveD d w) i
  have g2 := sy_lt (giveD d w) j
  have b1 := c_bits (n := sy (giveD d w) i) (by omega)
  have b2 := c_bits (n := sy (giveD d w) j) (by omega)
  have ki := hS.2.2.2.2.2.1 i hi
  have kj := hS.2.2.2.2.2.1 j hj
  have e10 : rdL (S.2.2 10) 7 (6 : Int32) = some (S.2.2 10 6) := rL (j := 6) (by decide) (by decide)
  unfold X2_lead
  rw [cH1 ok hS hi, if_neg (by decide), cH1 ok hS hj, if_neg (by decide), e10, ob, aLet, rI (by omega) (by decide), ob, ki, s1, ob, rI (by omega) (by decide), ob, kj, s2, ob, b1, b2]
  rfl
/-- the places that are open, from the k-th on -/
def rst (E : Nat → Nat) (F : Nat) (w : Nat → Nat) (k c : Nat) : Prop := ∃ r, k ≤ r ∧ r < F ∧ w (E r) = 0 ∧ c = cl (E r)
theorem cl_lt {a b : Nat} (ha : a < 36) (hb : b < 36) (h : a < b) : cl a < cl b := by
  unfold cl
  omega
theorem cl_64 {a : Nat} (ha : a < 36) : cl a < 64 := by
  unfold cl
  omega
theorem c_outL {d : LD} {S : Rec} {E : Nat → Nat} {F : Nat} (hE : ∀ k, k < F → E k < 36 ∧ inP d (E k) = true) (hM : ∀ k l, k < l → l < F → E k < E l) {w : Nat → Nat} {mx : Bool} {o : Nat} {r : (Nat → Nat) → Int32} {X1 X2 X3 : Int32} {y4 y6 y8 : Int64} {kr : Rec → Int32 → Int32 → Int32 → Int64 → Int64 → Int64 → Option Int32}
    (hk : ∀ k, k < F → w (E k) = 0 → (if mx = true then kr S X1 X2 (X3 - nI 1) (y4 ||| oneC (cl (E k))) y6 (y8 &&& (oneC (cl (E k)) ^^^ (-1))) else kr S X1 X2 (X3 - nI 1) y4 (y6 ||| oneC (cl (E k))) (y8 &&& (oneC (cl (E k)) ^^^ (-1)))) = some (r (setw w (E k) o))) :
    ∀ (e k n : Nat) (x : Int64), k + e = F → cn (tb x) 64 + e < n → (∀ c, tb x c = true ↔ rst E F w k c) → X8_outcome_L61 (if mx = true then nI 1 else nI 0) S X1 X2 X3 y4 y6 y8 kr n (fldv E r mx o w k) x (nI (cn (tb x) 64)) = some (fldv E r mx o w F) := by
  intro e
  induction e with
  | zero =>
    intro k n x h1 h2 h3
    obtain ⟨n, rfl⟩ : ∃ z, n = z + 1 := ⟨n - 1, by omega⟩
    obtain rfl : k = F := h1
    have z : cn (tb x) 64 = 0 := cn_zero.mpr (fun c _ => by
      cases q : tb x c
      · rfl
      · obtain ⟨r, q1, q2, -⟩ := (h3 c).mp q
        omega)
    rw [z]
    simp (disch := omega) only [X8_outcome_L61, li0, li1, li2, li3, li4, li5, li6, li7, li8, li11, li12, li16, li24, li25, li26, li31, li32, li36, li40, li48, li52, li58, li59, li60, li63, li64, li88, li96, li130, li192, li255, li2208, li2304, li9999, li9, li13, li14, li30, li35, li44, li45, li46, li47, li97, li98, li100, li101, li104, li105, li108, li110, li111, li112, li114, li117, li122, li999999, li1000000, li2147483647, cmp0, cmpl, cmpg, cmple, cmpge, nI_leI, nI_ltI, nI_eq, rL, rI, wL, wI, ob, aLet, nI_add, pk_mul, ↓reduceIte, if_true, if_false, eq_self, Nat.reduceEqDiff, Nat.reduceLeDiff, Nat.reduceLT, Nat.one_ne_zero, Nat.zero_ne_one, Nat.add_zero, Bool.false_eq_true, nI_neq, Nat.le_refl]
  | succ e ih =>
    intro k n x h1 h2 h3
    by_cases w0 : w (E k) = 0
    · obtain ⟨n, rfl⟩ : ∃ z, n = z + 1 := ⟨n - 1, by omega⟩
      have hkF : k < F := by omega
      have hEk := hE k hkF
      have mem : tb x (cl (E k)) = true := (h3 _).mpr ⟨k, Nat.le_refl _, hkF, w0, rfl⟩
      have h64 := cl_64 hEk.1
      obtain ⟨m, hm⟩ : ∃ m, cn (tb x) 64 = m + 1 := by
        rcases Nat.eq_zero_or_pos (cn (tb x) 64) with q | q
        · have := cn_zero.mp q (cl (E k)) h64
          rw [mem] at this
          cases this
        · exact ⟨cn (tb x) 64 - 1, by omega⟩
      have hml : m + 1 ≤ 64 := by
        rw [← hm]
        exact cn_le _ _
      obtain ⟨t, t1, t2, t3, t4, t5, t6, t7, t8⟩ := walk hm
      have tE : t = cl (E k) := by
        rcases Nat.lt_trichotomy t (cl (E k)) with q | q | q
        · obtain ⟨r, r1, r2, r3, r4⟩ := (h3 t).mp t2
          rcases Nat.lt_or_ge k r with s | s
          · have := cl_lt hEk.1 (hE r r2).1 (hM k r s r2)
            omega
          · have : r = k := by omega
            rw [this] at r4
            omega
        · exact q
        · have := t3 _ q
          rw [mem] at this
          cases this
      subst tE
      have e1 := low_one t1 t6
      have e2 := rest_one t1 t5
      have hkk := hk k hkF w0
      have z : ¬ m + 1 ≤ 0 := by omega
      have em : nI (m + 1) + -nI 1 = nI m := pk_m1 m
      have i := ih (k + 1) n (x &&& (x - 1)) (by omega) (by omega) (fun c => by
        constructor
        · intro hc
          have hc64 : c < 64 := by
            rcases Nat.lt_or_ge c 64 with q | q
            · exact q
            · rw [tb_big q] at hc
              cases hc
          rw [t5 c hc64, Bool.and_eq_true, Bool.not_eq_true', decide_eq_false_iff_not] at hc
          obtain ⟨r, r1, r2, r3, r4⟩ := (h3 c).mp hc.1
          refine ⟨r, ?_, r2, r3, r4⟩
          rcases Nat.lt_or_ge k r with s | s
          · exact s
          · have : r = k := by omega
            rw [this] at r4
            exact absurd r4 hc.2
        · rintro ⟨r, r1, r2, r3, r4⟩
          have := cl_lt hEk.1 (hE r r2).1 (hM k r (by omega) r2)
          have := cl_64 (hE r r2).1
          rw [t5 c (by omega), (h3 c).mpr ⟨r, by omega, r2, r3, r4⟩, decide_eq_false (by omega)]
          rfl)
      rw [t7] at i
      rw [← i]
      have fk : fldv E r mx o w (k + 1) = bst mx (fldv E r mx o w k) (r (setw w (E k) o)) := if_pos w0
      rw [fk, hm]
      unfold bst
      cases mx
      · have hkk : kr S X1 X2 (X3 - nI 1) y4 (y6 ||| oneC (cl (E k))) (y8 &&& (oneC (cl (E k)) ^^^ (-1))) = some (r (setw w (E k) o)) := hkk
        simp (disch := omega) only [X8_outcome_L61, X8_outcome_J143, li0, li1, li2, li3, li4, li5, li6, li7, li8, li11, li12, li16, li24, li25, li26, li31, li32, li36, li40, li48, li52, li58, li59, li60, li63, li64, li88, li96, li130, li192, li255, li2208, li2304, li9999, li9, li13, li14, li30, li35, li44, li45, li46, li47, li97, li98, li100, li101, li104, li105, li108, li110, li111, li112, li114, li117, li122, li999999, li1000000, li2147483647, cmp0, cmpl, cmpg, cmple, cmpge, nI_leI, nI_ltI, nI_eq, rL, rI, wL, wI, ob, aLet, nI_add, pk_mul, ↓reduceIte, if_true, if_false, eq_self, Nat.reduceEqDiff, Nat.reduceLeDiff, Nat.reduceLT, Nat.one_ne_zero, Nat.zero_ne_one, Nat.add_zero, Bool.false_eq_true, nI_neq, z, e1, e2, hkk, em]
      · have hkk : kr S X1 X2 (X3 - nI 1) (y4 ||| oneC (cl (E k))) y6 (y8 &&& (oneC (cl (E k)) ^^^ (-1))) = some (r (setw w (E k) o)) := hkk
        simp (disch := omega) only [X8_outcome_L61, X8_outcome_J143, li0, li1, li2, li3, li4, li5, li6, li7, li8, li11, li12, li16, li24, li25, li26, li31, li32, li36, li40, li48, li52, li58, li59, li60, li63, li64, li88, li96, li130, li192, li255, li2208, li2304, li9999, li9, li13, li14, li30, li35, li44, li45, li46, li47, li97, li98, li100, li101, li104, li105, li108, li110, li111, li112, li114, li117, li122, li999999, li1000000, li2147483647, cmp0, cmpl, cmpg, cmple, cmpge, nI_leI, nI_ltI, nI_eq, rL, rI, wL, wI, ob, aLet, nI_add, pk_mul, ↓reduceIte, if_true, if_false, eq_self, Nat.reduceEqDiff, Nat.reduceLeDiff, Nat.reduceLT, Nat.one_ne_zero, Nat.zero_ne_one, Nat.add_zero, Bool.false_eq_true, nI_neq, z, e1, e2, hkk, em]
    · have fk : fldv E r mx o w (k + 1) = fldv E r mx o w k := if_neg w0
      have i := ih (k + 1) n x (by omega) (by omega) (fun c => by
        rw [h3 c]
        constructor
        · rintro ⟨r, r1, r2, r3, r4⟩
          refine ⟨r, ?_, r2, r3, r4⟩
          rcases Nat.lt_or_ge k r with s | s
          · exact s
          · have : r = k := by omega
            rw [this] at r3
            exact absurd r3 w0
        · rintro ⟨r, r1, r2, r3, r4⟩
          exact ⟨r, by omega, r2, r3, r4⟩)
      rw [fk] at i
      exact i
theorem c_out {d : LD} {S : Rec} (ok : okL d) (hS : LandOf d S) {i j : Nat} (hi : i < lH d) (hj : j < lH d) (hij : i ≠ j) {E : Nat → Nat} {F : Nat} (hF : F ≤ 6) (hE : ∀ k, k < F → E k < 36 ∧ inP d (E k) = true) (hM : ∀ k l, k < l → l < F → E k < E l) :
    ∀ (T : Nat) (w : Nat → Nat) (x y z : Int64) (f : Nat), T ≤ 4 → T < f → Wt d i j w → tb x = own (giveD d w) (i + 1) → tb y = own (giveD d w) (j + 1) → (∀ c, tb z c = true ↔ rst E F w 0 c) → X8_outcome f S (nI i) (nI j) (nI T) x y z = some (val d E F i j T w) := by
  intro T
  induction T with
  | zero =>
    intro w x y z f h1 h2 hW hx hy hz
    obtain ⟨f, rfl⟩ : ∃ z, f = z + 1 := ⟨f - 1, by omega⟩
    have cl := c_lead ok hS hi hj hW hx hy
    simp (disch := omega) only [X8_outcome, X8_outcome_J9, cl, li0, li1, li2, li3, li4, li5, li6, li7, li8, li11, li12, li16, li24, li25, li26, li31, li32, li36, li40, li48, li52, li58, li59, li60, li63, li64, li88, li96, li130, li192, li255, li2208, li2304, li9999, li9, li13, li14, li30, li35, li44, li45, li46, li47, li97, li98, li100, li101, li104, li105, li108, li110, li111, li112, li114, li117, li122, li999999, li1000000, li2147483647, cmp0, cmpl, cmpg, cmple, cmpge, nI_leI, nI_ltI, nI_eq, rL, rI, wL, wI, ob, aLet, nI_add, pk_mul, ↓reduceIte, if_true, if_false, eq_self, Nat.reduceEqDiff, Nat.reduceLeDiff, Nat.reduceLT, Nat.one_ne_zero, Nat.zero_ne_one, Nat.add_zero, Bool.false_eq_true, nI_neq, Nat.le_refl]
    rfl
  | succ T ih =>
    intro w x y z f h1 h2 hW hx hy hz
    obtain ⟨f, rfl⟩ : ∃ z, f = z + 1 := ⟨f - 1, by omega⟩
    have hT0 : ¬ T + 1 ≤ 0 := by omega
    have e0 := ih w x y z f (by omega) (by omega) hW hx hy hz
    have es : nI (T + 1) - nI 1 = nI T := by
      rw [pk_sub (by omega)]
      rfl
    have pr : nI (T + 1) - nI (T + 1) / nI 2 * nI 2 = nI ((T + 1) % 2) := pk_rem (by omega) (by decide) (by decide)
    have inj : ∀ k l, k < F → l < F → E k = E l → k = l := fun k l h1 h2 h => by
      rcases Nat.lt_trichotomy k l with q | q | q
      · have := hM k l q h2
        omega
      · exact q
      · have := hM l k q h1
        omega
    have zset : ∀ k o, k < F → w (E k) = 0 → o ≠ 0 → ∀ c, tb (z &&& (oneC (cl (E k)) ^^^ (-1))) c = true ↔ rst E F (setw w (E k) o) 0 c := fun k o hk h0 ho c => by
      have h64 := cl_64 (hE k hk).1
      rw [tb_andnF]
      dsimp only
      rw [tb_oneC h64, Bool.and_eq_true, Bool.not_eq_true', decide_eq_false_iff_not, hz c]
      unfold rst setw
      constructor
      · rintro ⟨⟨r, r1, r2, r3, r4⟩, r5⟩
        refine ⟨r, r1, r2, ?_, r4⟩
        rw [if_neg (fun e => r5 (by rw [r4, e]))]
        exact r3
      · rintro ⟨r, r1, r2, r3, r4⟩
        by_cases e : E r = E k
        · rw [if_pos e] at r3
          exact absurd r3 ho
        · rw [if_neg e] at r3
          refine ⟨⟨r, r1, r2, r3, r4⟩, fun g => e ?_⟩
          rw [r4] at g
          have := congrArg pl g
          rwa [pl_cl, pl_cl] at this
    have hl : cn (tb z) 64 ≤ 64 := cn_le _ _
    rcases (show (T + 1) % 2 = 0 ∨ (T + 1) % 2 = 1 by omega) with par | par
    · have L := c_outL (S := S) hE hM (w := w) (mx := true) (o := i + 1) (r := val d E F i j T) (X1 := nI i) (X2 := nI j) (X3 := nI (T + 1)) (y4 := x) (y6 := y) (y8 := z) (kr := X8_outcome f) (fun k hk h0 => by
        rw [if_pos rfl, es]
        refine ih (setw w (E k) (i + 1)) _ _ _ f (by omega) (by omega) (Wt_set hW (Or.inl rfl) (by omega)) ?_ ?_ (zset k (i + 1) hk h0 (by omega))
        · rw [own_set ok (hE k hk).1 (hE k hk).2, tb_orF, hx]
          exact funext fun c => by rw [tb_oneC (cl_64 (hE k hk).1)]
        · rw [own_set2 ok (hE k hk).1 (hE k hk).2 h0 (by omega) (by omega)]
          exact hy) F 0 aFu z (by omega) (by show _ < 100000; omega) hz
      have L : X8_outcome_L61 (nI 1) S (nI i) (nI j) (nI (T + 1)) x y z (X8_outcome f) aFu (val d E F i j T w) z (nI (cn (tb z) 64)) = some (fldv E (val d E F i j T) true (i + 1) w F) := L
      have vv : val d E F i j (T + 1) w = fldv E (val d E F i j T) true (i + 1) w F := by
        rw [val, if_pos par, decide_eq_true par]
      rw [par] at pr
      rw [vv, X8_outcome, if_neg (nI_nle (by omega) (by omega)), if_pos (show nI (T + 1) ≤ (4 : Int32) from nI_le (b := 4) (by omega) (by decide)), show (2 : Int32) = nI 2 from rfl, pr, if_pos (show nI 0 = (0 : Int32) from rfl)]
      unfold X8_outcome_J31
      rw [show (1 : Int32) = nI 1 from rfl, es, e0, ob, aLet, pc64, L]
      rfl
    · have L := c_outL (S := S) hE hM (w := w) (mx := false) (o := j + 1) (r := val d E F i j T) (X1 := nI i) (X2 := nI j) (X3 := nI (T + 1)) (y4 := x) (y6 := y) (y8 := z) (kr := X8_outcome f) (fun k hk h0 => by
        rw [if_neg (by decide), es]
        refine ih (setw w (E k) (j + 1)) _ _ _ f (by omega) (by omega) (Wt_set hW (Or.inr rfl) (by omega)) ?_ ?_ (zset k (j + 1) hk h0 (by omega))
        · rw [own_set2 ok (hE k hk).1 (hE k hk).2 h0 (by omega) (by omega)]
          exact hx
        · rw [own_set ok (hE k hk).1 (hE k hk).2, tb_orF, hy]
          exact funext fun c => by rw [tb_oneC (cl_64 (hE k hk).1)]) F 0 aFu z (by omega) (by show _ < 100000; omega) hz
      have L : X8_outcome_L61 (nI 0) S (nI i) (nI j) (nI (T + 1)) x y z (X8_outcome f) aFu (val d E F i j T w) z (nI (cn (tb z) 64)) = some (fldv E (val d E F i j T) false (j + 1) w F) := L
      have vv : val d E F i j (T + 1) w = fldv E (val d E F i j T) false (j + 1) w F := by
        rw [val, if_neg (by omega), decide_eq_false (by omega)]
      rw [par] at pr
      rw [vv, X8_outcome, if_neg (nI_nle (by omega) (by omega)), if_pos (show nI (T + 1) ≤ (4 : Int32) from nI_le (b := 4) (by omega) (by decide)), show (2 : Int32) = nI 2 from rfl, pr, if_neg (show ¬ nI 1 = (0 : Int32) by decide)]
      unfold X8_outcome_J31
      rw [show (1 : Int32) = nI 1 from rfl, es, e0, ob, aLet, pc64, show (0 : Int32) = nI 0 from rfl, L]
      rfl
/-! the reference's turns -/
def SL (m : Rec) (E : Nat → Nat) (F i j : Nat) (Z : Rec) : Prop := Fr m Z ∧ Z.1 23 = nI F ∧ Z.1 24 = nI i ∧ Z.1 25 = nI j ∧ ∀ k, k < F → Z.2.1 22 k = nI (E k)
theorem SL_A {m : Rec} {E : Nat → Nat} {F i j : Nat} {Z : Rec} (h : SL m E F i j Z) (f : Nat → Int32) : SL m E F i j (sA Z 2 f) := ⟨Fr_A h.1 (by omega), h.2.1, h.2.2.1, h.2.2.2.1, h.2.2.2.2⟩
theorem r_free {d : LD} {m Z : Rec} {E : Nat → Nat} {F i j : Nat} {w : Nat → Nat} (hF : F ≤ 6) (hE : ∀ k, k < F → E k < 36 ∧ inP d (E k) = true) (hZ : SL m E F i j Z) (hR : RowOf (giveD d w) (Z.2.1 2)) (hw : ∀ p, p < 36 → w p < 100) {k : Nat} (hk : k < F) : X9_isFree Z (nI k) = some (if w (E k) = 0 then nI 1 else nI 0) := by
  have h1 := hZ.2.2.2.2 k hk
  have h2 := hE k hk
  have h3 : (Z.2.1 2) (52 + E k) = nI (w (E k)) := hR.2.2.2.2.2.2.2.2.1 (E k) h2.1
  have h4 := hw (E k) h2.1
  unfold X9_isFree
  simp (disch := omega) only [li0, li1, li2, li3, li4, li5, li6, li7, li8, li11, li12, li16, li24, li25, li26, li31, li32, li36, li40, li48, li52, li58, li59, li60, li63, li64, li88, li96, li130, li192, li255, li2208, li2304, li9999, li9, li13, li14, li30, li35, li44, li45, li46, li47, li97, li98, li100, li101, li104, li105, li108, li110, li111, li112, li114, li117, li122, li999999, li1000000, li2147483647, cmp0, cmpl, cmpg, cmple, cmpge, nI_leI, nI_ltI, nI_eq, rL, rI, wL, wI, ob, aLet, nI_add, pk_mul, ↓reduceIte, if_true, if_false, eq_self, Nat.reduceEqDiff, Nat.reduceLeDiff, Nat.reduceLT, Nat.one_ne_zero, Nat.zero_ne_one, Nat.add_zero, Bool.false_eq_true, nI_neq, h1, h3]
  by_cases z : w (E k) = 0
  · rw [if_pos z, if_pos z]
  · rw [if_neg z, if_neg z]
theorem r_worth {d : LD} {m Z : Rec} {E : Nat → Nat} {F i j : Nat} {w : Nat → Nat} (okw : okL (giveD d w)) (hi : i < lH d) (hj : j < lH d) (hZ : SL m E F i j Z) (hR : RowOf (giveD d w) (Z.2.1 2)) : X9_worth Z = some (wth d i j w) := by
  have s1 := r_says okw hR (i := i) hi
  have s2 := r_says okw hR (i := j) hj
  have g1 := sy_lt (giveD d w) i
  have g2 := sy_lt (giveD d w) j
  have b1 := r_bitsF (n := sy (giveD d w) i) (by omega)
  have b2 := r_bitsF (n := sy (giveD d w) j) (by omega)
  unfold X9_worth
  rw [hZ.2.2.1, hZ.2.2.2.1, s1, ob, b1, ob, s2, ob, b2, ob]
  rfl
theorem set_back {w : Nat → Nat} {p o : Nat} (h : w p = 0) : setw (setw w p o) p 0 = w := funext fun q => by
  unfold setw
  by_cases z : q = p
  · rw [if_pos z, z, h]
  · rw [if_neg z, if_neg z]
theorem row_set {d : LD} {w : Nat → Nat} {f : Nat → Int32} (okw : okL (giveD d w)) (hR : RowOf (giveD d w) f) {p : Nat} (hp : p < 36) (o : Nat) : RowOf (giveD d (setw w p o)) (upd f (52 + p) (nI o)) := row_sold okw hR hp
theorem r_fld {d : LD} {m : Rec} (ok : okL d) {E : Nat → Nat} {F i j : Nat} (hF : F ≤ 6) (hE : ∀ k, k < F → E k < 36 ∧ inP d (E k) = true) {Fn : Nat → Int32 → Int32 → Rec → Option (Int32 × Rec)} {inner : Rec → Option (Int32 × Rec)} {r : (Nat → Nat) → Int32} {mx : Bool} {o : Nat} (ho : o = i + 1 ∨ o = j + 1) (hol : o ≤ lH d)
    (hend : ∀ n v Z, SL m E F i j Z → Fn (n + 1) v (nI F) Z = some (v, Z))
    (hskip : ∀ n v k Z, k < F → SL m E F i j Z → X9_isFree Z (nI k) = some (nI 0) → Fn (n + 1) v (nI k) Z = Fn n v (nI (k + 1)) Z)
    (htake : ∀ n v k Z b Z2, k < F → SL m E F i j Z → X9_isFree Z (nI k) = some (nI 1) → inner (sA Z 2 (upd (Z.2.1 2) (52 + E k) (nI o))) = some (b, Z2) → SL m E F i j Z2 → Fn (n + 1) v (nI k) Z = Fn n (bst mx v b) (nI (k + 1)) (sA Z2 2 (upd (Z2.2.1 2) (52 + E k) (nI 0))))
    (hin : ∀ w Z, Wt d i j w → RowOf (giveD d w) (Z.2.1 2) → SL m E F i j Z → ∃ Z2, inner Z = some (r w, Z2) ∧ RowOf (giveD d w) (Z2.2.1 2) ∧ SL m E F i j Z2) :
    ∀ w Z, Wt d i j w → RowOf (giveD d w) (Z.2.1 2) → SL m E F i j Z → ∃ Z2, (inner Z).bind (fun v1 => Fn aFu v1.1 (nI 0) v1.2) = some (fldv E r mx o w F, Z2) ∧ RowOf (giveD d w) (Z2.2.1 2) ∧ SL m E F i j Z2 := by
  intro w Z hW hR hZ
  have h6 := ok.1
  have okw := ok_give ok (fun p hp => (hW p hp).2.2)
  have hw100 : ∀ p, p < 36 → w p < 100 := fun p hp => by
    have := (hW p hp).2.2
    omega
  obtain ⟨Z1, e1, e2, e3⟩ := hin w Z hW hR hZ
  have key : ∀ e k n Z, k + e = F → e < n → RowOf (giveD d w) (Z.2.1 2) → SL m E F i j Z → ∃ Z2, Fn n (fldv E r mx o w k) (nI k) Z = some (fldv E r mx o w F, Z2) ∧ RowOf (giveD d w) (Z2.2.1 2) ∧ SL m E F i j Z2 := by
    intro e
    induction e with
    | zero =>
      intro k n Z h1 h2 hR hZ
      obtain ⟨n, rfl⟩ : ∃ z, n = z + 1 := ⟨n - 1, by omega⟩
      obtain rfl : k = F := h1
      exact ⟨Z, hend _ _ _ hZ, hR, hZ⟩
    | succ e ih =>
      intro k n Z h1 h2 hR hZ
      obtain ⟨n, rfl⟩ : ∃ z, n = z + 1 := ⟨n - 1, by omega⟩
      have hk : k < F := by omega
      have fr := r_free hF hE hZ hR hw100 hk
      by_cases w0 : w (E k) = 0
      · rw [if_pos w0] at fr
        have hR2 := row_set okw hR (hE k hk).1 o
        have hW2 := Wt_set hW (p := E k) ho hol
        obtain ⟨Z2, g1, g2, g3⟩ := hin (setw w (E k) o) (sA Z 2 (upd (Z.2.1 2) (52 + E k) (nI o))) hW2 hR2 (SL_A hZ _)
        have hR3 := row_set (ok_give ok (fun p hp => (hW2 p hp).2.2)) g2 (hE k hk).1 0
        rw [set_back w0] at hR3
        obtain ⟨Z3, i1, i2, i3⟩ := ih (k + 1) n (sA Z2 2 (upd (Z2.2.1 2) (52 + E k) (nI 0))) (by omega) (by omega) hR3 (SL_A g3 _)
        refine ⟨Z3, ?_, i2, i3⟩
        rw [htake n _ k Z _ Z2 hk hZ fr g1 g3]
        have fk : fldv E r mx o w (k + 1) = bst mx (fldv E r mx o w k) (r (setw w (E k) o)) := if_pos w0
        rw [← fk]
        exact i1
      · rw [if_neg w0] at fr
        obtain ⟨Z3, i1, i2, i3⟩ := ih (k + 1) n Z (by omega) (by omega) hR hZ
        refine ⟨Z3, ?_, i2, i3⟩
        rw [hskip n _ k Z hk hZ fr]
        have fk : fldv E r mx o w (k + 1) = fldv E r mx o w k := if_neg w0
        rw [← fk]
        exact i1
  obtain ⟨Z3, i1, i2, i3⟩ := key F 0 aFu Z1 (by omega) (by show _ < 100000; omega) e2 e3
  refine ⟨Z3, ?_, i2, i3⟩
  rw [e1, ob]
  exact i1
theorem omp {α β : Type} (a : α) (f : α → β) : (some a).map f = some (f a) := Eq.trans (Eq.refl _) (Eq.refl _)
theorem min_le (a b : Int32) : a_min a b = if a ≤ b then a else b := by
  unfold a_min
  by_cases h : b < a
  · rw [if_pos h, if_neg (fa_of_lt h).2.1]
  · rw [if_neg h, if_pos (fa_of_nlt h)]
theorem max_le (a b : Int32) : a_max a b = if b ≤ a then a else b := by
  unfold a_max
  by_cases h : a < b
  · rw [if_pos h, if_neg (fa_of_lt h).2.1]
  · rw [if_neg h, if_pos (fa_of_nlt h)]
theorem r_lastTurn {d : LD} {m : Rec} (ok : okL d) {E : Nat → Nat} {F i j : Nat} (hi : i < lH d) (hj : j < lH d) (hF : F ≤ 6) (hE : ∀ k, k < F → E k < 36 ∧ inP d (E k) = true) : ∀ w Z, Wt d i j w → RowOf (giveD d w) (Z.2.1 2) → SL m E F i j Z → ∃ Z2, X9_lastTurn Z = some (val d E F i j 1 w, Z2) ∧ RowOf (giveD d w) (Z2.2.1 2) ∧ SL m E F i j Z2 := by
  have h6 := ok.1
  intro w Z hW hR hZ
  obtain ⟨Z2, e1, e2⟩ := r_fld ok hF hE (Fn := X9_lastTurn_L7) (inner := fun Z => (X9_worth Z).map (fun v => (v, Z))) (r := val d E F i j 0) (mx := false) (o := j + 1) (by omega) (by omega)
    (fun n v Z hZ => by simp (disch := omega) only [X9_lastTurn_L7, hZ.2.1, li0, li1, li2, li3, li4, li5, li6, li7, li8, li11, li12, li16, li24, li25, li26, li31, li32, li36, li40, li48, li52, li58, li59, li60, li63, li64, li88, li96, li130, li192, li255, li2208, li2304, li9999, li9, li13, li14, li30, li35, li44, li45, li46, li47, li97, li98, li100, li101, li104, li105, li108, li110, li111, li112, li114, li117, li122, li999999, li1000000, li2147483647, cmp0, cmpl, cmpg, cmple, cmpge, nI_leI, nI_ltI, nI_eq, rL, rI, wL, wI, ob, aLet, nI_add, pk_mul, ↓reduceIte, if_true, if_false, eq_self, Nat.reduceEqDiff, Nat.reduceLeDiff, Nat.reduceLT, Nat.one_ne_zero, Nat.zero_ne_one, Nat.add_zero, Bool.false_eq_true, nI_neq, Nat.le_refl])
    (fun n v k Z hk hZ fr => by
      have h : ¬ F ≤ k := by omega
      simp (disch := omega) only [X9_lastTurn_L7, hZ.2.1, fr, li0, li1, li2, li3, li4, li5, li6, li7, li8, li11, li12, li16, li24, li25, li26, li31, li32, li36, li40, li48, li52, li58, li59, li60, li63, li64, li88, li96, li130, li192, li255, li2208, li2304, li9999, li9, li13, li14, li30, li35, li44, li45, li46, li47, li97, li98, li100, li101, li104, li105, li108, li110, li111, li112, li114, li117, li122, li999999, li1000000, li2147483647, cmp0, cmpl, cmpg, cmple, cmpge, nI_leI, nI_ltI, nI_eq, rL, rI, wL, wI, ob, aLet, nI_add, pk_mul, ↓reduceIte, if_true, if_false, eq_self, Nat.reduceEqDiff, Nat.reduceLeDiff, Nat.reduceLT, Nat.one_ne_zero, Nat.zero_ne_one, Nat.add_zero, Bool.false_eq_true, nI_neq, h])
    (fun n v k Z b Z2 hk hZ fr hin hZ2 => by
      have h : ¬ F ≤ k := by omega
      have h1 := hZ.2.2.2.2 k hk
      have h2 := hZ2.2.2.2.2 k hk
      have h3 := (hE k hk).1
      obtain ⟨u, hu, q1⟩ : ∃ u, X9_worth (sA Z 2 (upd (Z.2.1 2) (52 + E k) (nI (j + 1)))) = some u ∧ (u, sA Z 2 (upd (Z.2.1 2) (52 + E k) (nI (j + 1)))) = (b, Z2) := by
        cases q : X9_worth (sA Z 2 (upd (Z.2.1 2) (52 + E k) (nI (j + 1)))) with
        | none =>
          rw [q] at hin
          cases hin
        | some u =>
          rw [q, omp] at hin
          exact ⟨u, rfl, Option.some.inj hin⟩
      obtain ⟨rfl, rfl⟩ := Prod.mk.inj q1
      have g2 : ∀ f, (sA Z 2 f).2.1 22 = Z.2.1 22 := fun f => rfl
      have g3 : ∀ f, (sA Z 2 f).2.1 2 = f := fun f => rfl
      have bs : bst false v u = if v ≤ u then v else u := min_le v u
      rw [bs]
      simp (disch := omega) only [X9_lastTurn_L7, X9_lastTurn_J58, hZ.2.1, fr, hZ.2.2.2.1, h1, hu, g2, g3, li0, li1, li2, li3, li4, li5, li6, li7, li8, li11, li12, li16, li24, li25, li26, li31, li32, li36, li40, li48, li52, li58, li59, li60, li63, li64, li88, li96, li130, li192, li255, li2208, li2304, li9999, li9, li13, li14, li30, li35, li44, li45, li46, li47, li97, li98, li100, li101, li104, li105, li108, li110, li111, li112, li114, li117, li122, li999999, li1000000, li2147483647, cmp0, cmpl, cmpg, cmple, cmpge, nI_leI, nI_ltI, nI_eq, rL, rI, wL, wI, ob, aLet, nI_add, pk_mul, ↓reduceIte, if_true, if_false, eq_self, Nat.reduceEqDiff, Nat.reduceLeDiff, Nat.reduceLT, Nat.one_ne_zero, Nat.zero_ne_one, Nat.add_zero, Bool.false_eq_true, nI_neq, h]
      by_cases z : v ≤ u
      · rw [if_pos z, if_pos z]
      · rw [if_neg z, if_neg z])
    (fun w Z hW hR hZ => ⟨Z, by
      have := r_worth (ok_give ok (fun p hp => (hW p hp).2.2)) hi hj hZ hR
      rw [this, omp]
      rfl, hR, hZ⟩) w Z hW hR hZ
  refine ⟨Z2, ?_, e2⟩
  unfold X9_lastTurn
  cases q : X9_worth Z with
  | none =>
    rw [q] at e1
    cases e1
  | some y =>
    rw [q, omp, ob] at e1
    have e1 : X9_lastTurn_L7 aFu y (nI 0) Z = _ := e1
    rw [ob, show (0 : Int32) = nI 0 from rfl, e1]
    rfl
theorem r_lastButOne {d : LD} {m : Rec} (ok : okL d) {E : Nat → Nat} {F i j : Nat} (hi : i < lH d) (hj : j < lH d) (hF : F ≤ 6) (hE : ∀ k, k < F → E k < 36 ∧ inP d (E k) = true) : ∀ w Z, Wt d i j w → RowOf (giveD d w) (Z.2.1 2) → SL m E F i j Z → ∃ Z2, X9_lastButOne Z = some (val d E F i j 2 w, Z2) ∧ RowOf (giveD d w) (Z2.2.1 2) ∧ SL m E F i j Z2 := by
  have h6 := ok.1
  intro w Z hW hR hZ
  obtain ⟨Z2, e1, e2⟩ := r_fld ok hF hE (Fn := X9_lastButOne_L7) (inner := X9_lastTurn) (r := val d E F i j 1) (mx := true) (o := i + 1) (by omega) (by omega)
    (fun n v Z hZ => by simp (disch := omega) only [X9_lastButOne_L7, hZ.2.1, li0, li1, li2, li3, li4, li5, li6, li7, li8, li11, li12, li16, li24, li25, li26, li31, li32, li36, li40, li48, li52, li58, li59, li60, li63, li64, li88, li96, li130, li192, li255, li2208, li2304, li9999, li9, li13, li14, li30, li35, li44, li45, li46, li47, li97, li98, li100, li101, li104, li105, li108, li110, li111, li112, li114, li117, li122, li999999, li1000000, li2147483647, cmp0, cmpl, cmpg, cmple, cmpge, nI_leI, nI_ltI, nI_eq, rL, rI, wL, wI, ob, aLet, nI_add, pk_mul, ↓reduceIte, if_true, if_false, eq_self, Nat.reduceEqDiff, Nat.reduceLeDiff, Nat.reduceLT, Nat.one_ne_zero, Nat.zero_ne_one, Nat.add_zero, Bool.false_eq_true, nI_neq, Nat.le_refl])
    (fun n v k Z hk hZ fr => by
      have h : ¬ F ≤ k := by omega
      simp (disch := omega) only [X9_lastButOne_L7, hZ.2.1, fr, li0, li1, li2, li3, li4, li5, li6, li7, li8, li11, li12, li16, li24, li25, li26, li31, li32, li36, li40, li48, li52, li58, li59, li60, li63, li64, li88, li96, li130, li192, li255, li2208, li2304, li9999, li9, li13, li14, li30, li35, li44, li45, li46, li47, li97, li98, li100, li101, li104, li105, li108, li110, li111, li112, li114, li117, li122, li999999, li1000000, li2147483647, cmp0, cmpl, cmpg, cmple, cmpge, nI_leI, nI_ltI, nI_eq, rL, rI, wL, wI, ob, aLet, nI_add, pk_mul, ↓reduceIte, if_true, if_false, eq_self, Nat.reduceEqDiff, Nat.reduceLeDiff, Nat.reduceLT, Nat.one_ne_zero, Nat.zero_ne_one, Nat.add_zero, Bool.false_eq_true, nI_neq, h])
    (fun n v k Z b Z2 hk hZ fr hin hZ2 => by
      have h : ¬ F ≤ k := by omega
      have h1 := hZ.2.2.2.2 k hk
      have h2 := hZ2.2.2.2.2 k hk
      have h3 := (hE k hk).1
      have bs : bst true v b = if b ≤ v then v else b := max_le v b
      rw [bs]
      have hin : X9_lastTurn (sA Z 2 (upd (Z.2.1 2) (52 + E k) (nI (i + 1)))) = some (b, Z2) := hin
      simp (disch := omega) only [X9_lastButOne_L7, X9_lastButOne_J58, hZ.2.1, fr, hZ.2.2.1, hZ.2.2.2.1, h1, h2, hin, li0, li1, li2, li3, li4, li5, li6, li7, li8, li11, li12, li16, li24, li25, li26, li31, li32, li36, li40, li48, li52, li58, li59, li60, li63, li64, li88, li96, li130, li192, li255, li2208, li2304, li9999, li9, li13, li14, li30, li35, li44, li45, li46, li47, li97, li98, li100, li101, li104, li105, li108, li110, li111, li112, li114, li117, li122, li999999, li1000000, li2147483647, cmp0, cmpl, cmpg, cmple, cmpge, nI_leI, nI_ltI, nI_eq, rL, rI, wL, wI, ob, aLet, nI_add, pk_mul, ↓reduceIte, if_true, if_false, eq_self, Nat.reduceEqDiff, Nat.reduceLeDiff, Nat.reduceLT, Nat.one_ne_zero, Nat.zero_ne_one, Nat.add_zero, Bool.false_eq_true, nI_neq, h]
      by_cases z : b ≤ v
      · rw [if_pos z, if_pos z]
      · rw [if_neg z, if_neg z])
    (r_lastTurn ok hi hj hF hE) w Z hW hR hZ
  refine ⟨Z2, ?_, e2⟩
  unfold X9_lastButOne
  have e1 : (X9_lastTurn Z).bind (fun v1 => X9_lastButOne_L7 aFu v1.1 (nI 0) v1.2) = _ := e1
  cases q : X9_lastTurn Z with
  | none => rw [q] at e1; cases e1
  | some y =>
    rw [q, ob] at e1
    rw [ob, show (0 : Int32) = nI 0 from rfl, e1]
    rfl
theorem r_secondTurn {d : LD} {m : Rec} (ok : okL d) {E : Nat → Nat} {F i j : Nat} (hi : i < lH d) (hj : j < lH d) (hF : F ≤ 6) (hE : ∀ k, k < F → E k < 36 ∧ inP d (E k) = true) : ∀ w Z, Wt d i j w → RowOf (giveD d w) (Z.2.1 2) → SL m E F i j Z → ∃ Z2, X9_secondTurn Z = some (val d E F i j 3 w, Z2) ∧ RowOf (giveD d w) (Z2.2.1 2) ∧ SL m E F i j Z2 := by
  have h6 := ok.1
  intro w Z hW hR hZ
  obtain ⟨Z2, e1, e2⟩ := r_fld ok hF hE (Fn := X9_secondTurn_L7) (inner := X9_lastButOne) (r := val d E F i j 2) (mx := false) (o := j + 1) (by omega) (by omega)
    (fun n v Z hZ => by simp (disch := omega) only [X9_secondTurn_L7, hZ.2.1, li0, li1, li2, li3, li4, li5, li6, li7, li8, li11, li12, li16, li24, li25, li26, li31, li32, li36, li40, li48, li52, li58, li59, li60, li63, li64, li88, li96, li130, li192, li255, li2208, li2304, li9999, li9, li13, li14, li30, li35, li44, li45, li46, li47, li97, li98, li100, li101, li104, li105, li108, li110, li111, li112, li114, li117, li122, li999999, li1000000, li2147483647, cmp0, cmpl, cmpg, cmple, cmpge, nI_leI, nI_ltI, nI_eq, rL, rI, wL, wI, ob, aLet, nI_add, pk_mul, ↓reduceIte, if_true, if_false, eq_self, Nat.reduceEqDiff, Nat.reduceLeDiff, Nat.reduceLT, Nat.one_ne_zero, Nat.zero_ne_one, Nat.add_zero, Bool.false_eq_true, nI_neq, Nat.le_refl])
    (fun n v k Z hk hZ fr => by
      have h : ¬ F ≤ k := by omega
      simp (disch := omega) only [X9_secondTurn_L7, hZ.2.1, fr, li0, li1, li2, li3, li4, li5, li6, li7, li8, li11, li12, li16, li24, li25, li26, li31, li32, li36, li40, li48, li52, li58, li59, li60, li63, li64, li88, li96, li130, li192, li255, li2208, li2304, li9999, li9, li13, li14, li30, li35, li44, li45, li46, li47, li97, li98, li100, li101, li104, li105, li108, li110, li111, li112, li114, li117, li122, li999999, li1000000, li2147483647, cmp0, cmpl, cmpg, cmple, cmpge, nI_leI, nI_ltI, nI_eq, rL, rI, wL, wI, ob, aLet, nI_add, pk_mul, ↓reduceIte, if_true, if_false, eq_self, Nat.reduceEqDiff, Nat.reduceLeDiff, Nat.reduceLT, Nat.one_ne_zero, Nat.zero_ne_one, Nat.add_zero, Bool.false_eq_true, nI_neq, h])
    (fun n v k Z b Z2 hk hZ fr hin hZ2 => by
      have h : ¬ F ≤ k := by omega
      have h1 := hZ.2.2.2.2 k hk
      have h2 := hZ2.2.2.2.2 k hk
      have h3 := (hE k hk).1
      have bs : bst false v b = if v ≤ b then v else b := min_le v b
      rw [bs]
      have hin : X9_lastButOne (sA Z 2 (upd (Z.2.1 2) (52 + E k) (nI (j + 1)))) = some (b, Z2) := hin
      simp (disch := omega) only [X9_secondTurn_L7, X9_secondTurn_J58, hZ.2.1, fr, hZ.2.2.1, hZ.2.2.2.1, h1, h2, hin, li0, li1, li2, li3, li4, li5, li6, li7, li8, li11, li12, li16, li24, li25, li26, li31, li32, li36, li40, li48, li52, li58, li59, li60, li63, li64, li88, li96, li130, li192, li255, li2208, li2304, li9999, li9, li13, li14, li30, li35, li44, li45, li46, li47, li97, li98, li100, li101, li104, li105, li108, li110, li111, li112, li114, li117, li122, li999999, li1000000, li2147483647, cmp0, cmpl, cmpg, cmple, cmpge, nI_leI, nI_ltI, nI_eq, rL, rI, wL, wI, ob, aLet, nI_add, pk_mul, ↓reduceIte, if_true, if_false, eq_self, Nat.reduceEqDiff, Nat.reduceLeDiff, Nat.reduceLT, Nat.one_ne_zero, Nat.zero_ne_one, Nat.add_zero, Bool.false_eq_true, nI_neq, h]
      by_cases z : v ≤ b
      · rw [if_pos z, if_pos z]
      · rw [if_neg z, if_neg z])
    (r_lastButOne ok hi hj hF hE) w Z hW hR hZ
  refine ⟨Z2, ?_, e2⟩
  unfold X9_secondTurn
  have e1 : (X9_lastButOne Z).bind (fun v1 => X9_secondTurn_L7 aFu v1.1 (nI 0) v1.2) = _ := e1
  cases q : X9_lastButOne Z with
  | none => rw [q] at e1; cases e1
  | some y =>
    rw [q, ob] at e1
    rw [ob, show (0 : Int32) = nI 0 from rfl, e1]
    rfl
theorem r_firstTurn {d : LD} {m : Rec} (ok : okL d) {E : Nat → Nat} {F i j : Nat} (hi : i < lH d) (hj : j < lH d) (hF : F ≤ 6) (hE : ∀ k, k < F → E k < 36 ∧ inP d (E k) = true) : ∀ w Z, Wt d i j w → RowOf (giveD d w) (Z.2.1 2) → SL m E F i j Z → ∃ Z2, X9_firstTurn Z = some (val d E F i j 4 w, Z2) ∧ RowOf (giveD d w) (Z2.2.1 2) ∧ SL m E F i j Z2 := by
  have h6 := ok.1
  intro w Z hW hR hZ
  obtain ⟨Z2, e1, e2⟩ := r_fld ok hF hE (Fn := X9_firstTurn_L7) (inner := X9_secondTurn) (r := val d E F i j 3) (mx := true) (o := i + 1) (by omega) (by omega)
    (fun n v Z hZ => by simp (disch := omega) only [X9_firstTurn_L7, hZ.2.1, li0, li1, li2, li3, li4, li5, li6, li7, li8, li11, li12, li16, li24, li25, li26, li31, li32, li36, li40, li48, li52, li58, li59, li60, li63, li64, li88, li96, li130, li192, li255, li2208, li2304, li9999, li9, li13, li14, li30, li35, li44, li45, li46, li47, li97, li98, li100, li101, li104, li105, li108, li110, li111, li112, li114, li117, li122, li999999, li1000000, li2147483647, cmp0, cmpl, cmpg, cmple, cmpge, nI_leI, nI_ltI, nI_eq, rL, rI, wL, wI, ob, aLet, nI_add, pk_mul, ↓reduceIte, if_true, if_false, eq_self, Nat.reduceEqDiff, Nat.reduceLeDiff, Nat.reduceLT, Nat.one_ne_zero, Nat.zero_ne_one, Nat.add_zero, Bool.false_eq_true, nI_neq, Nat.le_refl])
    (fun n v k Z hk hZ fr => by
      have h : ¬ F ≤ k := by omega
      simp (disch := omega) only [X9_firstTurn_L7, hZ.2.1, fr, li0, li1, li2, li3, li4, li5, li6, li7, li8, li11, li12, li16, li24, li25, li26, li31, li32, li36, li40, li48, li52, li58, li59, li60, li63, li64, li88, li96, li130, li192, li255, li2208, li2304, li9999, li9, li13, li14, li30, li35, li44, li45, li46, li47, li97, li98, li100, li101, li104, li105, li108, li110, li111, li112, li114, li117, li122, li999999, li1000000, li2147483647, cmp0, cmpl, cmpg, cmple, cmpge, nI_leI, nI_ltI, nI_eq, rL, rI, wL, wI, ob, aLet, nI_add, pk_mul, ↓reduceIte, if_true, if_false, eq_self, Nat.reduceEqDiff, Nat.reduceLeDiff, Nat.reduceLT, Nat.one_ne_zero, Nat.zero_ne_one, Nat.add_zero, Bool.false_eq_true, nI_neq, h])
    (fun n v k Z b Z2 hk hZ fr hin hZ2 => by
      have h : ¬ F ≤ k := by omega
      have h1 := hZ.2.2.2.2 k hk
      have h2 := hZ2.2.2.2.2 k hk
      have h3 := (hE k hk).1
      have bs : bst true v b = if b ≤ v then v else b := max_le v b
      rw [bs]
      have hin : X9_secondTurn (sA Z 2 (upd (Z.2.1 2) (52 + E k) (nI (i + 1)))) = some (b, Z2) := hin
      simp (disch := omega) only [X9_firstTurn_L7, X9_firstTurn_J58, hZ.2.1, fr, hZ.2.2.1, hZ.2.2.2.1, h1, h2, hin, li0, li1, li2, li3, li4, li5, li6, li7, li8, li11, li12, li16, li24, li25, li26, li31, li32, li36, li40, li48, li52, li58, li59, li60, li63, li64, li88, li96, li130, li192, li255, li2208, li2304, li9999, li9, li13, li14, li30, li35, li44, li45, li46, li47, li97, li98, li100, li101, li104, li105, li108, li110, li111, li112, li114, li117, li122, li999999, li1000000, li2147483647, cmp0, cmpl, cmpg, cmple, cmpge, nI_leI, nI_ltI, nI_eq, rL, rI, wL, wI, ob, aLet, nI_add, pk_mul, ↓reduceIte, if_true, if_false, eq_self, Nat.reduceEqDiff, Nat.reduceLeDiff, Nat.reduceLT, Nat.one_ne_zero, Nat.zero_ne_one, Nat.add_zero, Bool.false_eq_true, nI_neq, h]
      by_cases z : b ≤ v
      · rw [if_pos z, if_pos z]
      · rw [if_neg z, if_neg z])
    (r_secondTurn ok hi hj hF hE) w Z hW hR hZ
  refine ⟨Z2, ?_, e2⟩
  unfold X9_firstTurn
  have e1 : (X9_secondTurn Z).bind (fun v1 => X9_firstTurn_L7 aFu v1.1 (nI 0) v1.2) = _ := e1
  cases q : X9_secondTurn Z with
  | none => rw [q] at e1; cases e1
  | some y =>
    rw [q, ob] at e1
    rw [ob, show (0 : Int32) = nI 0 from rfl, e1]
    rfl
/-! which places are open first -/
theorem cn_mono (P : Nat → Bool) {a b : Nat} (h : a ≤ b) : cn P a ≤ cn P b := by
  obtain ⟨e, rfl⟩ : ∃ e, b = a + e := ⟨b - a, by omega⟩
  induction e with
  | zero => exact Nat.le_refl _
  | succ e ih =>
    have := ih (by omega)
    show cn P a ≤ cn P (a + e) + (P (a + e)).toNat
    omega
theorem cn_hit {P : Nat → Bool} {r : Nat} : ∀ {n}, r < cn P n → ∃ q, q < n ∧ P q = true ∧ cn P q = r
  | 0, h => by
    rw [cn] at h
    omega
  | n + 1, h => by
    by_cases q : r < cn P n
    · obtain ⟨z, h1, h2⟩ := cn_hit q
      exact ⟨z, by omega, h2⟩
    · rw [cn] at h
      cases z : P n
      · rw [z] at h
        simp at h
        omega
      · rw [z] at h
        have : (true : Bool).toNat = 1 := rfl
        exact ⟨n, by omega, z, by omega⟩
theorem cn_less {P : Nat → Bool} {a b : Nat} (h : a < b) (ha : P a = true) : cn P a < cn P b := by
  have := cn_mono P (show a + 1 ≤ b by omega)
  rw [cn_yes ha] at this
  omega
theorem cn_inj {P : Nat → Bool} {a b : Nat} (ha : P a = true) (hb : P b = true) (h : cn P a = cn P b) : a = b := by
  rcases Nat.lt_trichotomy a b with q | q | q
  · have := cn_less q ha
    omega
  · exact q
  · have := cn_less q hb
    omega
theorem pl_lt {d : LD} (ok : okL d) {a b : Nat} (ha : inC d a = true) (hb : inC d b = true) : pl a < pl b ↔ a < b := by
  have := inC_b ok ha
  have := inC_b ok hb
  unfold pl
  omega
theorem own_hos {d : LD} (ok : okL d) {c o : Nat} (h : own d o c = true) : hosP d o (pl c) = true ∧ inC d c = true ∧ cl (pl c) = c := by
  have h1 := own_in ok h
  have e := own_cl (d := d) o (pl c)
  rw [cl_pl h1.2, h] at e
  refine ⟨e.symm, ?_, cl_pl h1.2⟩
  unfold own at h
  rw [Bool.and_eq_true] at h
  exact h.1
theorem c_lowL {d : LD} (ok : okL d) : ∀ (e r n : Nat) (x : Int64), r + e = 6 → e < n → (∀ c, tb x c = true ↔ own d 0 c = true ∧ r ≤ cn (hosP d 0) (pl c)) → ∃ y, X8_lowestOf_L5 n x (nI e) = some y ∧ ∀ c, tb y c = true ↔ own d 0 c = true ∧ 6 ≤ cn (hosP d 0) (pl c) := by
  intro e
  induction e with
  | zero =>
    intro r n x h1 h2 h3
    obtain ⟨n, rfl⟩ : ∃ z, n = z + 1 := ⟨n - 1, by omega⟩
    obtain rfl : r = 6 := h1
    exact ⟨x, by simp (disch := omega) only [X8_lowestOf_L5, li0, li1, li2, li3, li4, li5, li6, li7, li8, li11, li12, li16, li24, li25, li26, li31, li32, li36, li40, li48, li52, li58, li59, li60, li63, li64, li88, li96, li130, li192, li255, li2208, li2304, li9999, li9, li13, li14, li30, li35, li44, li45, li46, li47, li97, li98, li100, li101, li104, li105, li108, li110, li111, li112, li114, li117, li122, li999999, li1000000, li2147483647, cmp0, cmpl, cmpg, cmple, cmpge, nI_leI, nI_ltI, nI_eq, rL, rI, wL, wI, ob, aLet, nI_add, pk_mul, ↓reduceIte, if_true, if_false, eq_self, Nat.reduceEqDiff, Nat.reduceLeDiff, Nat.reduceLT, Nat.one_ne_zero, Nat.zero_ne_one, Nat.add_zero, Bool.false_eq_true, nI_neq, Nat.le_refl], h3⟩
  | succ e ih =>
    intro r n x h1 h2 h3
    obtain ⟨n, rfl⟩ : ∃ z, n = z + 1 := ⟨n - 1, by omega⟩
    have z : ¬ e + 1 ≤ 0 := by omega
    have em : nI (e + 1) + -nI 1 = nI e := pk_m1 e
    obtain ⟨y, y1, y2⟩ := ih (r + 1) n (x &&& (x - 1)) (by omega) (by omega) (fun c => by
      by_cases x0 : x = 0
      · subst x0
        have e0 : (0 : Int64) &&& (0 - 1) = 0 := by decide
        rw [e0, tb_0]
        constructor
        · intro h
          cases h
        · rintro ⟨g1, g2⟩
          have := (h3 c).mpr ⟨g1, by omega⟩
          rw [tb_0] at this
          exact this
      · obtain ⟨t, t1, t2, t3, t4, t5, t6⟩ := low x0
        obtain ⟨o1, o2⟩ := (h3 t).mp t2
        obtain ⟨p1, p2, p3⟩ := own_hos ok o1
        have rt : cn (hosP d 0) (pl t) = r := by
          rcases Nat.lt_or_ge r (cn (hosP d 0) (pl t)) with q | q
          · obtain ⟨a, a1, a2, a3⟩ := cn_hit q
            have ow : own d 0 (cl a) = true := (own_cl 0 a).trans a2
            have ic : inC d (cl a) = true := (own_hos ok ow).2.1
            have lt : cl a < t := by
              have := (pl_lt ok ic p2).mp (by rw [pl_cl]; exact a1)
              exact this
            have := (h3 (cl a)).mpr ⟨ow, by rw [pl_cl]; omega⟩
            rw [t3 _ lt] at this
            cases this
          · omega
        have c64 : ∀ c, own d 0 c = true → c < 64 := fun c hc => by
          have := inC_b ok (own_hos ok hc).2.1
          omega
        constructor
        · intro h
          have hc : c < 64 := by
            rcases Nat.lt_or_ge c 64 with q | q
            · exact q
            · rw [tb_big q] at h
              cases h
          rw [t5 c hc, Bool.and_eq_true, Bool.not_eq_true', decide_eq_false_iff_not] at h
          obtain ⟨g1, g2⟩ := (h3 c).mp h.1
          refine ⟨g1, ?_⟩
          rcases Nat.lt_or_ge r (cn (hosP d 0) (pl c)) with q | q
          · exact q
          · obtain ⟨u1, u2, u3⟩ := own_hos ok g1
            have := cn_inj u1 p1 (by omega)
            exact absurd (by rw [← u3, this, p3]) h.2
        · rintro ⟨g1, g2⟩
          have hc := c64 c g1
          rw [t5 c hc, (h3 c).mpr ⟨g1, by omega⟩, decide_eq_false (fun q => by
            rw [q] at g2
            omega)]
          rfl)
    refine ⟨y, ?_, y2⟩
    rw [← y1]
    simp (disch := omega) only [X8_lowestOf_L5, li0, li1, li2, li3, li4, li5, li6, li7, li8, li11, li12, li16, li24, li25, li26, li31, li32, li36, li40, li48, li52, li58, li59, li60, li63, li64, li88, li96, li130, li192, li255, li2208, li2304, li9999, li9, li13, li14, li30, li35, li44, li45, li46, li47, li97, li98, li100, li101, li104, li105, li108, li110, li111, li112, li114, li117, li122, li999999, li1000000, li2147483647, cmp0, cmpl, cmpg, cmple, cmpge, nI_leI, nI_ltI, nI_eq, rL, rI, wL, wI, ob, aLet, nI_add, pk_mul, ↓reduceIte, if_true, if_false, eq_self, Nat.reduceEqDiff, Nat.reduceLeDiff, Nat.reduceLT, Nat.one_ne_zero, Nat.zero_ne_one, Nat.add_zero, Bool.false_eq_true, nI_neq, z, em]
theorem c_low {d : LD} {S : Rec} (ok : okL d) (hS : LandOf d S) : ∃ y, X8_lowestOf (S.2.2 10 6) (nI 6) = some y ∧ ∀ c, tb y c = true ↔ own d 0 c = true ∧ cn (hosP d 0) (pl c) < 6 := by
  have th := tb_held ok hS (h := 6) (by omega)
  rw [show hw 6 = 0 from rfl] at th
  obtain ⟨y, y1, y2⟩ := c_lowL ok 6 0 aFu (S.2.2 10 6) (by omega) (by decide) (fun c => by
    rw [th]
    exact ⟨fun h => ⟨h, Nat.zero_le _⟩, fun h => h.1⟩)
  refine ⟨S.2.2 10 6 &&& (y ^^^ (-1)), by unfold X8_lowestOf; rw [y1]; rfl, fun c => ?_⟩
  rw [tb_andnF, th]
  dsimp only
  rw [Bool.and_eq_true, Bool.not_eq_true']
  constructor
  · rintro ⟨g1, g2⟩
    refine ⟨g1, ?_⟩
    rcases Nat.lt_or_ge (cn (hosP d 0) (pl c)) 6 with q | q
    · exact q
    · rw [(y2 c).mpr ⟨g1, q⟩] at g2
      cases g2
  · rintro ⟨g1, g2⟩
    refine ⟨g1, ?_⟩
    cases q : tb y c
    · rfl
    · have := (y2 c).mp q
      omega
theorem r_take57 {d : LD} {m : Rec} (ok : okL d) (hf : RowOf d (m.2.1 0)) {i j : Nat} (Z0 : Rec) (h1 : Fr m Z0) (h2 : Z0.1 23 = nI 0) (h3 : Z0.1 24 = nI i) (h4 : Z0.1 25 = nI j) (h5 : RowOf d (Z0.2.1 2)) : ∃ Z, X9_take_L57 aFu (nI 0) Z0 = some Z ∧ RowOf d (Z.2.1 2) ∧ ∃ E : Nat → Nat, SL m E (min 6 (cn (hosP d 0) 36)) i j Z ∧ ∀ k, k < min 6 (cn (hosP d 0) 36) → E k < 36 ∧ hosP d 0 (E k) = true ∧ cn (hosP d 0) (E k) = k := by
  let I : Nat → Rec → Prop := fun p Z => Fr m Z ∧ Z.1 23 = nI (min 6 (cn (hosP d 0) p)) ∧ Z.1 24 = nI i ∧ Z.1 25 = nI j ∧ RowOf d (Z.2.1 2) ∧ ∀ k, k < min 6 (cn (hosP d 0) p) → ∃ q, q < p ∧ hosP d 0 q = true ∧ cn (hosP d 0) q = k ∧ Z.2.1 22 k = nI q
  have key : ∀ e p n Z, p + e = 36 → e < n → I p Z → ∃ Z2, X9_take_L57 n (nI p) Z = some Z2 ∧ ∃ p2, p2 ≤ 36 ∧ I p2 Z2 ∧ min 6 (cn (hosP d 0) p2) = min 6 (cn (hosP d 0) 36) := by
    intro e
    induction e with
    | zero =>
      intro p n Z g1 g2 hI
      obtain ⟨n, rfl⟩ : ∃ z, n = z + 1 := ⟨n - 1, by omega⟩
      obtain rfl : p = 36 := g1
      exact ⟨Z, by simp (disch := omega) only [X9_take_L57, li0, li1, li2, li3, li4, li5, li6, li7, li8, li11, li12, li16, li24, li25, li26, li31, li32, li36, li40, li48, li52, li58, li59, li60, li63, li64, li88, li96, li130, li192, li255, li2208, li2304, li9999, li9, li13, li14, li30, li35, li44, li45, li46, li47, li97, li98, li100, li101, li104, li105, li108, li110, li111, li112, li114, li117, li122, li999999, li1000000, li2147483647, cmp0, cmpl, cmpg, cmple, cmpge, nI_leI, nI_ltI, nI_eq, rL, rI, wL, wI, ob, aLet, nI_add, pk_mul, ↓reduceIte, if_true, if_false, eq_self, Nat.reduceEqDiff, Nat.reduceLeDiff, Nat.reduceLT, Nat.one_ne_zero, Nat.zero_ne_one, Nat.add_zero, Bool.false_eq_true, nI_neq, Nat.le_refl], 36, Nat.le_refl _, hI, rfl⟩
    | succ e ih =>
      intro p n Z g1 g2 hI
      obtain ⟨n, rfl⟩ : ∃ z, n = z + 1 := ⟨n - 1, by omega⟩
      obtain ⟨i1, i2, i3, i4, i5, i6⟩ := id hI
      have h : ¬ 36 ≤ p := by omega
      have hp : p < 36 := by omega
      have f0 : RowOf d (Z.2.1 0) := by
        rw [i1.2.2.1]
        exact hf
      by_cases full : 6 ≤ cn (hosP d 0) p
      · have m6 : min 6 (cn (hosP d 0) p) = 6 := by omega
        have mono := cn_mono (hosP d 0) (show p ≤ 36 by omega)
        rw [m6] at i2
        exact ⟨Z, by simp (disch := omega) only [X9_take_L57, i2, li0, li1, li2, li3, li4, li5, li6, li7, li8, li11, li12, li16, li24, li25, li26, li31, li32, li36, li40, li48, li52, li58, li59, li60, li63, li64, li88, li96, li130, li192, li255, li2208, li2304, li9999, li9, li13, li14, li30, li35, li44, li45, li46, li47, li97, li98, li100, li101, li104, li105, li108, li110, li111, li112, li114, li117, li122, li999999, li1000000, li2147483647, cmp0, cmpl, cmpg, cmple, cmpge, nI_leI, nI_ltI, nI_eq, rL, rI, wL, wI, ob, aLet, nI_add, pk_mul, ↓reduceIte, if_true, if_false, eq_self, Nat.reduceEqDiff, Nat.reduceLeDiff, Nat.reduceLT, Nat.one_ne_zero, Nat.zero_ne_one, Nat.add_zero, Bool.false_eq_true, nI_neq, h], p, by omega, hI, by omega⟩
      · have mc : min 6 (cn (hosP d 0) p) = cn (hosP d 0) p := by omega
        have a := r_isIn ok f0 (p := p) (by omega)
        have e2 := f0.2.2.2.2.2.2.2.2.1 p hp
        have ho := ok.2.2.2.2.2.2.2.2.1 p hp
        have h6 := ok.1
        rw [mc] at i2 i6
        have nf : ¬ 6 ≤ cn (hosP d 0) p := full
        by_cases q : hosP d 0 p = true
        · have q2 := q
          unfold hosP at q2
          rw [Bool.and_eq_true, decide_eq_true_eq] at q2
          rw [q2.1, if_pos rfl] at a
          have cy := cn_yes q
          have mm : min 6 (cn (hosP d 0) (p + 1)) = cn (hosP d 0) p + 1 := by omega
          obtain ⟨Z2, j1, j2⟩ := ih (p + 1) n (sI (sA Z 22 (upd (Z.2.1 22) (cn (hosP d 0) p) (nI p))) 23 (nI (cn (hosP d 0) p + 1))) (by omega) (by omega) ⟨Fr_I (Fr_A i1 (by omega)) (by omega), by rw [mm]; rfl, i3, i4, i5, fun k hk => by
            rw [mm] at hk
            show ∃ q, q < p + 1 ∧ hosP d 0 q = true ∧ cn (hosP d 0) q = k ∧ upd (Z.2.1 22) (cn (hosP d 0) p) (nI p) k = nI q
            by_cases y : k = cn (hosP d 0) p
            · exact ⟨p, by omega, q, y.symm, by rw [y, pk_us]⟩
            · obtain ⟨q3, w1, w2, w3, w4⟩ := i6 k (by omega)
              exact ⟨q3, by omega, w2, w3, by rw [pk_un y]; exact w4⟩⟩
          refine ⟨Z2, ?_, j2⟩
          rw [← j1]
          have g3 : ∀ f, (sA Z 22 f).1 23 = nI (cn (hosP d 0) p) := fun f => i2
          have a : X9_isIn (Z.2.1 0) (nI p) = some (nI 1) := a
          simp (disch := omega) only [X9_take_L57, i2, nf, a, e2, q2.2, g3, li0, li1, li2, li3, li4, li5, li6, li7, li8, li11, li12, li16, li24, li25, li26, li31, li32, li36, li40, li48, li52, li58, li59, li60, li63, li64, li88, li96, li130, li192, li255, li2208, li2304, li9999, li9, li13, li14, li30, li35, li44, li45, li46, li47, li97, li98, li100, li101, li104, li105, li108, li110, li111, li112, li114, li117, li122, li999999, li1000000, li2147483647, cmp0, cmpl, cmpg, cmple, cmpge, nI_leI, nI_ltI, nI_eq, rL, rI, wL, wI, ob, aLet, nI_add, pk_mul, ↓reduceIte, if_true, if_false, eq_self, Nat.reduceEqDiff, Nat.reduceLeDiff, Nat.reduceLT, Nat.one_ne_zero, Nat.zero_ne_one, Nat.add_zero, Bool.false_eq_true, nI_neq, h]
        · have q : hosP d 0 p = false := by simpa using q
          have cy := cn_no q
          obtain ⟨Z2, j1, j2⟩ := ih (p + 1) n Z (by omega) (by omega) ⟨i1, by rw [cy, mc]; exact i2, i3, i4, i5, fun k hk => by
            rw [cy, mc] at hk
            obtain ⟨q3, w1, w2, w3, w4⟩ := i6 k hk
            exact ⟨q3, by omega, w2, w3, w4⟩⟩
          refine ⟨Z2, ?_, j2⟩
          rw [← j1]
          unfold hosP at q
          cases y : inP d p
          · rw [y] at a
            have a : X9_isIn (Z.2.1 0) (nI p) = some (nI 0) := a
            simp (disch := omega) only [X9_take_L57, i2, nf, a, li0, li1, li2, li3, li4, li5, li6, li7, li8, li11, li12, li16, li24, li25, li26, li31, li32, li36, li40, li48, li52, li58, li59, li60, li63, li64, li88, li96, li130, li192, li255, li2208, li2304, li9999, li9, li13, li14, li30, li35, li44, li45, li46, li47, li97, li98, li100, li101, li104, li105, li108, li110, li111, li112, li114, li117, li122, li999999, li1000000, li2147483647, cmp0, cmpl, cmpg, cmple, cmpge, nI_leI, nI_ltI, nI_eq, rL, rI, wL, wI, ob, aLet, nI_add, pk_mul, ↓reduceIte, if_true, if_false, eq_self, Nat.reduceEqDiff, Nat.reduceLeDiff, Nat.reduceLT, Nat.one_ne_zero, Nat.zero_ne_one, Nat.add_zero, Bool.false_eq_true, nI_neq, h]
          · rw [y] at a q
            have a : X9_isIn (Z.2.1 0) (nI p) = some (nI 1) := a
            have ne : ¬ lO d p = 0 := by simpa using q
            simp (disch := omega) only [X9_take_L57, i2, nf, a, e2, ne, li0, li1, li2, li3, li4, li5, li6, li7, li8, li11, li12, li16, li24, li25, li26, li31, li32, li36, li40, li48, li52, li58, li59, li60, li63, li64, li88, li96, li130, li192, li255, li2208, li2304, li9999, li9, li13, li14, li30, li35, li44, li45, li46, li47, li97, li98, li100, li101, li104, li105, li108, li110, li111, li112, li114, li117, li122, li999999, li1000000, li2147483647, cmp0, cmpl, cmpg, cmple, cmpge, nI_leI, nI_ltI, nI_eq, rL, rI, wL, wI, ob, aLet, nI_add, pk_mul, ↓reduceIte, if_true, if_false, eq_self, Nat.reduceEqDiff, Nat.reduceLeDiff, Nat.reduceLT, Nat.one_ne_zero, Nat.zero_ne_one, Nat.add_zero, Bool.false_eq_true, nI_neq, h]
  obtain ⟨Z, k1, p2, k2, ⟨j1, j2, j3, j4, j5, j6⟩, k3⟩ := key 36 0 aFu Z0 (by omega) (by decide) ⟨h1, h2, h3, h4, h5, fun k hk => by
    have : cn (hosP d 0) 0 = 0 := rfl
    omega⟩
  rw [k3] at j2 j6
  refine ⟨Z, k1, j5, fun k => if h : k < min 6 (cn (hosP d 0) 36) then (j6 k h).choose else 0, ⟨j1, j2, j3, j4, fun k hk => ?_⟩, fun k hk => ?_⟩
  · dsimp only
    rw [dif_pos hk]
    exact (j6 k hk).choose_spec.2.2.2
  · dsimp only
    rw [dif_pos hk]
    have := (j6 k hk).choose_spec
    exact ⟨by omega, this.2.1, this.2.2.1⟩
theorem q_take {d : LD} {S m : Rec} (ok : okL d) (hS : LandOf d S) (hf : RowOf d (m.2.1 0)) (x1 x2 x3 : Int32) : ∃ r m', X8_take S x1 x2 x3 = some r ∧ X9_take m x1 x2 x3 = some (r, m') ∧ Fr m m' := by
  have h6 := ok.1
  rcases hcase ok hS hf x1 with ⟨a, b⟩ | ⟨i, hi, rfl, a, b⟩
  · refine ⟨-nI 1, m, ?_, ?_, Fr_refl m⟩
    · simp (disch := omega) only [X8_take, X8_areTwo, a, li0, li1, li2, li3, li4, li5, li6, li7, li8, li11, li12, li16, li24, li25, li26, li31, li32, li36, li40, li48, li52, li58, li59, li60, li63, li64, li88, li96, li130, li192, li255, li2208, li2304, li9999, li9, li13, li14, li30, li35, li44, li45, li46, li47, li97, li98, li100, li101, li104, li105, li108, li110, li111, li112, li114, li117, li122, li999999, li1000000, li2147483647, cmp0, cmpl, cmpg, cmple, cmpge, nI_leI, nI_ltI, nI_eq, rL, rI, wL, wI, ob, aLet, nI_add, pk_mul, ↓reduceIte, if_true, if_false, eq_self, Nat.reduceEqDiff, Nat.reduceLeDiff, Nat.reduceLT, Nat.one_ne_zero, Nat.zero_ne_one, Nat.add_zero, Bool.false_eq_true, nI_neq]
    · simp (disch := omega) only [X9_take, b, li0, li1, li2, li3, li4, li5, li6, li7, li8, li11, li12, li16, li24, li25, li26, li31, li32, li36, li40, li48, li52, li58, li59, li60, li63, li64, li88, li96, li130, li192, li255, li2208, li2304, li9999, li9, li13, li14, li30, li35, li44, li45, li46, li47, li97, li98, li100, li101, li104, li105, li108, li110, li111, li112, li114, li117, li122, li999999, li1000000, li2147483647, cmp0, cmpl, cmpg, cmple, cmpge, nI_leI, nI_ltI, nI_eq, rL, rI, wL, wI, ob, aLet, nI_add, pk_mul, ↓reduceIte, if_true, if_false, eq_self, Nat.reduceEqDiff, Nat.reduceLeDiff, Nat.reduceLT, Nat.one_ne_zero, Nat.zero_ne_one, Nat.add_zero, Bool.false_eq_true, nI_neq]
  rcases hcase ok hS hf x2 with ⟨a2, b2⟩ | ⟨j, hj, rfl, a2, b2⟩
  · refine ⟨-nI 1, m, ?_, ?_, Fr_refl m⟩
    · simp (disch := omega) only [X8_take, X8_areTwo, a, a2, li0, li1, li2, li3, li4, li5, li6, li7, li8, li11, li12, li16, li24, li25, li26, li31, li32, li36, li40, li48, li52, li58, li59, li60, li63, li64, li88, li96, li130, li192, li255, li2208, li2304, li9999, li9, li13, li14, li30, li35, li44, li45, li46, li47, li97, li98, li100, li101, li104, li105, li108, li110, li111, li112, li114, li117, li122, li999999, li1000000, li2147483647, cmp0, cmpl, cmpg, cmple, cmpge, nI_leI, nI_ltI, nI_eq, rL, rI, wL, wI, ob, aLet, nI_add, pk_mul, ↓reduceIte, if_true, if_false, eq_self, Nat.reduceEqDiff, Nat.reduceLeDiff, Nat.reduceLT, Nat.one_ne_zero, Nat.zero_ne_one, Nat.add_zero, Bool.false_eq_true, nI_neq]
    · simp (disch := omega) only [X9_take, b, b2, li0, li1, li2, li3, li4, li5, li6, li7, li8, li11, li12, li16, li24, li25, li26, li31, li32, li36, li40, li48, li52, li58, li59, li60, li63, li64, li88, li96, li130, li192, li255, li2208, li2304, li9999, li9, li13, li14, li30, li35, li44, li45, li46, li47, li97, li98, li100, li101, li104, li105, li108, li110, li111, li112, li114, li117, li122, li999999, li1000000, li2147483647, cmp0, cmpl, cmpg, cmple, cmpge, nI_leI, nI_ltI, nI_eq, rL, rI, wL, wI, ob, aLet, nI_add, pk_mul, ↓reduceIte, if_true, if_false, eq_self, Nat.reduceEqDiff, Nat.reduceLeDiff, Nat.reduceLT, Nat.one_ne_zero, Nat.zero_ne_one, Nat.add_zero, Bool.false_eq_true, nI_neq]
  by_cases y : i = j
  · refine ⟨-nI 1, m, ?_, ?_, Fr_refl m⟩
    · simp (disch := omega) only [X8_take, X8_areTwo, a, a2, y, li0, li1, li2, li3, li4, li5, li6, li7, li8, li11, li12, li16, li24, li25, li26, li31, li32, li36, li40, li48, li52, li58, li59, li60, li63, li64, li88, li96, li130, li192, li255, li2208, li2304, li9999, li9, li13, li14, li30, li35, li44, li45, li46, li47, li97, li98, li100, li101, li104, li105, li108, li110, li111, li112, li114, li117, li122, li999999, li1000000, li2147483647, cmp0, cmpl, cmpg, cmple, cmpge, nI_leI, nI_ltI, nI_eq, rL, rI, wL, wI, ob, aLet, nI_add, pk_mul, ↓reduceIte, if_true, if_false, eq_self, Nat.reduceEqDiff, Nat.reduceLeDiff, Nat.reduceLT, Nat.one_ne_zero, Nat.zero_ne_one, Nat.add_zero, Bool.false_eq_true, nI_neq]
    · simp (disch := omega) only [X9_take, b, b2, y, li0, li1, li2, li3, li4, li5, li6, li7, li8, li11, li12, li16, li24, li25, li26, li31, li32, li36, li40, li48, li52, li58, li59, li60, li63, li64, li88, li96, li130, li192, li255, li2208, li2304, li9999, li9, li13, li14, li30, li35, li44, li45, li46, li47, li97, li98, li100, li101, li104, li105, li108, li110, li111, li112, li114, li117, li122, li999999, li1000000, li2147483647, cmp0, cmpl, cmpg, cmple, cmpge, nI_leI, nI_ltI, nI_eq, rL, rI, wL, wI, ob, aLet, nI_add, pk_mul, ↓reduceIte, if_true, if_false, eq_self, Nat.reduceEqDiff, Nat.reduceLeDiff, Nat.reduceLT, Nat.one_ne_zero, Nat.zero_ne_one, Nat.add_zero, Bool.false_eq_true, nI_neq]
  rcases rg_0_2 x3 with ⟨e, f, -⟩ | ⟨n, -, hn, rfl, e, f⟩
  · refine ⟨-nI 1, m, ?_, ?_, Fr_refl m⟩
    · simp (disch := omega) only [X8_take, X8_areTwo, a, a2, y, e, li0, li1, li2, li3, li4, li5, li6, li7, li8, li11, li12, li16, li24, li25, li26, li31, li32, li36, li40, li48, li52, li58, li59, li60, li63, li64, li88, li96, li130, li192, li255, li2208, li2304, li9999, li9, li13, li14, li30, li35, li44, li45, li46, li47, li97, li98, li100, li101, li104, li105, li108, li110, li111, li112, li114, li117, li122, li999999, li1000000, li2147483647, cmp0, cmpl, cmpg, cmple, cmpge, nI_leI, nI_ltI, nI_eq, rL, rI, wL, wI, ob, aLet, nI_add, pk_mul, ↓reduceIte, if_true, if_false, eq_self, Nat.reduceEqDiff, Nat.reduceLeDiff, Nat.reduceLT, Nat.one_ne_zero, Nat.zero_ne_one, Nat.add_zero, Bool.false_eq_true, nI_neq]
    · simp (disch := omega) only [X9_take, b, b2, y, f, li0, li1, li2, li3, li4, li5, li6, li7, li8, li11, li12, li16, li24, li25, li26, li31, li32, li36, li40, li48, li52, li58, li59, li60, li63, li64, li88, li96, li130, li192, li255, li2208, li2304, li9999, li9, li13, li14, li30, li35, li44, li45, li46, li47, li97, li98, li100, li101, li104, li105, li108, li110, li111, li112, li114, li117, li122, li999999, li1000000, li2147483647, cmp0, cmpl, cmpg, cmple, cmpge, nI_leI, nI_ltI, nI_eq, rL, rI, wL, wI, ob, aLet, nI_add, pk_mul, ↓reduceIte, if_true, if_false, eq_self, Nat.reduceEqDiff, Nat.reduceLeDiff, Nat.reduceLT, Nat.one_ne_zero, Nat.zero_ne_one, Nat.add_zero, Bool.false_eq_true, nI_neq]
  obtain ⟨z, z1, z2⟩ := c_low ok hS
  obtain ⟨Z, r57, rR, E, hSL, hEE⟩ := r_take57 ok hf (i := i) (j := j) (sI (sI (sI (sA m 2 (laid (m.2.1 0) (m.2.1 2) 96)) 24 (nI i)) 25 (nI j)) 23 (nI 0)) (Fr_I (Fr_I (Fr_I (fr_lay m) (by omega)) (by omega)) (by omega)) rfl rfl rfl (row_laid ok hf)
  have hF : min 6 (cn (hosP d 0) 36) ≤ 6 := Nat.min_le_left _ _
  have hE : ∀ k, k < min 6 (cn (hosP d 0) 36) → E k < 36 ∧ inP d (E k) = true := fun k hk => by
    obtain ⟨w1, w2, w3⟩ := hEE k hk
    unfold hosP at w2
    rw [Bool.and_eq_true] at w2
    exact ⟨w1, w2.1⟩
  have hM : ∀ k l, k < l → l < min 6 (cn (hosP d 0) 36) → E k < E l := fun k l h1 h2 => by
    obtain ⟨w1, w2, w3⟩ := hEE k (by omega)
    obtain ⟨v1, v2, v3⟩ := hEE l h2
    rcases Nat.lt_or_ge (E k) (E l) with q | q
    · exact q
    · have := cn_mono (hosP d 0) q
      omega
  have hz : ∀ c, tb z c = true ↔ rst E (min 6 (cn (hosP d 0) 36)) (lO d) 0 c := fun c => by
    rw [z2 c]
    constructor
    · rintro ⟨g1, g2⟩
      obtain ⟨u1, u2, u3⟩ := own_hos ok g1
      have hb := inC_b ok u2
      have lt := cn_less (P := hosP d 0) hb.2.2.1 u1
      obtain ⟨w1, w2, w3⟩ := hEE (cn (hosP d 0) (pl c)) (by omega)
      have eq := cn_inj w2 u1 w3
      refine ⟨cn (hosP d 0) (pl c), Nat.zero_le _, by omega, ?_, by rw [eq, u3]⟩
      unfold hosP at w2
      rw [Bool.and_eq_true, decide_eq_true_eq] at w2
      exact w2.2
    · rintro ⟨r, r1, r2, r3, rfl⟩
      obtain ⟨w1, w2, w3⟩ := hEE r r2
      rw [pl_cl]
      exact ⟨(own_cl 0 (E r)).trans w2, by omega⟩
  have th := tb_held ok hS (h := i) (by omega)
  have th2 := tb_held ok hS (h := j) (by omega)
  rw [hw_i (by omega)] at th th2
  have o := c_out ok hS hi hj y hF hE hM (2 * n) (lO d) (S.2.2 10 i) (S.2.2 10 j) z 6 (by omega) (by omega) (Wt_start ok i j) th th2 hz
  have rR : RowOf (giveD d (lO d)) (Z.2.1 2) := rR
  refine ⟨val d E (min 6 (cn (hosP d 0) 36)) i j (2 * n) (lO d), ?_⟩
  have c1 : X8_take S (nI i) (nI j) (nI n) = some (val d E (min 6 (cn (hosP d 0) 36)) i j (2 * n) (lO d)) := by
    simp (disch := omega) only [X8_take, X8_areTwo, a, a2, y, e, z1, o, li0, li1, li2, li3, li4, li5, li6, li7, li8, li11, li12, li16, li24, li25, li26, li31, li32, li36, li40, li48, li52, li58, li59, li60, li63, li64, li88, li96, li130, li192, li255, li2208, li2304, li9999, li9, li13, li14, li30, li35, li44, li45, li46, li47, li97, li98, li100, li101, li104, li105, li108, li110, li111, li112, li114, li117, li122, li999999, li1000000, li2147483647, cmp0, cmpl, cmpg, cmple, cmpge, nI_leI, nI_ltI, nI_eq, rL, rI, wL, wI, ob, aLet, nI_add, pk_mul, ↓reduceIte, if_true, if_false, eq_self, Nat.reduceEqDiff, Nat.reduceLeDiff, Nat.reduceLT, Nat.one_ne_zero, Nat.zero_ne_one, Nat.add_zero, Bool.false_eq_true, nI_neq]
  have W0 := Wt_start ok i j
  rcases (show n = 0 ∨ n = 1 ∨ n = 2 by omega) with rfl | rfl | rfl
  · have w := r_worth (w := lO d) ok hi hj hSL rR
    refine ⟨Z, c1, ?_, hSL.1⟩
    simp (disch := omega) only [X9_take, b, b2, y, f, r_lay, r57, w, li0, li1, li2, li3, li4, li5, li6, li7, li8, li11, li12, li16, li24, li25, li26, li31, li32, li36, li40, li48, li52, li58, li59, li60, li63, li64, li88, li96, li130, li192, li255, li2208, li2304, li9999, li9, li13, li14, li30, li35, li44, li45, li46, li47, li97, li98, li100, li101, li104, li105, li108, li110, li111, li112, li114, li117, li122, li999999, li1000000, li2147483647, cmp0, cmpl, cmpg, cmple, cmpge, nI_leI, nI_ltI, nI_eq, rL, rI, wL, wI, ob, aLet, nI_add, pk_mul, ↓reduceIte, if_true, if_false, eq_self, Nat.reduceEqDiff, Nat.reduceLeDiff, Nat.reduceLT, Nat.one_ne_zero, Nat.zero_ne_one, Nat.add_zero, Bool.false_eq_true, nI_neq]
    rfl
  · obtain ⟨Z2, g1, g2, g3⟩ := r_lastButOne ok hi hj hF hE (lO d) Z W0 rR hSL
    refine ⟨Z2, c1, ?_, g3.1⟩
    simp (disch := omega) only [X9_take, b, b2, y, f, r_lay, r57, g1, li0, li1, li2, li3, li4, li5, li6, li7, li8, li11, li12, li16, li24, li25, li26, li31, li32, li36, li40, li48, li52, li58, li59, li60, li63, li64, li88, li96, li130, li192, li255, li2208, li2304, li9999, li9, li13, li14, li30, li35, li44, li45, li46, li47, li97, li98, li100, li101, li104, li105, li108, li110, li111, li112, li114, li117, li122, li999999, li1000000, li2147483647, cmp0, cmpl, cmpg, cmple, cmpge, nI_leI, nI_ltI, nI_eq, rL, rI, wL, wI, ob, aLet, nI_add, pk_mul, ↓reduceIte, if_true, if_false, eq_self, Nat.reduceEqDiff, Nat.reduceLeDiff, Nat.reduceLT, Nat.one_ne_zero, Nat.zero_ne_one, Nat.add_zero, Bool.false_eq_true, nI_neq]
  · obtain ⟨Z2, g1, g2, g3⟩ := r_firstTurn ok hi hj hF hE (lO d) Z W0 rR hSL
    refine ⟨Z2, c1, ?_, g3.1⟩
    simp (disch := omega) only [X9_take, b, b2, y, f, r_lay, r57, g1, li0, li1, li2, li3, li4, li5, li6, li7, li8, li11, li12, li16, li24, li25, li26, li31, li32, li36, li40, li48, li52, li58, li59, li60, li63, li64, li88, li96, li130, li192, li255, li2208, li2304, li9999, li9, li13, li14, li30, li35, li44, li45, li46, li47, li97, li98, li100, li101, li104, li105, li108, li110, li111, li112, li114, li117, li122, li999999, li1000000, li2147483647, cmp0, cmpl, cmpg, cmple, cmpge, nI_leI, nI_ltI, nI_eq, rL, rI, wL, wI, ob, aLet, nI_add, pk_mul, ↓reduceIte, if_true, if_false, eq_self, Nat.reduceEqDiff, Nat.reduceLeDiff, Nat.reduceLT, Nat.one_ne_zero, Nat.zero_ne_one, Nat.add_zero, Bool.false_eq_true, nI_neq]
theorem eq_take {c : CSt} {m : Rec} (hI : Inv c m) (x1 : Int32) (x2 : Int32) (x3 : Int32) : ∃ (r : Int32) (c1 : CSt) (m1 : Rec), stC_take c x1 x2 x3 = some (r, c1) ∧ stM_take m x1 x2 x3 = some (r, m1) ∧ Inv c1 m1 := by
  obtain ⟨d, ok, hy, hS, hf⟩ := hI.1
  obtain ⟨r, m', a, b, hF⟩ := q_take ok hS hf x1 x2 x3
  exact ⟨r, c, m', by unfold stC_take; rw [a]; rfl, by unfold stM_take; rw [b]; rfl, inv_fr hI hF (c_trial c) (c_earlier c) (c_sets c) (c_survey c) (c_marriages c) (c_finder c)⟩
