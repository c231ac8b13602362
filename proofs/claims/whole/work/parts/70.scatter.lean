/-! scattered: the program's parts -/
theorem cn_sub {p q : Nat → Bool} : ∀ {n}, (∀ c, c < n → p c = true → q c = true) → cn p n ≤ cn q n
  | 0, _ => Nat.le_refl _
  | n + 1, h => by
    have := cn_sub (n := n) (fun c hc => h c (by omega))
    have h2 := h n (by omega)
    rw [cn, cn]
    cases a : p n
    · have : (false : Bool).toNat = 0 := rfl
      omega
    · rw [h2 a]
      omega
theorem cn_more {p q : Nat → Bool} : ∀ {n}, (∀ c, c < n → p c = true → q c = true) → (∃ c, c < n ∧ q c = true ∧ p c = false) → cn p n < cn q n
  | 0, _, ⟨c, h, _⟩ => absurd h (by omega)
  | n + 1, h, ⟨c, h1, h2, h3⟩ => by
    rw [cn, cn]
    by_cases y : c = n
    · subst y
      have := cn_sub (n := c) (fun k hk => h k (by omega))
      rw [h2, h3]
      have a : (false : Bool).toNat = 0 := rfl
      have b : (true : Bool).toNat = 1 := rfl
      omega
    · have := cn_more (n := n) (fun k hk => h k (by omega)) ⟨c, by omega, h2, h3⟩
      have h4 := h n (by omega)
      cases a : p n
      · have : (false : Bool).toNat = 0 := rfl
        omega
      · rw [h4 a]
        omega
def fld2 (x s : Int64) : Nat → Int64
  | 0 => s
  | k + 1 => fld2 x s k ||| (X8_beside (fld2 x s k) &&& x)
theorem c_partF (x s : Int64) : X8_partAround s x = some (fld2 x s 36) := by
  have key : ∀ e k n, k + e = 36 → e < n → X8_partAround_L7 x n (fld2 x s k) (nI e) = some (fld2 x s 36) := by
    intro e
    induction e with
    | zero =>
      intro k n h1 h2
      obtain ⟨n, rfl⟩ : ∃ z, n = z + 1 := ⟨n - 1, by omega⟩
      obtain rfl : k = 36 := h1
      simp (disch := omega) only [X8_partAround_L7, li0, li1, li2, li3, li4, li5, li6, li7, li8, li11, li12, li16, li24, li25, li26, li31, li32, li36, li40, li48, li52, li58, li59, li60, li63, li64, li88, li96, li130, li192, li255, li2208, li2304, li9999, li9, li13, li14, li30, li35, li44, li45, li46, li47, li97, li98, li100, li101, li104, li105, li108, li110, li111, li112, li114, li117, li122, li999999, li1000000, li2147483647, cmp0, cmpl, cmpg, cmple, cmpge, nI_leI, nI_ltI, nI_eq, rL, rI, wL, wI, ob, aLet, nI_add, pk_mul, ↓reduceIte, if_true, if_false, eq_self, Nat.reduceEqDiff, Nat.reduceLeDiff, Nat.reduceLT, Nat.one_ne_zero, Nat.zero_ne_one, Nat.add_zero, Bool.false_eq_true, nI_neq, Nat.le_refl]
    | succ e ih =>
      intro k n h1 h2
      obtain ⟨n, rfl⟩ : ∃ z, n = z + 1 := ⟨n - 1, by omega⟩
      have z : ¬ e + 1 ≤ 0 := by omega
      have em : nI (e + 1) + -nI 1 = nI e := pk_m1 e
      rw [← ih (k + 1) n (by omega) (by omega)]
      simp (disch := omega) only [X8_partAround_L7, em, li0, li1, li2, li3, li4, li5, li6, li7, li8, li11, li12, li16, li24, li25, li26, li31, li32, li36, li40, li48, li52, li58, li59, li60, li63, li64, li88, li96, li130, li192, li255, li2208, li2304, li9999, li9, li13, li14, li30, li35, li44, li45, li46, li47, li97, li98, li100, li101, li104, li105, li108, li110, li111, li112, li114, li117, li122, li999999, li1000000, li2147483647, cmp0, cmpl, cmpg, cmple, cmpge, nI_leI, nI_ltI, nI_eq, rL, rI, wL, wI, ob, aLet, nI_add, pk_mul, ↓reduceIte, if_true, if_false, eq_self, Nat.reduceEqDiff, Nat.reduceLeDiff, Nat.reduceLT, Nat.one_ne_zero, Nat.zero_ne_one, Nat.add_zero, Bool.false_eq_true, nI_neq, z]
      rfl
  unfold X8_partAround
  have := key 36 0 aFu rfl (by decide)
  rw [show (36 : Int32) = nI 36 from rfl]
  have e : X8_partAround_L7 x aFu s (nI 36) = some (fld2 x s 36) := this
  rw [e, ob]
/-- his cells whose label is t or more -/
def RestOf (d : LD) (P : Nat → Bool) (l : Nat → Nat) (t : Nat) (x : Int64) : Prop := ∀ c, tb x c = true ↔ inC d c = true ∧ P (pl c) = true ∧ t ≤ l (pl c)
theorem nb_1 {d : LD} (ok : okL d) {c : Nat} (h1 : inC d c = true) (h2 : inC d (c + 1) = true) : pl (c + 1) = pl c + 1 ∧ pl c % 6 < 5 := by
  have a := inC_b ok h1
  have b := inC_b ok h2
  unfold pl
  omega
theorem nb_8 {d : LD} (ok : okL d) {c : Nat} (h1 : inC d c = true) (h2 : inC d (c + 8) = true) : pl (c + 8) = pl c + 6 := by
  unfold pl
  omega
theorem fl_in {d : LD} {P : Nat → Bool} {l : Nat → Nat} (ok : okL d) (hN : nbr P l) {t : Nat} {x : Int64} (hx : RestOf d P l t x) {c0 : Nat} (h0 : tb x c0 = true) (h64 : c0 < 64) : ∀ k c, tb (fld2 x (oneC c0) k) c = true → tb x c = true ∧ l (pl c) = l (pl c0) := by
  intro k
  induction k with
  | zero =>
    intro c hc
    have hc : tb (oneC c0) c = true := hc
    rw [tb_oneC h64, decide_eq_true_eq] at hc
    rw [hc]
    exact ⟨h0, rfl⟩
  | succ k ih =>
    intro c hc
    have hc : tb (fld2 x (oneC c0) k ||| (X8_beside (fld2 x (oneC c0) k) &&& x)) c = true := hc
    rw [tb_or, tb_and, Bool.or_eq_true, Bool.and_eq_true] at hc
    rcases hc with hc | ⟨hb, hxc⟩
    · exact ih c hc
    · refine ⟨hxc, ?_⟩
      have c64 : c < 64 := by
        rcases Nat.lt_or_ge c 64 with q | q
        · exact q
        · rw [tb_big q] at hxc
          cases hxc
      obtain ⟨g1, g2, g3⟩ := (hx c).mp hxc
      rw [c_beside _ c64] at hb
      unfold bes at hb
      simp only [Bool.and_eq_true, Bool.or_eq_true, decide_eq_true_eq] at hb
      rcases hb.1 with ((⟨h1, h2⟩ | h2) | ⟨h1, h2⟩) | h2
      · obtain ⟨e1, e2⟩ := ih _ h2
        obtain ⟨w1, w2, w3⟩ := (hx _).mp e1
        have ec : c - 1 + 1 = c := by omega
        have nb := nb_1 ok w1 (by rw [ec]; exact g1)
        rw [ec] at nb
        have := hN.1 (pl (c - 1)) w2 (by rw [← nb.1]; exact g2) nb.2
        rw [nb.1, ← this, e2]
      · obtain ⟨e1, e2⟩ := ih _ h2
        obtain ⟨w1, w2, w3⟩ := (hx _).mp e1
        have ec : 1 + c = c + 1 := by omega
        rw [ec] at w1 w2 e2
        have nb := nb_1 ok g1 w1
        have := hN.1 (pl c) g2 (by rw [← nb.1]; exact w2) nb.2
        rw [this, ← nb.1, e2]
      · obtain ⟨e1, e2⟩ := ih _ h2
        obtain ⟨w1, w2, w3⟩ := (hx _).mp e1
        have ec : c - 8 + 8 = c := by omega
        have nb := nb_8 ok w1 (by rw [ec]; exact g1)
        rw [ec] at nb
        have := hN.2 (pl (c - 8)) w2 (by rw [← nb]; exact g2)
        rw [nb, ← this, e2]
      · obtain ⟨e1, e2⟩ := ih _ h2
        obtain ⟨w1, w2, w3⟩ := (hx _).mp e1
        have ec : 8 + c = c + 8 := by omega
        rw [ec] at w1 w2 e2
        have nb := nb_8 ok g1 w1
        have := hN.2 (pl c) g2 (by rw [← nb]; exact w2)
        rw [this, ← nb, e2]
theorem fl_up {x s : Int64} {k c : Nat} (h : tb (fld2 x s k) c = true) : tb (fld2 x s (k + 1)) c = true := by
  show tb (fld2 x s k ||| (X8_beside (fld2 x s k) &&& x)) c = true
  rw [tb_or, h]
  rfl
theorem land36 {d : LD} (ok : okL d) : cn (inC d) 64 ≤ 36 := by
  rw [cn_sm, sm_land ok]
  have := sg_le (g := fun _ => 1) (M := 1) (fun _ => Nat.le_refl 1) (lR d * lC d)
  have hm : lR d * lC d ≤ 6 * 6 := Nat.mul_le_mul ok.2.2.1 ok.2.1
  omega
theorem fl_stable {d : LD} {P : Nat → Bool} {l : Nat → Nat} (ok : okL d) (hN : nbr P l) {t : Nat} {x : Int64} (hx : RestOf d P l t x) {c0 : Nat} (h0 : tb x c0 = true) (h64 : c0 < 64) : fld2 x (oneC c0) 37 = fld2 x (oneC c0) 36 := by
  have stay : ∀ k, fld2 x (oneC c0) (k + 1) = fld2 x (oneC c0) k → ∀ j, fld2 x (oneC c0) (k + j) = fld2 x (oneC c0) k ∧ fld2 x (oneC c0) (k + j + 1) = fld2 x (oneC c0) k := fun k h j => by
    induction j with
    | zero => exact ⟨rfl, h⟩
    | succ j ih =>
      refine ⟨ih.2, ?_⟩
      show fld2 x (oneC c0) (k + j + 1) ||| (X8_beside (fld2 x (oneC c0) (k + j + 1)) &&& x) = _
      rw [ih.2]
      exact h
  have grow : ∀ k, (∃ j, j < k ∧ fld2 x (oneC c0) (j + 1) = fld2 x (oneC c0) j) ∨ k + 1 ≤ cn (tb (fld2 x (oneC c0) k)) 64 := fun k => by
    induction k with
    | zero =>
      refine Or.inr ?_
      have e : tb (fld2 x (oneC c0) 0) c0 = true := by
        show tb (oneC c0) c0 = true
        rw [tb_oneC h64]
        simp
      have := cn_less (P := tb (fld2 x (oneC c0) 0)) h64 e
      omega
    | succ k ih =>
      rcases ih with ⟨j, j1, j2⟩ | ih
      · exact Or.inl ⟨j, by omega, j2⟩
      · rcases Classical.em (fld2 x (oneC c0) (k + 1) = fld2 x (oneC c0) k) with q | q
        · exact Or.inl ⟨k, by omega, q⟩
        · refine Or.inr ?_
          have : ∃ c, c < 64 ∧ tb (fld2 x (oneC c0) (k + 1)) c = true ∧ tb (fld2 x (oneC c0) k) c = false := by
            rcases Classical.em (∃ c, c < 64 ∧ tb (fld2 x (oneC c0) (k + 1)) c = true ∧ tb (fld2 x (oneC c0) k) c = false) with w | w
            · exact w
            · refine absurd (tb_ext fun c hc => ?_) q
              cases a : tb (fld2 x (oneC c0) k) c
              · cases b : tb (fld2 x (oneC c0) (k + 1)) c
                · rfl
                · exact absurd ⟨c, hc, b, a⟩ w
              · exact fl_up a
          have gt : cn (tb (fld2 x (oneC c0) k)) 64 < cn (tb (fld2 x (oneC c0) (k + 1))) 64 := cn_more (fun c _ h => fl_up h) this
          omega
  have le : cn (tb (fld2 x (oneC c0) 36)) 64 ≤ 36 := Nat.le_trans (cn_sub (fun c _ h => ((hx c).mp (fl_in ok hN hx h0 h64 36 c h).1).1)) (land36 ok)
  rcases grow 36 with ⟨j, j1, j2⟩ | h
  · have a := stay j j2 (36 - j)
    rw [show j + (36 - j) = 36 by omega] at a
    rw [a.1]
    exact a.2
  · omega
theorem fl_all {d : LD} {P : Nat → Bool} {l : Nat → Nat} (ok : okL d) (hPi : ∀ p, P p = true → inP d p = true ∧ p < 36) (hl : lbl P l) (hN : nbr P l) {t : Nat} {x : Int64} (hx : RestOf d P l t x) {c0 : Nat} (h0 : tb x c0 = true) (h64 : c0 < 64) (c : Nat) : tb (fld2 x (oneC c0) 36) c = true ↔ tb x c = true ∧ l (pl c) = l (pl c0) := by
  refine ⟨fl_in ok hN hx h0 h64 36 c, ?_⟩
  rintro ⟨h1, h2⟩
  obtain ⟨a1, a2, a3⟩ := (hx c0).mp h0
  obtain ⟨b1, b2, b3⟩ := (hx c).mp h1
  have cc : conn P (pl c0) (pl c) := conn_trans (hl _ a2).2.2 (conn_symm (by
    have := (hl _ b2).2.2
    rw [h2] at this
    exact this))
  have st := fl_stable ok hN hx h0 h64
  -- one beside a cell of the part is of the part
  have near : ∀ a b, tb (fld2 x (oneC c0) 36) a = true → tb x b = true → b < 64 → (b = a + 1 ∨ a = b + 1 ∨ b = a + 8 ∨ a = b + 8) → tb (fld2 x (oneC c0) 36) b = true := fun a b ha hb hb64 hab => by
    have : tb (fld2 x (oneC c0) 37) b = true := by
      show tb (fld2 x (oneC c0) 36 ||| (X8_beside (fld2 x (oneC c0) 36) &&& x)) b = true
      rw [tb_or, tb_and, hb, Bool.and_true, c_beside _ hb64]
      cases w : tb (fld2 x (oneC c0) 36) b
      · unfold bes
        rw [w]
        rcases hab with q | q | q | q
        · rw [show b - 1 = a by omega, ha, decide_eq_true (by omega)]
          rfl
        · rw [show 1 + b = a by omega, ha]
          simp
        · rw [show b - 8 = a by omega, ha, decide_eq_true (show 8 ≤ b by omega)]
          simp
        · rw [show 8 + b = a by omega, ha]
          simp
      · rfl
    rw [st] at this
    exact this
  have inx : ∀ p q, P p = true → P q = true → l p = l q → tb x (cl p) = true → tb x (cl q) = true ∧ cl q < 64 := fun p q hp hq e h => by
    obtain ⟨w1, w2, w3⟩ := (hx _).mp h
    rw [pl_cl] at w3
    have pq := hPi q hq
    exact ⟨(hx _).mpr ⟨inC_cl.trans pq.1, by rw [pl_cl]; exact hq, by rw [pl_cl, ← e]; exact w3⟩, cl_64 pq.2⟩
  have hf : nbr P (fun p => if tb (fld2 x (oneC c0) 36) (cl p) = true then 1 else 0) := by
    have both : ∀ p q, P p = true → P q = true → l p = l q → (cl q = cl p + 1 ∨ cl q = cl p + 8) → (if tb (fld2 x (oneC c0) 36) (cl p) = true then 1 else 0) = (if tb (fld2 x (oneC c0) 36) (cl q) = true then 1 else 0) := fun p q hp hq e hc => by
      by_cases w : tb (fld2 x (oneC c0) 36) (cl p) = true
      · have := fl_in ok hN hx h0 h64 36 _ w
        obtain ⟨i1, i2⟩ := inx p q hp hq e this.1
        rw [if_pos w, if_pos (near _ _ w i1 i2 (by omega))]
      · rw [if_neg w, if_neg (fun v => w ?_)]
        have := fl_in ok hN hx h0 h64 36 _ v
        obtain ⟨i1, i2⟩ := inx q p hq hp e.symm this.1
        exact near _ _ v i1 i2 (by omega)
    refine ⟨fun p h1 h2 h3 => both p (p + 1) h1 h2 (hN.1 p h1 h2 h3) (Or.inl ?_), fun p h1 h2 => both p (p + 6) h1 h2 (hN.2 p h1 h2) (Or.inr ?_)⟩
    · unfold cl
      omega
    · unfold cl
      omega
  have e := cc _ hf
  have s0 : tb (fld2 x (oneC c0) 36) c0 = true := by
    have up : ∀ k, tb (fld2 x (oneC c0) k) c0 = true := fun k => by
      induction k with
      | zero =>
        show tb (oneC c0) c0 = true
        rw [tb_oneC h64]
        simp
      | succ k ih => exact fl_up ih
    exact up 36
  rw [cl_pl (inC_b ok a1).2.1, cl_pl (inC_b ok b1).2.1, if_pos s0] at e
  by_cases w : tb (fld2 x (oneC c0) 36) c = true
  · exact w
  · rw [if_neg w] at e
    cases e
/-- how many cells have a label -/
def siz (P : Nat → Bool) (l : Nat → Nat) (p : Nat) : Nat := cn (fun q => P q && decide (l q = p)) 36
def mxs (P : Nat → Bool) (l : Nat → Nat) : Nat → Nat
  | 0 => 0
  | t + 1 => max (mxs P l t) (siz P l t)
def cns (P : Nat → Bool) (l : Nat → Nat) (t : Nat) : Nat := cn (fun p => decide (0 < siz P l p)) t
theorem siz_le (P : Nat → Bool) (l : Nat → Nat) (p : Nat) : siz P l p ≤ 36 := cn_le _ _
theorem mxs_le (P : Nat → Bool) (l : Nat → Nat) : ∀ t, mxs P l t ≤ 36
  | 0 => Nat.zero_le _
  | t + 1 => by
    have := mxs_le P l t
    have := siz_le P l t
    rw [mxs]
    omega
theorem siz_none {P : Nat → Bool} {l : Nat → Nat} {p : Nat} (h : ∀ q, P q = true → l q ≠ p) : siz P l p = 0 := cn_zero.mpr fun q _ => by
  cases w : P q
  · rfl
  · rw [decide_eq_false (h q w)]
    rfl
theorem gap {P : Nat → Bool} {l : Nat → Nat} {t u : Nat} (htu : t ≤ u) (h : ∀ p, t ≤ p → p < u → siz P l p = 0) : cns P l u = cns P l t ∧ mxs P l u = mxs P l t := by
  obtain ⟨e, rfl⟩ : ∃ e, u = t + e := ⟨u - t, by omega⟩
  induction e with
  | zero => exact ⟨rfl, rfl⟩
  | succ e ih =>
    obtain ⟨i1, i2⟩ := ih (by omega) (fun p h1 h2 => h p h1 (by omega))
    have z := h (t + e) (by omega) (by omega)
    refine ⟨?_, ?_⟩
    · show cn _ (t + e + 1) = _
      rw [cn_no (by rw [z]; rfl)]
      exact i1
    · show max (mxs P l (t + e)) (siz P l (t + e)) = _
      rw [z, i2]
      omega
theorem c_scat {d : LD} {P : Nat → Bool} {l : Nat → Nat} (ok : okL d) (hPi : ∀ p, P p = true → inP d p = true ∧ p < 36) (hl : lbl P l) (hN : nbr P l) : ∀ (e t n : Nat) (x : Int64), 36 - t = e → t ≤ 36 → e < n → RestOf d P l t x → X8_scattered_L42 n x (nI (cns P l t)) (nI (mxs P l t)) (nI (36 - cns P l t)) = some (nI (cns P l 36), nI (mxs P l 36)) := by
  intro e
  induction e using Nat.strongRecOn with
  | _ e ih =>
    intro t n x he ht hn hx
    obtain ⟨n, rfl⟩ : ∃ z, n = z + 1 := ⟨n - 1, by omega⟩
    have ll : ∀ p, P p = true → l (l p) = l p := fun p hp => ((hl p hp).2.2 l hN).symm
    have c36 : ∀ t, cns P l t ≤ t := fun t => cn_le _ _
    have ct := c36 t
    have ml := mxs_le P l t
    by_cases x0 : x = 0
    · have none : ∀ p, t ≤ p → p < 36 → siz P l p = 0 := fun p h1 h2 => siz_none fun q hq e => by
        have pq := hPi q hq
        have := (hx (cl q)).mpr ⟨inC_cl.trans pq.1, by rw [pl_cl]; exact hq, by rw [pl_cl]; omega⟩
        rw [x0, tb_0] at this
        cases this
      obtain ⟨g1, g2⟩ := gap ht none
      rw [g1, g2]
      by_cases z : 36 - cns P l t ≤ 0
      · simp (disch := omega) only [X8_scattered_L42, li0, li1, li2, li3, li4, li5, li6, li7, li8, li11, li12, li16, li24, li25, li26, li31, li32, li36, li40, li48, li52, li58, li59, li60, li63, li64, li88, li96, li130, li192, li255, li2208, li2304, li9999, li9, li13, li14, li30, li35, li44, li45, li46, li47, li97, li98, li100, li101, li104, li105, li108, li110, li111, li112, li114, li117, li122, li999999, li1000000, li2147483647, cmp0, cmpl, cmpg, cmple, cmpge, nI_leI, nI_ltI, nI_eq, rL, rI, wL, wI, ob, aLet, nI_add, pk_mul, ↓reduceIte, if_true, if_false, eq_self, Nat.reduceEqDiff, Nat.reduceLeDiff, Nat.reduceLT, Nat.one_ne_zero, Nat.zero_ne_one, Nat.add_zero, Bool.false_eq_true, nI_neq, z]
      · simp (disch := omega) only [X8_scattered_L42, x0, li0, li1, li2, li3, li4, li5, li6, li7, li8, li11, li12, li16, li24, li25, li26, li31, li32, li36, li40, li48, li52, li58, li59, li60, li63, li64, li88, li96, li130, li192, li255, li2208, li2304, li9999, li9, li13, li14, li30, li35, li44, li45, li46, li47, li97, li98, li100, li101, li104, li105, li108, li110, li111, li112, li114, li117, li122, li999999, li1000000, li2147483647, cmp0, cmpl, cmpg, cmple, cmpge, nI_leI, nI_ltI, nI_eq, rL, rI, wL, wI, ob, aLet, nI_add, pk_mul, ↓reduceIte, if_true, if_false, eq_self, Nat.reduceEqDiff, Nat.reduceLeDiff, Nat.reduceLT, Nat.one_ne_zero, Nat.zero_ne_one, Nat.add_zero, Bool.false_eq_true, nI_neq, z]
    · obtain ⟨c, c1, c2, c3, c4, c5, c6⟩ := low x0
      obtain ⟨a1, a2, a3⟩ := (hx c).mp c2
      have ab := inC_b ok a1
      have e1 := low_one c1 c4
      have fa := fl_all ok hPi hl hN hx c2 c1
      -- the least cell is its part's label
      have root : l (pl c) = pl c := by
        have w := hl _ a2
        rcases Nat.lt_or_ge (l (pl c)) (pl c) with q | q
        · have pi := hPi _ w.1
          have ic : inC d (cl (l (pl c))) = true := inC_cl.trans pi.1
          have lt : cl (l (pl c)) < c := by
            have := (pl_lt ok ic a1).mp (by rw [pl_cl]; exact q)
            exact this
          have : tb x (cl (l (pl c))) = true := (hx _).mpr ⟨ic, by rw [pl_cl]; exact w.1, by rw [pl_cl, ll _ a2]; exact a3⟩
          rw [c3 _ lt] at this
          cases this
        · omega
      have tl : t ≤ pl c := by omega
      have none : ∀ p, t ≤ p → p < pl c → siz P l p = 0 := fun p h1 h2 => siz_none fun q hq e => by
        have pq := hPi q hq
        have w := hl q hq
        rw [e] at w
        have pi := hPi _ w.1
        have ic : inC d (cl p) = true := inC_cl.trans pi.1
        have lp : l p = p := by
          have := ll q hq
          rwa [e] at this
        have : tb x (cl p) = true := (hx _).mpr ⟨ic, by rw [pl_cl]; exact w.1, by rw [pl_cl, lp]; exact h1⟩
        have lt : cl p < c := by
          have := (pl_lt ok ic a1).mp (by rw [pl_cl]; exact h2)
          exact this
        rw [c3 _ lt] at this
        cases this
      obtain ⟨g1, g2⟩ := gap tl none
      -- how many cells it has
      have cnt : cn (tb (fld2 x (oneC c) 36)) 64 = siz P l (pl c) := by
        rw [cn_cells (fun b _ h => by
          have := inC_b ok ((hx b).mp ((fa b).mp h).1).1
          exact ⟨this.1, this.2.1⟩)]
        refine cn_cong fun q hq => ?_
        rw [Bool.eq_iff_iff, fa, hx, pl_cl, Bool.and_eq_true, decide_eq_true_eq, root]
        constructor
        · rintro ⟨⟨w1, w2, w3⟩, w4⟩
          exact ⟨w2, w4⟩
        · rintro ⟨w2, w4⟩
          exact ⟨⟨inC_cl.trans (hPi q w2).1, w2, by omega⟩, w4⟩
      have pos : 0 < siz P l (pl c) := by
        have : cn (fun q => P q && decide (l q = pl c)) (pl c) < cn (fun q => P q && decide (l q = pl c)) 36 := cn_less ab.2.2.1 (by
          show (P (pl c) && decide (l (pl c) = pl c)) = true
          rw [a2, root]
          simp)
        show 0 < cn _ 36
        omega
      have cs : cns P l (pl c + 1) = cns P l t + 1 := by
        show cn _ (pl c + 1) = _
        rw [cn_yes (by rw [decide_eq_true pos])]
        show cns P l (pl c) + 1 = _
        rw [g1]
      have ms2 : mxs P l (pl c + 1) = max (mxs P l t) (siz P l (pl c)) := by
        show max (mxs P l (pl c)) (siz P l (pl c)) = _
        rw [g2]
      have c37 := c36 (pl c + 1)
      have mono : cns P l (pl c + 1) ≤ cns P l 36 := cn_mono _ (by omega)
      have c36' := c36 36
      have sl := siz_le P l (pl c)
      have rest : RestOf d P l (pl c + 1) (x &&& (fld2 x (oneC c) 36 ^^^ (-1))) := fun b => by
        rw [tb_andnF]
        dsimp only
        rw [Bool.and_eq_true, Bool.not_eq_true']
        constructor
        · rintro ⟨w1, w2⟩
          obtain ⟨v1, v2, v3⟩ := (hx b).mp w1
          refine ⟨v1, v2, ?_⟩
          have ne : l (pl b) ≠ pl c := fun q => by
            rw [(fa b).mpr ⟨w1, by rw [q, root]⟩] at w2
            cases w2
          rcases Nat.lt_trichotomy (l (pl b)) (pl c) with q | q | q
          · have := none _ v3 q
            have w := hl _ v2
            have : 0 < siz P l (l (pl b)) := by
              have pb := hPi _ v2
              have : cn (fun q => P q && decide (l q = l (pl b))) (pl b) < cn (fun q => P q && decide (l q = l (pl b))) 36 := cn_less pb.2 (by
                show (P (pl b) && decide (l (pl b) = l (pl b))) = true
                rw [v2]
                simp)
              show 0 < cn _ 36
              omega
            omega
          · exact absurd q ne
          · exact q
        · rintro ⟨v1, v2, v3⟩
          have w1 := (hx b).mpr ⟨v1, v2, by omega⟩
          refine ⟨w1, ?_⟩
          cases w : tb (fld2 x (oneC c) 36) b
          · rfl
          · have := ((fa b).mp w).2
            rw [root] at this
            omega
      have i := ih (36 - (pl c + 1)) (by omega) (pl c + 1) n _ rfl (by omega) (by omega) rest
      rw [← i]
      have z : ¬ 36 - cns P l t ≤ 0 := by omega
      have em : nI (36 - cns P l t) + -nI 1 = nI (36 - cns P l (pl c + 1)) := by
        rw [show 36 - cns P l t = (36 - cns P l (pl c + 1)) + 1 by omega]
        exact pk_m1 _
      have pa := c_partF x (oneC c)
      simp (disch := omega) only [X8_scattered_L42, x0, e1, pa, pc64, cnt, a_max_n, em, li0, li1, li2, li3, li4, li5, li6, li7, li8, li11, li12, li16, li24, li25, li26, li31, li32, li36, li40, li48, li52, li58, li59, li60, li63, li64, li88, li96, li130, li192, li255, li2208, li2304, li9999, li9, li13, li14, li30, li35, li44, li45, li46, li47, li97, li98, li100, li101, li104, li105, li108, li110, li111, li112, li114, li117, li122, li999999, li1000000, li2147483647, cmp0, cmpl, cmpg, cmple, cmpge, nI_leI, nI_ltI, nI_eq, rL, rI, wL, wI, ob, aLet, nI_add, pk_mul, ↓reduceIte, if_true, if_false, eq_self, Nat.reduceEqDiff, Nat.reduceLeDiff, Nat.reduceLT, Nat.one_ne_zero, Nat.zero_ne_one, Nat.add_zero, Bool.false_eq_true, nI_neq, z]
      rw [cs, ms2]
/-! the reference -/
theorem r_scat {d : LD} {m Z : Rec} {P : Nat → Bool} {l : Nat → Nat} (hPi : ∀ p, P p = true → inP d p = true ∧ p < 36) (hl : lbl P l) (hF : Fr m Z) (h : arr P l Z) : X9_scattered_L318 Z aFu (nI 0) (nI 0) (nI 0) = some (nI (cns P l 36), nI (mxs P l 36)) := by
  have inner : ∀ p, p < 36 → X9_scattered_L331 Z (nI p) aFu (nI 0) (nI 0) = some (nI (siz P l p)) := fun p hp => by
    have := forUp (fun n j s => X9_scattered_L331 Z (nI p) n s j) 36 (fun k => nI (cn (fun q => P q && decide (l q = p)) k)) (some (nI (siz P l p))) (fun n k hk => by
      have hlt : ¬ 36 ≤ k := by omega
      have e := h k hk
      cases q : P k
      · rw [enl_no q] at e
        have ne : ¬ (-nI 4 = nI p) := fun z => n4ne (show p < 2 ^ 31 by omega) z.symm
        rw [cn_no (by rw [q]; rfl)]
        simp (disch := omega) only [X9_scattered_L331, e, ne, li0, li1, li2, li3, li4, li5, li6, li7, li8, li11, li12, li16, li24, li25, li26, li31, li32, li36, li40, li48, li52, li58, li59, li60, li63, li64, li88, li96, li130, li192, li255, li2208, li2304, li9999, li9, li13, li14, li30, li35, li44, li45, li46, li47, li97, li98, li100, li101, li104, li105, li108, li110, li111, li112, li114, li117, li122, li999999, li1000000, li2147483647, cmp0, cmpl, cmpg, cmple, cmpge, nI_leI, nI_ltI, nI_eq, rL, rI, wL, wI, ob, aLet, nI_add, pk_mul, ↓reduceIte, if_true, if_false, eq_self, Nat.reduceEqDiff, Nat.reduceLeDiff, Nat.reduceLT, Nat.one_ne_zero, Nat.zero_ne_one, Nat.add_zero, Bool.false_eq_true, nI_neq, hlt]
      · rw [enl_yes q] at e
        have lk := (hl k q).2.1
        by_cases w : l k = p
        · rw [cn_yes (by rw [q, w]; simp)]
          rw [w] at e
          simp (disch := omega) only [X9_scattered_L331, e, li0, li1, li2, li3, li4, li5, li6, li7, li8, li11, li12, li16, li24, li25, li26, li31, li32, li36, li40, li48, li52, li58, li59, li60, li63, li64, li88, li96, li130, li192, li255, li2208, li2304, li9999, li9, li13, li14, li30, li35, li44, li45, li46, li47, li97, li98, li100, li101, li104, li105, li108, li110, li111, li112, li114, li117, li122, li999999, li1000000, li2147483647, cmp0, cmpl, cmpg, cmple, cmpge, nI_leI, nI_ltI, nI_eq, rL, rI, wL, wI, ob, aLet, nI_add, pk_mul, ↓reduceIte, if_true, if_false, eq_self, Nat.reduceEqDiff, Nat.reduceLeDiff, Nat.reduceLT, Nat.one_ne_zero, Nat.zero_ne_one, Nat.add_zero, Bool.false_eq_true, nI_neq, hlt]
        · rw [cn_no (by rw [decide_eq_false w, Bool.and_false])]
          simp (disch := omega) only [X9_scattered_L331, e, w, li0, li1, li2, li3, li4, li5, li6, li7, li8, li11, li12, li16, li24, li25, li26, li31, li32, li36, li40, li48, li52, li58, li59, li60, li63, li64, li88, li96, li130, li192, li255, li2208, li2304, li9999, li9, li13, li14, li30, li35, li44, li45, li46, li47, li97, li98, li100, li101, li104, li105, li108, li110, li111, li112, li114, li117, li122, li999999, li1000000, li2147483647, cmp0, cmpl, cmpg, cmple, cmpge, nI_leI, nI_ltI, nI_eq, rL, rI, wL, wI, ob, aLet, nI_add, pk_mul, ↓reduceIte, if_true, if_false, eq_self, Nat.reduceEqDiff, Nat.reduceLeDiff, Nat.reduceLT, Nat.one_ne_zero, Nat.zero_ne_one, Nat.add_zero, Bool.false_eq_true, nI_neq, hlt]) (fun n => by simp (disch := omega) only [X9_scattered_L331, li0, li1, li2, li3, li4, li5, li6, li7, li8, li11, li12, li16, li24, li25, li26, li31, li32, li36, li40, li48, li52, li58, li59, li60, li63, li64, li88, li96, li130, li192, li255, li2208, li2304, li9999, li9, li13, li14, li30, li35, li44, li45, li46, li47, li97, li98, li100, li101, li104, li105, li108, li110, li111, li112, li114, li117, li122, li999999, li1000000, li2147483647, cmp0, cmpl, cmpg, cmple, cmpge, nI_leI, nI_ltI, nI_eq, rL, rI, wL, wI, ob, aLet, nI_add, pk_mul, ↓reduceIte, if_true, if_false, eq_self, Nat.reduceEqDiff, Nat.reduceLeDiff, Nat.reduceLT, Nat.one_ne_zero, Nat.zero_ne_one, Nat.add_zero, Bool.false_eq_true, nI_neq, Nat.le_refl]; rfl) 36 0 aFu rfl (by decide)
    exact this
  have := forUp (fun n j (s : Int32 × Int32) => X9_scattered_L318 Z n s.1 s.2 j) 36 (fun k => (nI (cns P l k), nI (mxs P l k))) (some (nI (cns P l 36), nI (mxs P l 36))) (fun n k hk => by
    have hlt : ¬ 36 ≤ k := by omega
    have i := inner k hk
    have sl := siz_le P l k
    have ml := mxs_le P l k
    have mm : mxs P l (k + 1) = max (mxs P l k) (siz P l k) := rfl
    by_cases z : siz P l k ≤ 0
    · have c1 : cns P l (k + 1) = cns P l k := cn_no (by rw [decide_eq_false (by omega)])
      have le : siz P l k ≤ mxs P l k := by omega
      rw [c1, mm, Nat.max_eq_left le]
      simp (disch := omega) only [X9_scattered_L318, X9_scattered_J378, i, z, le, li0, li1, li2, li3, li4, li5, li6, li7, li8, li11, li12, li16, li24, li25, li26, li31, li32, li36, li40, li48, li52, li58, li59, li60, li63, li64, li88, li96, li130, li192, li255, li2208, li2304, li9999, li9, li13, li14, li30, li35, li44, li45, li46, li47, li97, li98, li100, li101, li104, li105, li108, li110, li111, li112, li114, li117, li122, li999999, li1000000, li2147483647, cmp0, cmpl, cmpg, cmple, cmpge, nI_leI, nI_ltI, nI_eq, rL, rI, wL, wI, ob, aLet, nI_add, pk_mul, ↓reduceIte, if_true, if_false, eq_self, Nat.reduceEqDiff, Nat.reduceLeDiff, Nat.reduceLT, Nat.one_ne_zero, Nat.zero_ne_one, Nat.add_zero, Bool.false_eq_true, nI_neq, hlt]
    · have c1 : cns P l (k + 1) = cns P l k + 1 := cn_yes (by rw [decide_eq_true (by omega)])
      rw [c1, mm]
      by_cases le : siz P l k ≤ mxs P l k
      · rw [Nat.max_eq_left le]
        simp (disch := omega) only [X9_scattered_L318, X9_scattered_J378, i, z, le, li0, li1, li2, li3, li4, li5, li6, li7, li8, li11, li12, li16, li24, li25, li26, li31, li32, li36, li40, li48, li52, li58, li59, li60, li63, li64, li88, li96, li130, li192, li255, li2208, li2304, li9999, li9, li13, li14, li30, li35, li44, li45, li46, li47, li97, li98, li100, li101, li104, li105, li108, li110, li111, li112, li114, li117, li122, li999999, li1000000, li2147483647, cmp0, cmpl, cmpg, cmple, cmpge, nI_leI, nI_ltI, nI_eq, rL, rI, wL, wI, ob, aLet, nI_add, pk_mul, ↓reduceIte, if_true, if_false, eq_self, Nat.reduceEqDiff, Nat.reduceLeDiff, Nat.reduceLT, Nat.one_ne_zero, Nat.zero_ne_one, Nat.add_zero, Bool.false_eq_true, nI_neq, hlt]
      · rw [Nat.max_eq_right (by omega)]
        simp (disch := omega) only [X9_scattered_L318, X9_scattered_J378, i, z, le, li0, li1, li2, li3, li4, li5, li6, li7, li8, li11, li12, li16, li24, li25, li26, li31, li32, li36, li40, li48, li52, li58, li59, li60, li63, li64, li88, li96, li130, li192, li255, li2208, li2304, li9999, li9, li13, li14, li30, li35, li44, li45, li46, li47, li97, li98, li100, li101, li104, li105, li108, li110, li111, li112, li114, li117, li122, li999999, li1000000, li2147483647, cmp0, cmpl, cmpg, cmple, cmpge, nI_leI, nI_ltI, nI_eq, rL, rI, wL, wI, ob, aLet, nI_add, pk_mul, ↓reduceIte, if_true, if_false, eq_self, Nat.reduceEqDiff, Nat.reduceLeDiff, Nat.reduceLT, Nat.one_ne_zero, Nat.zero_ne_one, Nat.add_zero, Bool.false_eq_true, nI_neq, hlt]) (fun n => by simp (disch := omega) only [X9_scattered_L318, li0, li1, li2, li3, li4, li5, li6, li7, li8, li11, li12, li16, li24, li25, li26, li31, li32, li36, li40, li48, li52, li58, li59, li60, li63, li64, li88, li96, li130, li192, li255, li2208, li2304, li9999, li9, li13, li14, li30, li35, li44, li45, li46, li47, li97, li98, li100, li101, li104, li105, li108, li110, li111, li112, li114, li117, li122, li999999, li1000000, li2147483647, cmp0, cmpl, cmpg, cmple, cmpge, nI_leI, nI_ltI, nI_eq, rL, rI, wL, wI, ob, aLet, nI_add, pk_mul, ↓reduceIte, if_true, if_false, eq_self, Nat.reduceEqDiff, Nat.reduceLeDiff, Nat.reduceLT, Nat.one_ne_zero, Nat.zero_ne_one, Nat.add_zero, Bool.false_eq_true, nI_neq, Nat.le_refl]) 36 0 aFu rfl (by decide)
  exact this
theorem q_scattered {d : LD} {S m : Rec} (ok : okL d) (hS : LandOf d S) (hf : RowOf d (m.2.1 0)) (x1 x2 : Int32) : ∃ r m', X8_scattered S x1 x2 = some r ∧ X9_scattered m x1 x2 = some (r, m') ∧ Fr m m' := by
  have h6 := ok.1
  rcases hcase ok hS hf x1 with ⟨a, b⟩ | ⟨i, hi, rfl, a, b⟩
  · refine ⟨-nI 1, m, ?_, ?_, Fr_refl m⟩
    · simp (disch := omega) only [X8_scattered, a, li0, li1, li2, li3, li4, li5, li6, li7, li8, li11, li12, li16, li24, li25, li26, li31, li32, li36, li40, li48, li52, li58, li59, li60, li63, li64, li88, li96, li130, li192, li255, li2208, li2304, li9999, li9, li13, li14, li30, li35, li44, li45, li46, li47, li97, li98, li100, li101, li104, li105, li108, li110, li111, li112, li114, li117, li122, li999999, li1000000, li2147483647, cmp0, cmpl, cmpg, cmple, cmpge, nI_leI, nI_ltI, nI_eq, rL, rI, wL, wI, ob, aLet, nI_add, pk_mul, ↓reduceIte, if_true, if_false, eq_self, Nat.reduceEqDiff, Nat.reduceLeDiff, Nat.reduceLT, Nat.one_ne_zero, Nat.zero_ne_one, Nat.add_zero, Bool.false_eq_true, nI_neq]
    · simp (disch := omega) only [X9_scattered, b, li0, li1, li2, li3, li4, li5, li6, li7, li8, li11, li12, li16, li24, li25, li26, li31, li32, li36, li40, li48, li52, li58, li59, li60, li63, li64, li88, li96, li130, li192, li255, li2208, li2304, li9999, li9, li13, li14, li30, li35, li44, li45, li46, li47, li97, li98, li100, li101, li104, li105, li108, li110, li111, li112, li114, li117, li122, li999999, li1000000, li2147483647, cmp0, cmpl, cmpg, cmple, cmpge, nI_leI, nI_ltI, nI_eq, rL, rI, wL, wI, ob, aLet, nI_add, pk_mul, ↓reduceIte, if_true, if_false, eq_self, Nat.reduceEqDiff, Nat.reduceLeDiff, Nat.reduceLT, Nat.one_ne_zero, Nat.zero_ne_one, Nat.add_zero, Bool.false_eq_true, nI_neq]
  rcases rg_0_1 x2 with ⟨e, f, -⟩ | ⟨w, -, hw, rfl, e, f⟩
  · refine ⟨-nI 1, m, ?_, ?_, Fr_refl m⟩
    · simp (disch := omega) only [X8_scattered, a, e, li0, li1, li2, li3, li4, li5, li6, li7, li8, li11, li12, li16, li24, li25, li26, li31, li32, li36, li40, li48, li52, li58, li59, li60, li63, li64, li88, li96, li130, li192, li255, li2208, li2304, li9999, li9, li13, li14, li30, li35, li44, li45, li46, li47, li97, li98, li100, li101, li104, li105, li108, li110, li111, li112, li114, li117, li122, li999999, li1000000, li2147483647, cmp0, cmpl, cmpg, cmple, cmpge, nI_leI, nI_ltI, nI_eq, rL, rI, wL, wI, ob, aLet, nI_add, pk_mul, ↓reduceIte, if_true, if_false, eq_self, Nat.reduceEqDiff, Nat.reduceLeDiff, Nat.reduceLT, Nat.one_ne_zero, Nat.zero_ne_one, Nat.add_zero, Bool.false_eq_true, nI_neq]
    · simp (disch := omega) only [X9_scattered, b, f, li0, li1, li2, li3, li4, li5, li6, li7, li8, li11, li12, li16, li24, li25, li26, li31, li32, li36, li40, li48, li52, li58, li59, li60, li63, li64, li88, li96, li130, li192, li255, li2208, li2304, li9999, li9, li13, li14, li30, li35, li44, li45, li46, li47, li97, li98, li100, li101, li104, li105, li108, li110, li111, li112, li114, li117, li122, li999999, li1000000, li2147483647, cmp0, cmpl, cmpg, cmple, cmpge, nI_leI, nI_ltI, nI_eq, rL, rI, wL, wI, ob, aLet, nI_add, pk_mul, ↓reduceIte, if_true, if_false, eq_self, Nat.reduceEqDiff, Nat.reduceLeDiff, Nat.reduceLT, Nat.one_ne_zero, Nat.zero_ne_one, Nat.add_zero, Bool.false_eq_true, nI_neq]
  have hPi : ∀ p, hosP d (i + 1) p = true → inP d p = true ∧ p < 36 := fun p hp => by
    unfold hosP at hp
    rw [Bool.and_eq_true] at hp
    refine ⟨hp.1, ?_⟩
    have h1 := hp.1
    unfold inP at h1
    simp only [Bool.and_eq_true, decide_eq_true_eq] at h1
    have := ok.2.2.1
    omega
  have lid : lbl (hosP d (i + 1)) (fun p => p) := fun p hp => ⟨hp, Nat.le_refl p, fun f _ => rfl⟩
  obtain ⟨A, a1, a2, a3⟩ := forUpE (fun n j z => X9_scattered_L22 (nI i) n j z) 36 (fun k A => Fr m A ∧ ∀ p, p < k → A.2.1 15 p = enl (hosP d (i + 1)) (fun p => p) p) (fun A => Fr m A ∧ ∀ p, p < 36 → A.2.1 15 p = enl (hosP d (i + 1)) (fun p => p) p) (fun n p A hp hA => by
      obtain ⟨i1, i2⟩ := hA
      have hlt : ¬ 36 ≤ p := by omega
      have f0 : RowOf d (A.2.1 0) := by
        rw [i1.2.2.1]
        exact hf
      have e2 := f0.2.2.2.2.2.2.2.2.1 p hp
      have ho := ok.2.2.2.2.2.2.2.2.1 p hp
      refine ⟨sA A 15 (upd (A.2.1 15) p (enl (hosP d (i + 1)) (fun p => p) p)), ?_, Fr_A i1 (by omega), fun q hq => ?_⟩
      · cases q : inP d p
        · have n0 : enl (hosP d (i + 1)) (fun p => p) p = -nI 4 := enl_no (by unfold hosP; rw [q]; rfl)
          have ii := isIn0 ok f0 hp q
          rw [n0]
          simp (disch := omega) only [X9_scattered_L22, ii, li0, li1, li2, li3, li4, li5, li6, li7, li8, li11, li12, li16, li24, li25, li26, li31, li32, li36, li40, li48, li52, li58, li59, li60, li63, li64, li88, li96, li130, li192, li255, li2208, li2304, li9999, li9, li13, li14, li30, li35, li44, li45, li46, li47, li97, li98, li100, li101, li104, li105, li108, li110, li111, li112, li114, li117, li122, li999999, li1000000, li2147483647, cmp0, cmpl, cmpg, cmple, cmpge, nI_leI, nI_ltI, nI_eq, rL, rI, wL, wI, ob, aLet, nI_add, pk_mul, ↓reduceIte, if_true, if_false, eq_self, Nat.reduceEqDiff, Nat.reduceLeDiff, Nat.reduceLT, Nat.one_ne_zero, Nat.zero_ne_one, Nat.add_zero, Bool.false_eq_true, nI_neq, hlt]
        · have ii := isIn1 ok f0 hp q
          by_cases w : lO d p = i + 1
          · have n0 : enl (hosP d (i + 1)) (fun p => p) p = nI p := enl_yes (by unfold hosP; rw [q, decide_eq_true w]; rfl)
            rw [n0]
            simp (disch := omega) only [X9_scattered_L22, ii, e2, w, li0, li1, li2, li3, li4, li5, li6, li7, li8, li11, li12, li16, li24, li25, li26, li31, li32, li36, li40, li48, li52, li58, li59, li60, li63, li64, li88, li96, li130, li192, li255, li2208, li2304, li9999, li9, li13, li14, li30, li35, li44, li45, li46, li47, li97, li98, li100, li101, li104, li105, li108, li110, li111, li112, li114, li117, li122, li999999, li1000000, li2147483647, cmp0, cmpl, cmpg, cmple, cmpge, nI_leI, nI_ltI, nI_eq, rL, rI, wL, wI, ob, aLet, nI_add, pk_mul, ↓reduceIte, if_true, if_false, eq_self, Nat.reduceEqDiff, Nat.reduceLeDiff, Nat.reduceLT, Nat.one_ne_zero, Nat.zero_ne_one, Nat.add_zero, Bool.false_eq_true, nI_neq, hlt]
          · have n0 : enl (hosP d (i + 1)) (fun p => p) p = -nI 4 := enl_no (by unfold hosP; rw [q, decide_eq_false w]; rfl)
            rw [n0]
            simp (disch := omega) only [X9_scattered_L22, ii, e2, w, li0, li1, li2, li3, li4, li5, li6, li7, li8, li11, li12, li16, li24, li25, li26, li31, li32, li36, li40, li48, li52, li58, li59, li60, li63, li64, li88, li96, li130, li192, li255, li2208, li2304, li9999, li9, li13, li14, li30, li35, li44, li45, li46, li47, li97, li98, li100, li101, li104, li105, li108, li110, li111, li112, li114, li117, li122, li999999, li1000000, li2147483647, cmp0, cmpl, cmpg, cmple, cmpge, nI_leI, nI_ltI, nI_eq, rL, rI, wL, wI, ob, aLet, nI_add, pk_mul, ↓reduceIte, if_true, if_false, eq_self, Nat.reduceEqDiff, Nat.reduceLeDiff, Nat.reduceLT, Nat.one_ne_zero, Nat.zero_ne_one, Nat.add_zero, Bool.false_eq_true, nI_neq, hlt]
      · show upd (A.2.1 15) p _ q = _
        by_cases y : q = p
        · rw [y, pk_us]
        · rw [pk_un y]
          exact i2 q (by omega)) (fun n A hA => ⟨A, by simp (disch := omega) only [X9_scattered_L22, li0, li1, li2, li3, li4, li5, li6, li7, li8, li11, li12, li16, li24, li25, li26, li31, li32, li36, li40, li48, li52, li58, li59, li60, li63, li64, li88, li96, li130, li192, li255, li2208, li2304, li9999, li9, li13, li14, li30, li35, li44, li45, li46, li47, li97, li98, li100, li101, li104, li105, li108, li110, li111, li112, li114, li117, li122, li999999, li1000000, li2147483647, cmp0, cmpl, cmpg, cmple, cmpge, nI_leI, nI_ltI, nI_eq, rL, rI, wL, wI, ob, aLet, nI_add, pk_mul, ↓reduceIte, if_true, if_false, eq_self, Nat.reduceEqDiff, Nat.reduceLeDiff, Nat.reduceLT, Nat.one_ne_zero, Nat.zero_ne_one, Nat.add_zero, Bool.false_eq_true, nI_neq, Nat.le_refl], hA⟩) 36 0 aFu m rfl (by decide) ⟨Fr_refl m, fun p hp => absurd hp (by omega)⟩
  have ptl := pot_le (fun p hp => (hPi p hp).2) lid
  obtain ⟨Z, l, z1, z2, z3, z4, z5⟩ := sc_all (fun p hp => (hPi p hp).2) (36 * 36 + 1) 99999 A (fun p => p) (by omega) (by omega) lid a2 a3
  have z1 : X9_scattered_L74 aFu (nI 1) A = some Z := z1
  have rs := r_scat hPi z3 z2 z4
  have th := tb_held ok hS (h := i) (by omega)
  rw [hw_i (by omega)] at th
  have rest : RestOf d (hosP d (i + 1)) l 0 (S.2.2 10 i) := fun c => by
    rw [th]
    constructor
    · intro h
      obtain ⟨u1, u2, u3⟩ := own_hos ok h
      exact ⟨u2, u1, Nat.zero_le _⟩
    · rintro ⟨u1, u2, -⟩
      have := own_cl (d := d) (i + 1) (pl c)
      rw [cl_pl (inC_b ok u1).2.1, u2] at this
      exact this
  have cs := c_scat ok hPi z3 z5 36 0 aFu (S.2.2 10 i) rfl (by omega) (by decide) rest
  have cs : X8_scattered_L42 aFu (S.2.2 10 i) (nI 0) (nI 0) (nI 36) = some (nI (cns (hosP d (i + 1)) l 36), nI (mxs (hosP d (i + 1)) l 36)) := cs
  rcases (show w = 0 ∨ w = 1 by omega) with rfl | rfl
  · refine ⟨nI (cns (hosP d (i + 1)) l 36), Z, ?_, ?_, z2⟩
    · simp (disch := omega) only [X8_scattered, a, e, cs, li0, li1, li2, li3, li4, li5, li6, li7, li8, li11, li12, li16, li24, li25, li26, li31, li32, li36, li40, li48, li52, li58, li59, li60, li63, li64, li88, li96, li130, li192, li255, li2208, li2304, li9999, li9, li13, li14, li30, li35, li44, li45, li46, li47, li97, li98, li100, li101, li104, li105, li108, li110, li111, li112, li114, li117, li122, li999999, li1000000, li2147483647, cmp0, cmpl, cmpg, cmple, cmpge, nI_leI, nI_ltI, nI_eq, rL, rI, wL, wI, ob, aLet, nI_add, pk_mul, ↓reduceIte, if_true, if_false, eq_self, Nat.reduceEqDiff, Nat.reduceLeDiff, Nat.reduceLT, Nat.one_ne_zero, Nat.zero_ne_one, Nat.add_zero, Bool.false_eq_true, nI_neq]
    · simp (disch := omega) only [X9_scattered, b, f, a1, z1, rs, li0, li1, li2, li3, li4, li5, li6, li7, li8, li11, li12, li16, li24, li25, li26, li31, li32, li36, li40, li48, li52, li58, li59, li60, li63, li64, li88, li96, li130, li192, li255, li2208, li2304, li9999, li9, li13, li14, li30, li35, li44, li45, li46, li47, li97, li98, li100, li101, li104, li105, li108, li110, li111, li112, li114, li117, li122, li999999, li1000000, li2147483647, cmp0, cmpl, cmpg, cmple, cmpge, nI_leI, nI_ltI, nI_eq, rL, rI, wL, wI, ob, aLet, nI_add, pk_mul, ↓reduceIte, if_true, if_false, eq_self, Nat.reduceEqDiff, Nat.reduceLeDiff, Nat.reduceLT, Nat.one_ne_zero, Nat.zero_ne_one, Nat.add_zero, Bool.false_eq_true, nI_neq]
  · refine ⟨nI (mxs (hosP d (i + 1)) l 36), Z, ?_, ?_, z2⟩
    · simp (disch := omega) only [X8_scattered, a, e, cs, li0, li1, li2, li3, li4, li5, li6, li7, li8, li11, li12, li16, li24, li25, li26, li31, li32, li36, li40, li48, li52, li58, li59, li60, li63, li64, li88, li96, li130, li192, li255, li2208, li2304, li9999, li9, li13, li14, li30, li35, li44, li45, li46, li47, li97, li98, li100, li101, li104, li105, li108, li110, li111, li112, li114, li117, li122, li999999, li1000000, li2147483647, cmp0, cmpl, cmpg, cmple, cmpge, nI_leI, nI_ltI, nI_eq, rL, rI, wL, wI, ob, aLet, nI_add, pk_mul, ↓reduceIte, if_true, if_false, eq_self, Nat.reduceEqDiff, Nat.reduceLeDiff, Nat.reduceLT, Nat.one_ne_zero, Nat.zero_ne_one, Nat.add_zero, Bool.false_eq_true, nI_neq]
    · simp (disch := omega) only [X9_scattered, b, f, a1, z1, rs, li0, li1, li2, li3, li4, li5, li6, li7, li8, li11, li12, li16, li24, li25, li26, li31, li32, li36, li40, li48, li52, li58, li59, li60, li63, li64, li88, li96, li130, li192, li255, li2208, li2304, li9999, li9, li13, li14, li30, li35, li44, li45, li46, li47, li97, li98, li100, li101, li104, li105, li108, li110, li111, li112, li114, li117, li122, li999999, li1000000, li2147483647, cmp0, cmpl, cmpg, cmple, cmpge, nI_leI, nI_ltI, nI_eq, rL, rI, wL, wI, ob, aLet, nI_add, pk_mul, ↓reduceIte, if_true, if_false, eq_self, Nat.reduceEqDiff, Nat.reduceLeDiff, Nat.reduceLT, Nat.one_ne_zero, Nat.zero_ne_one, Nat.add_zero, Bool.false_eq_true, nI_neq]
theorem eq_scattered {c : CSt} {m : Rec} (hI : Inv c m) (x1 : Int32) (x2 : Int32) : ∃ (r : Int32) (c1 : CSt) (m1 : Rec), stC_scattered c x1 x2 = some (r, c1) ∧ stM_scattered m x1 x2 = some (r, m1) ∧ Inv c1 m1 := by
  obtain ⟨d, ok, hy, hS, hf⟩ := hI.1
  obtain ⟨r, m', a, b, hF⟩ := q_scattered ok hS hf x1 x2
  exact ⟨r, c, m', by unfold stC_scattered; rw [a]; rfl, by unfold stM_scattered; rw [b]; rfl, inv_fr hI hF (c_trial c) (c_earlier c) (c_sets c) (c_survey c) (c_marriages c) (c_finder c)⟩
