/-! a land with other holders; chance -/
def giveD (d : LD) (w : Nat → Nat) : LD := (lH d, lC d, lR d, lY d, lW d, lK d, lG d, lS d, w, lL d, lE d)
theorem ok_give {d : LD} (ok : okL d) {w : Nat → Nat} (h : ∀ p, p < 36 → w p ≤ lH d) : okL (giveD d w) := by
  obtain ⟨a1, a2, a3, a4, a5, a6, a7, a8, a9, a10⟩ := ok
  exact ⟨a1, a2, a3, a4, a5, a6, a7, a8, h, a10⟩
theorem own_give (d : LD) (w : Nat → Nat) (o c : Nat) : own (giveD d w) o c = (inC d c && decide (w (pl c) = o)) := rfl
theorem sy_give (d : LD) (w : Nat → Nat) (i : Nat) : sy (giveD d w) i = sp d (lK d i) (own (giveD d w) (i + 1)) (own (giveD d w) 0) := rfl
theorem own_giveC {d : LD} (ok : okL d) {w w' : Nat → Nat} (h : ∀ p, p < 36 → w p = w' p) (o : Nat) : own (giveD d w) o = own (giveD d w') o := funext fun c => by
  rw [own_give, own_give]
  cases q : inC d c
  · rfl
  · rw [h _ (inC_b ok q).2.2.1]
theorem sy_giveC {d : LD} (ok : okL d) {w w' : Nat → Nat} (h : ∀ p, p < 36 → w p = w' p) (i : Nat) : sy (giveD d w) i = sy (giveD d w') i := by
  rw [sy_give, sy_give, own_giveC ok h, own_giveC ok h]
/-- whose, when a set of places is somebody's more -/
def wadd (d : LD) (o : Nat) (T : Nat → Bool) : Nat → Nat := fun p => if T p = true then o else lO d p
theorem c_withG {d : LD} {S : Rec} (ok : okL d) (hS : LandOf d S) {i : Nat} (hi : i < lH d) {y : Int64} (hy : ∀ c, tb y c = true → inC d c = true) : X2_speechWith S (nI i) y = some (nI (sy (giveD d (wadd d (i + 1) (fun p => tb y (cl p)))) i)) := by
  rw [c_with ok hS hi, sy_give]
  have e1 : (fun c => own d (i + 1) c || tb y c) = own (giveD d (wadd d (i + 1) (fun p => tb y (cl p)))) (i + 1) := funext fun c => by
    rw [own_give]
    unfold own wadd
    cases q : inC d c
    · cases z : tb y c
      · rfl
      · rw [hy c z] at q
        cases q
    · show (true && decide (lO d (pl c) = i + 1) || tb y c) = (true && decide ((if tb y (cl (pl c)) = true then i + 1 else lO d (pl c)) = i + 1))
      rw [cl_pl (inC_b ok q).2.1]
      cases z : tb y c
      · simp
      · simp
  have e2 : (fun c => own d 0 c && !tb y c) = own (giveD d (wadd d (i + 1) (fun p => tb y (cl p)))) 0 := funext fun c => by
    rw [own_give]
    unfold own wadd
    cases q : inC d c
    · rfl
    · show (true && decide (lO d (pl c) = 0) && !tb y c) = (true && decide ((if tb y (cl (pl c)) = true then i + 1 else lO d (pl c)) = 0))
      rw [cl_pl (inC_b ok q).2.1]
      cases z : tb y c
      · simp
      · simp
  rw [e1, e2]
/-- a cell alone -/
def oneC (t : Nat) : Int64 := (1 : Int64) <<< ((nI t).toInt64 &&& 63)
theorem tb_oneC {t : Nat} (ht : t < 64) (c : Nat) : tb (oneC t) c = decide (c = t) := by
  rcases Nat.lt_or_ge c 64 with h | h
  · exact tb_one ht h
  · rw [tb_big h, decide_eq_false (by omega)]
theorem low_one {x : Int64} {t : Nat} (ht : t < 64) (h : ∀ i, i < 64 → tb (x &&& -x) i = decide (i = t)) : x &&& -x = oneC t := tb_ext fun i hi => by rw [h i hi, tb_oneC ht]
theorem rest_one {x : Int64} {t : Nat} (ht : t < 64) (h : ∀ i, i < 64 → tb (x &&& (x - 1)) i = (tb x i && !decide (i = t))) : x &&& (oneC t ^^^ (-1)) = x &&& (x - 1) := tb_ext fun i hi => by rw [h i hi, tb_and, tb_not _ hi, tb_oneC ht]
/-- sums: over cells, over places row by row -/
def sg (g : Nat → Nat) : Nat → Nat
  | 0 => 0
  | n + 1 => sg g n + g n
theorem sg_cong {g h : Nat → Nat} : ∀ {n : Nat}, (∀ k, k < n → g k = h k) → sg g n = sg h n
  | 0, _ => rfl
  | n + 1, q => by rw [sg, sg, sg_cong (n := n) (fun k hk => q k (by omega)), q n (by omega)]
theorem sg_add (g : Nat → Nat) (a : Nat) : ∀ b, sg g (a + b) = sg g a + sg (fun k => g (a + k)) b
  | 0 => rfl
  | b + 1 => by
    show sg g (a + b) + g (a + b) = _
    rw [sg_add g a b, sg]
    omega
theorem sm_congG {g h : Nat → Nat} {P : Nat → Bool} : ∀ {n : Nat}, (∀ k, k < n → P k = true → g k = h k) → sm g P n = sm h P n
  | 0, _ => rfl
  | n + 1, q => by
    rw [sm, sm, sm_congG (n := n) (fun k hk => q k (by omega))]
    by_cases z : P n = true
    · rw [if_pos z, if_pos z, q n (by omega) z]
    · rw [if_neg z, if_neg z]
theorem sm_row (g : Nat → Nat) (P : Nat → Bool) (b c : Nat) (hc : c ≤ 8) (h1 : ∀ k, k < c → P (b + k) = true) (h2 : ∀ k, c ≤ k → k < 8 → P (b + k) = false) : sm g P (b + 8) = sm g P b + sg (fun k => g (b + k)) c := by
  have a : ∀ n, n ≤ c → sm g P (b + n) = sm g P b + sg (fun k => g (b + k)) n := fun n => by
    induction n with
    | zero => intro _; rfl
    | succ n ih =>
      intro h
      show sm g P (b + n + 1) = _
      rw [sm_yes (h1 n (by omega)), ih (by omega), sg]
      omega
  have z : ∀ n, c + n ≤ 8 → sm g P (b + (c + n)) = sm g P (b + c) := fun n => by
    induction n with
    | zero => intro _; rfl
    | succ n ih =>
      intro h
      show sm g P (b + (c + n) + 1) = _
      rw [sm_no (h2 (c + n) (by omega) (by omega)), ih (by omega)]
  have := z (8 - c) (by omega)
  rw [show c + (8 - c) = 8 by omega] at this
  rw [this, a c (Nat.le_refl c)]
theorem sm_land {d : LD} (ok : okL d) (g : Nat → Nat) : sm g (inC d) 64 = sg (fun k => g (kth d k)) (lR d * lC d) := by
  have hC := ok.2.1
  have hR := ok.2.2.1
  have rows : ∀ r, r ≤ lR d → sm g (inC d) (8 * r) = sg (fun k => g (kth d k)) (r * lC d) := fun r => by
    induction r with
    | zero => intro _; rw [Nat.zero_mul]; rfl
    | succ r ih =>
      intro h
      rw [show 8 * (r + 1) = 8 * r + 8 by omega, sm_row g (inC d) (8 * r) (lC d) (by omega) (fun k hk => by
        unfold inC
        rw [show (8 * r + k) / 8 = r by omega, show (8 * r + k) % 8 = k by omega, decide_eq_true (by omega), decide_eq_true hk]
        rfl) (fun k h1 h2 => by
        unfold inC
        rw [show (8 * r + k) % 8 = k by omega, decide_eq_false (show ¬ k < lC d by omega), Bool.and_false]), ih (by omega), Nat.succ_mul r (lC d), sg_add]
      congr 1
      refine sg_cong (fun k hk => ?_)
      have h0 : 0 < lC d := by omega
      unfold kth
      rw [show (r * lC d + k) / lC d = r by rw [Nat.add_comm, Nat.add_mul_div_right _ _ h0, Nat.div_eq_of_lt hk, Nat.zero_add], show (r * lC d + k) % lC d = k by rw [Nat.add_comm, Nat.add_mul_mod_self_right, Nat.mod_eq_of_lt hk]]
  have rest : ∀ n, sm g (inC d) (8 * lR d + n) = sm g (inC d) (8 * lR d) := fun n => by
    induction n with
    | zero => rfl
    | succ n ih =>
      show sm g (inC d) (8 * lR d + n + 1) = _
      rw [sm_no (by
        unfold inC
        rw [decide_eq_false (show ¬ (8 * lR d + n) / 8 < lR d by omega), Bool.false_and]), ih]
  have := rest (64 - 8 * lR d)
  rw [show 8 * lR d + (64 - 8 * lR d) = 64 by omega] at this
  rw [this, rows _ (Nat.le_refl _)]
/-- whether one can say a word when a set of places is his more -/
def lk (d : LD) (i w : Nat) (T : Nat → Bool) : Nat := if lE d w &&& sy (giveD d (wadd d (i + 1) T)) i = lE d w then 1 else 0
theorem lk_cong {d : LD} (ok : okL d) {i w : Nat} {T T' : Nat → Bool} (h : ∀ p, p < 36 → T p = T' p) : lk d i w T = lk d i w T' := by
  unfold lk
  rw [sy_giveC ok (w := wadd d (i + 1) T) (w' := wadd d (i + 1) T') (fun p hp => by unfold wadd; rw [h p hp])]
theorem c_lucky0 {d : LD} {S : Rec} (ok : okL d) (hS : LandOf d S) {i w : Nat} (hi : i < lH d) (hw : w < lW d) {y : Int64} (hy : ∀ c, tb y c = true → inC d c = true) (f : Nat) : X8_luckySales (f + 1) S (nI i) (nI (lE d w)) (nI 0) y = some (nI (lk d i w (fun p => tb y (cl p)))) := by
  have hE := (ok.2.2.2.2.2.2.2.2.2.1 w hw).1
  have cv := c_covers (sy_lt (giveD d (wadd d (i + 1) (fun p => tb y (cl p)))) i) hE
  have cw := c_withG ok hS hi hy
  simp (disch := omega) only [X8_luckySales, X8_luckySales_J9, cw, cv, li0, li1, li2, li3, li4, li5, li6, li7, li8, li11, li12, li16, li24, li25, li26, li31, li32, li36, li40, li48, li52, li58, li59, li60, li63, li64, li88, li96, li130, li192, li255, li2208, li2304, li9999, li9, li13, li14, li30, li35, li44, li45, li46, li47, li97, li98, li100, li101, li104, li105, li108, li110, li111, li112, li114, li117, li122, li999999, li1000000, li2147483647, cmp0, cmpl, cmpg, cmple, cmpge, nI_leI, nI_ltI, nI_eq, rL, rI, wL, wI, ob, aLet, nI_add, pk_mul, ↓reduceIte, if_true, if_false, eq_self, Nat.reduceEqDiff, Nat.reduceLeDiff, Nat.reduceLT, Nat.one_ne_zero, Nat.zero_ne_one, Nat.add_zero, Bool.false_eq_true, nI_neq, Nat.le_refl]
  unfold lk
  split
  · simp (disch := omega) only [li0, li1, li2, li3, li4, li5, li6, li7, li8, li11, li12, li16, li24, li25, li26, li31, li32, li36, li40, li48, li52, li58, li59, li60, li63, li64, li88, li96, li130, li192, li255, li2208, li2304, li9999, li9, li13, li14, li30, li35, li44, li45, li46, li47, li97, li98, li100, li101, li104, li105, li108, li110, li111, li112, li114, li117, li122, li999999, li1000000, li2147483647, cmp0, cmpl, cmpg, cmple, cmpge, nI_leI, nI_ltI, nI_eq, rL, rI, wL, wI, ob, aLet, nI_add, pk_mul, ↓reduceIte, if_true, if_false, eq_self, Nat.reduceEqDiff, Nat.reduceLeDiff, Nat.reduceLT, Nat.one_ne_zero, Nat.zero_ne_one, Nat.add_zero, Bool.false_eq_true, nI_neq]
  · simp (disch := omega) only [li0, li1, li2, li3, li4, li5, li6, li7, li8, li11, li12, li16, li24, li25, li26, li31, li32, li36, li40, li48, li52, li58, li59, li60, li63, li64, li88, li96, li130, li192, li255, li2208, li2304, li9999, li9, li13, li14, li30, li35, li44, li45, li46, li47, li97, li98, li100, li101, li104, li105, li108, li110, li111, li112, li114, li117, li122, li999999, li1000000, li2147483647, cmp0, cmpl, cmpg, cmple, cmpge, nI_leI, nI_ltI, nI_eq, rL, rI, wL, wI, ob, aLet, nI_add, pk_mul, ↓reduceIte, if_true, if_false, eq_self, Nat.reduceEqDiff, Nat.reduceLeDiff, Nat.reduceLT, Nat.one_ne_zero, Nat.zero_ne_one, Nat.add_zero, Bool.false_eq_true, nI_neq]
theorem c_luckyL {d : LD} {S : Rec} {X1 X2 X3 : Int32} {y : Int64} {kr : Rec → Int32 → Int32 → Int32 → Int64 → Option Int32} {g : Nat → Nat} (hg : ∀ t, inC d t = true → kr S X1 X2 (X3 - nI 1) (y ||| oneC t) = some (nI (g t))) : ∀ (m n : Nat) (x : Int64) (a : Nat), m < n → (∀ c, tb x c = true → inC d c = true) → cn (tb x) 64 = m → X8_luckySales_L45 S X1 X2 X3 y kr n (nI a) x (nI m) = some (nI (a + sm g (tb x) 64)) := by
  intro m
  induction m with
  | zero =>
    intro n x a hn hx h
    obtain ⟨n, rfl⟩ : ∃ z, n = z + 1 := ⟨n - 1, by omega⟩
    have e : sm g (tb x) 64 = 0 := by
      rw [sm_cong (q := fun _ => false) (fun k hk => cn_zero.mp h k hk)]
      rfl
    simp (disch := omega) only [X8_luckySales_L45, li0, li1, li2, li3, li4, li5, li6, li7, li8, li11, li12, li16, li24, li25, li26, li31, li32, li36, li40, li48, li52, li58, li59, li60, li63, li64, li88, li96, li130, li192, li255, li2208, li2304, li9999, li9, li13, li14, li30, li35, li44, li45, li46, li47, li97, li98, li100, li101, li104, li105, li108, li110, li111, li112, li114, li117, li122, li999999, li1000000, li2147483647, cmp0, cmpl, cmpg, cmple, cmpge, nI_leI, nI_ltI, nI_eq, rL, rI, wL, wI, ob, aLet, nI_add, pk_mul, ↓reduceIte, if_true, if_false, eq_self, Nat.reduceEqDiff, Nat.reduceLeDiff, Nat.reduceLT, Nat.one_ne_zero, Nat.zero_ne_one, Nat.add_zero, Bool.false_eq_true, nI_neq, Nat.le_refl, e]
  | succ m ih =>
    intro n x a hn hx h
    obtain ⟨n, rfl⟩ : ∃ z, n = z + 1 := ⟨n - 1, by omega⟩
    obtain ⟨t, h1, h2, h3, h4, h5, h6, h7, h8⟩ := walk h
    have hm : m + 1 ≤ 64 := by
      rw [← h]
      exact cn_le _ _
    have z : ¬ m + 1 ≤ 0 := by omega
    have em : nI (m + 1) + -nI 1 = nI m := pk_m1 m
    have e1 := low_one h1 h6
    have e2 := rest_one h1 h5
    have gt := hg t (hx t h2)
    have i := ih n (x &&& (x - 1)) (a + g t) (by omega) (fun c hc => hx c (by
      rcases Nat.lt_or_ge c 64 with q | q
      · rw [h5 c q, Bool.and_eq_true] at hc
        exact hc.1
      · rw [tb_big q] at hc
        cases hc)) h7
    simp (disch := omega) only [X8_luckySales_L45, e1, e2, gt, li0, li1, li2, li3, li4, li5, li6, li7, li8, li11, li12, li16, li24, li25, li26, li31, li32, li36, li40, li48, li52, li58, li59, li60, li63, li64, li88, li96, li130, li192, li255, li2208, li2304, li9999, li9, li13, li14, li30, li35, li44, li45, li46, li47, li97, li98, li100, li101, li104, li105, li108, li110, li111, li112, li114, li117, li122, li999999, li1000000, li2147483647, cmp0, cmpl, cmpg, cmple, cmpge, nI_leI, nI_ltI, nI_eq, rL, rI, wL, wI, ob, aLet, nI_add, pk_mul, ↓reduceIte, if_true, if_false, eq_self, Nat.reduceEqDiff, Nat.reduceLeDiff, Nat.reduceLT, Nat.one_ne_zero, Nat.zero_ne_one, Nat.add_zero, Bool.false_eq_true, nI_neq, z, em, i]
    rw [h8 g, Nat.add_assoc]
theorem or_0 (x : Int64) : 0 ||| x = x := tb_ext fun i _ => by rw [tb_or, tb_0, Bool.false_or]
theorem c_luckyN {d : LD} {S : Rec} (ok : okL d) (hS : LandOf d S) {X1 X2 : Int32} {y : Int64} {n f : Nat} {g : Nat → Nat} (h1 : 1 ≤ n) (h2 : n ≤ 2) (hg : ∀ t, inC d t = true → X8_luckySales f S X1 X2 (nI n - nI 1) (y ||| oneC t) = some (nI (g t))) : X8_luckySales (f + 1) S X1 X2 (nI n) y = some (nI (sm g (inC d) 64)) := by
  obtain ⟨x, hx, hb⟩ := c_every ok hS
  have hl : cn (tb x) 64 ≤ 64 := cn_le _ _
  have l := c_luckyL (g := g) hg (cn (tb x) 64) aFu x 0 (by show _ < 100000; omega) (fun c hc => by
    rcases Nat.lt_or_ge c 64 with q | q
    · rw [← hb c q]; exact hc
    · rw [tb_big q] at hc; cases hc) rfl
  rw [sm_cong (fun k hk => hb k hk), Nat.zero_add] at l
  have n0 : ¬ n ≤ 0 := by omega
  simp (disch := omega) only [X8_luckySales, hx, pc64, l, li0, li1, li2, li3, li4, li5, li6, li7, li8, li11, li12, li16, li24, li25, li26, li31, li32, li36, li40, li48, li52, li58, li59, li60, li63, li64, li88, li96, li130, li192, li255, li2208, li2304, li9999, li9, li13, li14, li30, li35, li44, li45, li46, li47, li97, li98, li100, li101, li104, li105, li108, li110, li111, li112, li114, li117, li122, li999999, li1000000, li2147483647, cmp0, cmpl, cmpg, cmple, cmpge, nI_leI, nI_ltI, nI_eq, rL, rI, wL, wI, ob, aLet, nI_add, pk_mul, ↓reduceIte, if_true, if_false, eq_self, Nat.reduceEqDiff, Nat.reduceLeDiff, Nat.reduceLT, Nat.one_ne_zero, Nat.zero_ne_one, Nat.add_zero, Bool.false_eq_true, nI_neq, n0, h2]
theorem mem_or {d : LD} {y : Int64} (hy : ∀ c, tb y c = true → inC d c = true) {t : Nat} (ht : inC d t = true) (h64 : t < 64) : ∀ c, tb (y ||| oneC t) c = true → inC d c = true := fun c hc => by
  rw [tb_or, tb_oneC h64, Bool.or_eq_true, decide_eq_true_eq] at hc
  rcases hc with q | q
  · exact hy c q
  · rw [q]; exact ht
theorem nI_s1 {n : Nat} (h : 1 ≤ n) : nI n - nI 1 = nI (n - 1) := pk_sub h
def above (d : LD) (i w : Nat) : Nat → Nat
  | 0 => lk d i w (fun _ => false)
  | 1 => sg (fun a => lk d i w (fun p => decide (p = pl (kth d a)))) (lR d * lC d)
  | _ => sg (fun b => sg (fun a => lk d i w (fun p => decide (p = pl (kth d b)) || decide (p = pl (kth d a)))) (lR d * lC d)) (lR d * lC d)
theorem cl_eq {d : LD} (ok : okL d) {t p : Nat} (ht : inC d t = true) (hp : p < 36) : (cl p = t) ↔ p = pl t := by
  have := inC_b ok ht
  unfold cl pl
  omega
theorem c_lucky {d : LD} {S : Rec} (ok : okL d) (hS : LandOf d S) {i w n : Nat} (hi : i < lH d) (hw : w < lW d) (hn : n ≤ 2) : X8_luckySales 6 S (nI i) (nI (lE d w)) (nI n) (0 : Int64) = some (nI (above d i w n)) := by
  have h0 : ∀ c, tb (0 : Int64) c = true → inC d c = true := fun c hc => by
    rw [tb_0] at hc
    cases hc
  rcases (show n = 0 ∨ n = 1 ∨ n = 2 by omega) with rfl | rfl | rfl
  · rw [c_lucky0 ok hS hi hw h0]
    exact congrArg some (congrArg nI (lk_cong ok (fun p _ => tb_0 _)))
  · rw [c_luckyN ok hS (g := fun t => lk d i w (fun p => decide (p = pl t))) (Nat.le_refl 1) (by omega) (fun t ht => by
      have hb := inC_b ok ht
      rw [nI_s1 (Nat.le_refl 1), c_lucky0 ok hS hi hw (mem_or h0 ht (by omega))]
      refine congrArg some (congrArg nI (lk_cong ok (fun p hp => ?_)))
      rw [tb_or, tb_0, Bool.false_or, tb_oneC (by omega), decide_eq_decide]
      exact cl_eq ok ht hp), sm_land ok]
    rfl
  · rw [c_luckyN ok hS (g := fun t => sm (fun u => lk d i w (fun p => decide (p = pl t) || decide (p = pl u))) (inC d) 64) (by omega) (by omega) (fun t ht => by
      have hb := inC_b ok ht
      rw [nI_s1 (by omega)]
      exact c_luckyN ok hS (n := 1) (Nat.le_refl 1) (by omega) (fun u hu => by
        have hb2 := inC_b ok hu
        rw [nI_s1 (Nat.le_refl 1), c_lucky0 ok hS hi hw (mem_or (mem_or h0 ht (by omega)) hu (by omega))]
        refine congrArg some (congrArg nI (lk_cong ok (fun p hp => ?_)))
        rw [tb_or, tb_or, tb_0, Bool.false_or, tb_oneC (by omega), tb_oneC (by omega)]
        congr 1
        · rw [decide_eq_decide]
          exact cl_eq ok ht hp
        · rw [decide_eq_decide]
          exact cl_eq ok hu hp)), sm_land ok]
    exact congrArg some (congrArg nI (sg_cong (fun b hb => by rw [sm_land ok])))
theorem row_give {d : LD} {f g : Nat → Int32} (hf : RowOf d f) {w : Nat → Nat} (h1 : ∀ j, (j < 52 ∨ 88 ≤ j) → g j = f j) (h2 : ∀ p, p < 36 → g (52 + p) = nI (w p)) (ok : okL d) : RowOf (giveD d w) g := by
  obtain ⟨b1, b2, b3, b4, b5, b6, b7, b8, b9, b10⟩ := hf
  have h6 := ok.1
  exact ⟨(h1 _ (by omega)).trans b1, (h1 _ (by omega)).trans b2, (h1 _ (by omega)).trans b3, (h1 _ (by omega)).trans b4, (h1 _ (by omega)).trans b5, fun i hi => (h1 _ (by have hi : i < lH d := hi; omega)).trans (b6 i hi), fun v hv => (h1 _ (by omega)).trans (b7 v hv), fun p hp => (h1 _ (by omega)).trans (b8 p hp), h2, fun w hw => ⟨(h1 _ (by omega)).trans (b10 w hw).1, (h1 _ (by omega)).trans (b10 w hw).2⟩⟩
theorem wadd_le {d : LD} (ok : okL d) {i : Nat} (hi : i < lH d) (T : Nat → Bool) : ∀ p, p < 36 → wadd d (i + 1) T p ≤ lH d := fun p hp => by
  unfold wadd
  split
  · omega
  · exact ok.2.2.2.2.2.2.2.2.1 p hp
theorem wadd_more (d : LD) (o : Nat) (T : Nat → Bool) (q : Nat) : wadd d o (fun p => T p || decide (p = q)) = fun p => if p = q then o else wadd d o T p := funext fun p => by
  unfold wadd
  by_cases h : p = q
  · simp [h]
  · simp [h]
/-- the places of a way: what it sells -/
def wayT (d : LD) : Nat → Nat → (Nat → Bool)
  | 0, _ => fun _ => false
  | n + 1, way => fun p => decide (p = pl (kth d (way % (lR d * lC d)))) || wayT d n (way / (lR d * lC d)) p
theorem r_cellsF {d : LD} {m Z : Rec} (ok : okL d) (hf : RowOf d (m.2.1 0)) (hF : Fr m Z) : X9_cells Z = some (nI (lR d * lC d)) := r_cellsN ok (by rw [hF.2.2.1]; exact hf)
theorem r_chance96 {d : LD} {m : Rec} (ok : okL d) (h0 : 0 < lH d) (hf : RowOf d (m.2.1 0)) {i n : Nat} (hi : i < lH d) (hn : n ≤ 2) : ∀ (e k t way : Nat) (Z : Rec) (T : Nat → Bool), k + e = n → e < t → way < 2000 → Fr m Z → RowOf (giveD d (wadd d (i + 1) T)) (Z.2.1 2) → ∃ Z', X9_chance_L96 (nI n) (nI i) t (nI way) (nI k) Z = some Z' ∧ Fr m Z' ∧ RowOf (giveD d (wadd d (i + 1) (fun p => T p || wayT d e way p))) (Z'.2.1 2) := by
  intro e
  induction e with
  | zero =>
    intro k t way Z T h1 h2 h3 hF hZ
    obtain ⟨t, rfl⟩ : ∃ z, t = z + 1 := ⟨t - 1, by omega⟩
    obtain rfl : k = n := h1
    refine ⟨Z, by simp (disch := omega) only [X9_chance_L96, li0, li1, li2, li3, li4, li5, li6, li7, li8, li11, li12, li16, li24, li25, li26, li31, li32, li36, li40, li48, li52, li58, li59, li60, li63, li64, li88, li96, li130, li192, li255, li2208, li2304, li9999, li9, li13, li14, li30, li35, li44, li45, li46, li47, li97, li98, li100, li101, li104, li105, li108, li110, li111, li112, li114, li117, li122, li999999, li1000000, li2147483647, cmp0, cmpl, cmpg, cmple, cmpge, nI_leI, nI_ltI, nI_eq, rL, rI, wL, wI, ob, aLet, nI_add, pk_mul, ↓reduceIte, if_true, if_false, eq_self, Nat.reduceEqDiff, Nat.reduceLeDiff, Nat.reduceLT, Nat.one_ne_zero, Nat.zero_ne_one, Nat.add_zero, Bool.false_eq_true, nI_neq, Nat.le_refl], hF, ?_⟩
    have e : (fun p => T p || wayT d 0 way p) = T := funext fun p => Bool.or_false _
    rw [e]
    exact hZ
  | succ e ih =>
    intro k t way Z T h1 h2 h3 hF hZ
    obtain ⟨t, rfl⟩ : ∃ z, t = z + 1 := ⟨t - 1, by omega⟩
    obtain ⟨a1, a2, a3⟩ := area ok h0
    have h : ¬ n ≤ k := by omega
    have hk : way % (lR d * lC d) < lR d * lC d := Nat.mod_lt _ a2
    have hh := kth_in ok hk
    have hb := inC_b ok hh.1
    have cN := r_cellsF ok hf hF
    have pB := r_placeBy ok (m := Z) (by rw [hF.2.2.1]; exact hf) hk
    have z0 : ¬ lR d * lC d = 0 := by omega
    have g1 : nI way - nI way / nI (lR d * lC d) * nI (lR d * lC d) = nI (way % (lR d * lC d)) := pk_rem (by omega) a2 (by omega)
    have g2 : nI way / nI (lR d * lC d) = nI (way / (lR d * lC d)) := pk_div (by omega) a2 (by omega)
    have dl : way / (lR d * lC d) ≤ way := Nat.div_le_self _ _
    have hF2 : Fr m (sA Z 2 (upd (Z.2.1 2) (52 + pl (kth d (way % (lR d * lC d)))) (nI (i + 1)))) := Fr_A hF (by omega)
    have cN2 := r_cellsF ok hf hF2
    obtain ⟨Z', i1, i2, i3⟩ := ih (k + 1) t (way / (lR d * lC d)) (sA Z 2 (upd (Z.2.1 2) (52 + pl (kth d (way % (lR d * lC d)))) (nI (i + 1)))) (fun p => T p || decide (p = pl (kth d (way % (lR d * lC d))))) (by omega) (by omega) (by omega) hF2 (by
      rw [wadd_more]
      exact row_sold (ok_give ok (wadd_le ok hi T)) hZ hb.2.2.1)
    refine ⟨Z', ?_, i2, ?_⟩
    · rw [X9_chance_L96]
      simp (disch := omega) only [li0, li1, li2, li3, li4, li5, li6, li7, li8, li11, li12, li16, li24, li25, li26, li31, li32, li36, li40, li48, li52, li58, li59, li60, li63, li64, li88, li96, li130, li192, li255, li2208, li2304, li9999, li9, li13, li14, li30, li35, li44, li45, li46, li47, li97, li98, li100, li101, li104, li105, li108, li110, li111, li112, li114, li117, li122, li999999, li1000000, li2147483647, cmp0, cmpl, cmpg, cmple, cmpge, nI_leI, nI_ltI, nI_eq, rL, rI, wL, wI, ob, aLet, nI_add, pk_mul, ↓reduceIte, if_true, if_false, eq_self, Nat.reduceEqDiff, Nat.reduceLeDiff, Nat.reduceLT, Nat.one_ne_zero, Nat.zero_ne_one, Nat.add_zero, Bool.false_eq_true, nI_neq, h, cN, z0]
      rw [g1, pB, ob, nI_add, wI (by omega) (by decide), ob, cN2, ob, if_neg (show ¬ nI (lR d * lC d) = nI 0 from nI_ne0 a2 (by omega)), g2]
      exact i1
    · have e : (fun p => (fun p => T p || decide (p = pl (kth d (way % (lR d * lC d))))) p || wayT d e (way / (lR d * lC d)) p) = (fun p => T p || wayT d (e + 1) way p) := funext fun p => by
        show (T p || _ || _) = (T p || (_ || _))
        rw [Bool.or_assoc]
      rw [← e]
      exact i3
theorem r_can2 {d : LD} {w : Nat → Nat} {f : Nat → Int32} (ok : okL (giveD d w)) (hf : RowOf (giveD d w) f) {i v : Nat} (hi : i < lH d) (hv : v < lW d) : X9_can f (nI i) (nI v) = some (if lE d v &&& sy (giveD d w) i = lE d v then 1 else 0) := r_can ok hf hi hv
theorem row_none {d : LD} {f : Nat → Int32} (o : Nat) (hf : RowOf d f) : RowOf (giveD d (wadd d o (fun _ => false))) f := by
  have e : wadd d o (fun _ => false) = lO d := funext fun p => if_neg (by simp)
  rw [e]
  exact hf
theorem r_chance78 {d : LD} {m : Rec} (ok : okL d) (h0 : 0 < lH d) (hf : RowOf d (m.2.1 0)) {i n w : Nat} (hi : i < lH d) (hw : w < lW d) (hn : n ≤ 2) {B : Nat} (hB : B ≤ 1296) : ∃ Z, X9_chance_L78 (nI B) (nI n) (nI i) (nI w) aFu (nI 0) (nI 0) m = some (nI (sg (fun way => lk d i w (wayT d n way)) B), Z) ∧ Fr m Z := by
  obtain ⟨e, c1, c2, c3⟩ := forUpE (fun t j (s : Int32 × Rec) => X9_chance_L78 (nI B) (nI n) (nI i) (nI w) t s.1 j s.2) B (fun k e => e.1 = nI (sg (fun way => lk d i w (wayT d n way)) k) ∧ Fr m e.2) (fun e => e.1 = nI (sg (fun way => lk d i w (wayT d n way)) B) ∧ Fr m e.2) (fun t k e hk hI => by
      obtain ⟨e1, e2⟩ := hI
      have h : ¬ B ≤ k := by omega
      have hf0 : RowOf d (e.2.2.1 0) := by rw [e2.2.2.1]; exact hf
      obtain ⟨Z', i1, i2, i3⟩ := r_chance96 ok h0 hf hi hn n 0 aFu k (sA e.2 2 (laid (e.2.2.1 0) (e.2.2.1 2) 96)) (fun _ => false) (by omega) (by show _ < 100000; omega) (by omega) (Fr_trans e2 (fr_lay e.2)) (row_none _ (row_laid ok hf0))
      have eT : (fun p => (fun _ => false) p || wayT d n k p) = wayT d n k := funext fun p => Bool.false_or _
      rw [eT] at i3
      have rc := r_can2 (ok_give ok (wadd_le ok hi _)) i3 hi hw
      refine ⟨(nI (sg (fun way => lk d i w (wayT d n way)) (k + 1)), Z'), ?_, rfl, i2⟩
      dsimp only
      rw [e1, sg]
      unfold lk
      by_cases z : lE d w &&& sy (giveD d (wadd d (i + 1) (wayT d n k))) i = lE d w
      · rw [if_pos z] at rc
        rw [if_pos z]
        simp (disch := omega) only [X9_chance_L78, r_lay, i1, rc, li0, li1, li2, li3, li4, li5, li6, li7, li8, li11, li12, li16, li24, li25, li26, li31, li32, li36, li40, li48, li52, li58, li59, li60, li63, li64, li88, li96, li130, li192, li255, li2208, li2304, li9999, li9, li13, li14, li30, li35, li44, li45, li46, li47, li97, li98, li100, li101, li104, li105, li108, li110, li111, li112, li114, li117, li122, li999999, li1000000, li2147483647, cmp0, cmpl, cmpg, cmple, cmpge, nI_leI, nI_ltI, nI_eq, rL, rI, wL, wI, ob, aLet, nI_add, pk_mul, ↓reduceIte, if_true, if_false, eq_self, Nat.reduceEqDiff, Nat.reduceLeDiff, Nat.reduceLT, Nat.one_ne_zero, Nat.zero_ne_one, Nat.add_zero, Bool.false_eq_true, nI_neq, h]
      · rw [if_neg z] at rc
        rw [if_neg z]
        simp (disch := omega) only [X9_chance_L78, r_lay, i1, rc, li0, li1, li2, li3, li4, li5, li6, li7, li8, li11, li12, li16, li24, li25, li26, li31, li32, li36, li40, li48, li52, li58, li59, li60, li63, li64, li88, li96, li130, li192, li255, li2208, li2304, li9999, li9, li13, li14, li30, li35, li44, li45, li46, li47, li97, li98, li100, li101, li104, li105, li108, li110, li111, li112, li114, li117, li122, li999999, li1000000, li2147483647, cmp0, cmpl, cmpg, cmple, cmpge, nI_leI, nI_ltI, nI_eq, rL, rI, wL, wI, ob, aLet, nI_add, pk_mul, ↓reduceIte, if_true, if_false, eq_self, Nat.reduceEqDiff, Nat.reduceLeDiff, Nat.reduceLT, Nat.one_ne_zero, Nat.zero_ne_one, Nat.add_zero, Bool.false_eq_true, nI_neq, h]) (fun t e hI => ⟨e, by simp (disch := omega) only [X9_chance_L78, li0, li1, li2, li3, li4, li5, li6, li7, li8, li11, li12, li16, li24, li25, li26, li31, li32, li36, li40, li48, li52, li58, li59, li60, li63, li64, li88, li96, li130, li192, li255, li2208, li2304, li9999, li9, li13, li14, li30, li35, li44, li45, li46, li47, li97, li98, li100, li101, li104, li105, li108, li110, li111, li112, li114, li117, li122, li999999, li1000000, li2147483647, cmp0, cmpl, cmpg, cmple, cmpge, nI_leI, nI_ltI, nI_eq, rL, rI, wL, wI, ob, aLet, nI_add, pk_mul, ↓reduceIte, if_true, if_false, eq_self, Nat.reduceEqDiff, Nat.reduceLeDiff, Nat.reduceLT, Nat.one_ne_zero, Nat.zero_ne_one, Nat.add_zero, Bool.false_eq_true, nI_neq, Nat.le_refl], hI⟩) B 0 aFu (nI 0, m) (by omega) (by show _ < 100000; omega) ⟨rfl, Fr_refl m⟩
  refine ⟨e.2, ?_, c3⟩
  have c1 : X9_chance_L78 (nI B) (nI n) (nI i) (nI w) aFu (nI 0) (nI 0) m = some e := c1
  rw [c1, ← c2]
/-- the sum over ways, as the program has it -/
theorem above_way {d : LD} (ok : okL d) (h0 : 0 < lH d) (i w : Nat) {n : Nat} (hn : n ≤ 2) : sg (fun way => lk d i w (wayT d n way)) ((lR d * lC d) ^ n) = above d i w n := by
  obtain ⟨a1, a2, a3⟩ := area ok h0
  rcases (show n = 0 ∨ n = 1 ∨ n = 2 by omega) with rfl | rfl | rfl
  · rw [Nat.pow_zero]
    show 0 + lk d i w (wayT d 0 0) = _
    rw [Nat.zero_add]
    rfl
  · rw [Nat.pow_one]
    refine sg_cong (fun k hk => ?_)
    show lk d i w (fun p => decide (p = pl (kth d (k % (lR d * lC d)))) || false) = lk d i w (fun p => decide (p = pl (kth d k)))
    rw [Nat.mod_eq_of_lt hk]
    exact lk_cong ok (fun p _ => Bool.or_false _)
  · have two : ∀ b, sg (fun way => lk d i w (wayT d 2 way)) (b * (lR d * lC d)) = sg (fun b => sg (fun a => lk d i w (fun p => decide (p = pl (kth d (b % (lR d * lC d)))) || decide (p = pl (kth d a)))) (lR d * lC d)) b := fun b => by
      induction b with
      | zero => rw [Nat.zero_mul]; rfl
      | succ b ih =>
        rw [Nat.succ_mul, sg_add, ih, sg]
        refine congrArg (HAdd.hAdd _) (sg_cong (fun k hk => ?_))
        show lk d i w (fun p => decide (p = pl (kth d ((b * (lR d * lC d) + k) % (lR d * lC d)))) || (decide (p = pl (kth d ((b * (lR d * lC d) + k) / (lR d * lC d) % (lR d * lC d)))) || false)) = _
        rw [show (b * (lR d * lC d) + k) / (lR d * lC d) = b by rw [Nat.add_comm, Nat.add_mul_div_right _ _ a2, Nat.div_eq_of_lt hk, Nat.zero_add], show (b * (lR d * lC d) + k) % (lR d * lC d) = k by rw [Nat.add_comm, Nat.add_mul_mod_self_right, Nat.mod_eq_of_lt hk]]
        exact lk_cong ok (fun p _ => by rw [Bool.or_false, Bool.or_comm])
    rw [Nat.pow_two, two]
    exact sg_cong (fun b hb => by rw [Nat.mod_eq_of_lt hb])
/-- the greatest common part: both ways to have it -/
theorem gcd_run : ∀ k a b, b < 2 ^ k → a < 2 ^ 31 → b < 2 ^ 31 → ∀ l n1 n2, 2 * k < l → l < 1000 → l < n1 → 2 * k < n2 → X8_commonDivisor_L8 n1 (nI a) (nI b) (nI l) = some (nI (Nat.gcd b a)) ∧ X9_chance_L175 n2 (nI a) (nI b) = some (nI (Nat.gcd b a)) := by
  have step : ∀ a b, 0 < b → a < 2 ^ 31 → b < 2 ^ 31 → ∀ l n1 n2, 0 < l → l < 1000 → X8_commonDivisor_L8 (n1 + 1) (nI a) (nI b) (nI l) = X8_commonDivisor_L8 n1 (nI b) (nI (a % b)) (nI (l - 1)) ∧ X9_chance_L175 (n2 + 1) (nI a) (nI b) = X9_chance_L175 n2 (nI b) (nI (a % b)) := by
    intro a b hb h1 h2 l n1 n2 hl hl2
    have z : ¬ l ≤ 0 := by omega
    have b0 : ¬ b = 0 := by omega
    have r := pk_rem (a := a) (d := b) h1 hb h2
    obtain ⟨l, rfl⟩ : ∃ z, l = z + 1 := ⟨l - 1, by omega⟩
    have em : nI (l + 1) + -nI 1 = nI l := pk_m1 l
    refine ⟨?_, ?_⟩
    · rw [X8_commonDivisor_L8, if_neg (nI_nle (by omega) (by omega)), if_neg (nI_ne0 hb h2), if_neg (nI_ne0 hb h2), aLet, aLet, r, show (-1 : Int32) = -nI 1 from rfl, em]
      rfl
    · rw [X9_chance_L175, if_neg (nI_ne0 hb h2), if_neg (nI_ne0 hb h2), aLet, r]
  have stop : ∀ a l n1 n2, 0 < l → l < 1000 → X8_commonDivisor_L8 (n1 + 1) (nI a) (nI 0) (nI l) = some (nI a) ∧ X9_chance_L175 (n2 + 1) (nI a) (nI 0) = some (nI a) := by
    intro a l n1 n2 hl hl2
    have z : ¬ l ≤ 0 := by omega
    refine ⟨?_, ?_⟩
    · simp (disch := omega) only [X8_commonDivisor_L8, li0, li1, li2, li3, li4, li5, li6, li7, li8, li11, li12, li16, li24, li25, li26, li31, li32, li36, li40, li48, li52, li58, li59, li60, li63, li64, li88, li96, li130, li192, li255, li2208, li2304, li9999, li9, li13, li14, li30, li35, li44, li45, li46, li47, li97, li98, li100, li101, li104, li105, li108, li110, li111, li112, li114, li117, li122, li999999, li1000000, li2147483647, cmp0, cmpl, cmpg, cmple, cmpge, nI_leI, nI_ltI, nI_eq, rL, rI, wL, wI, ob, aLet, nI_add, pk_mul, ↓reduceIte, if_true, if_false, eq_self, Nat.reduceEqDiff, Nat.reduceLeDiff, Nat.reduceLT, Nat.one_ne_zero, Nat.zero_ne_one, Nat.add_zero, Bool.false_eq_true, nI_neq, z]
    · simp (disch := omega) only [X9_chance_L175, li0, li1, li2, li3, li4, li5, li6, li7, li8, li11, li12, li16, li24, li25, li26, li31, li32, li36, li40, li48, li52, li58, li59, li60, li63, li64, li88, li96, li130, li192, li255, li2208, li2304, li9999, li9, li13, li14, li30, li35, li44, li45, li46, li47, li97, li98, li100, li101, li104, li105, li108, li110, li111, li112, li114, li117, li122, li999999, li1000000, li2147483647, cmp0, cmpl, cmpg, cmple, cmpge, nI_leI, nI_ltI, nI_eq, rL, rI, wL, wI, ob, aLet, nI_add, pk_mul, ↓reduceIte, if_true, if_false, eq_self, Nat.reduceEqDiff, Nat.reduceLeDiff, Nat.reduceLT, Nat.one_ne_zero, Nat.zero_ne_one, Nat.add_zero, Bool.false_eq_true, nI_neq]
  intro k
  induction k with
  | zero =>
    intro a b h1 h2 h3 l n1 n2 h4 h5 h6 h7
    obtain ⟨n1, rfl⟩ : ∃ z, n1 = z + 1 := ⟨n1 - 1, by omega⟩
    obtain ⟨n2, rfl⟩ : ∃ z, n2 = z + 1 := ⟨n2 - 1, by omega⟩
    obtain rfl : b = 0 := by
      rw [Nat.pow_zero] at h1
      omega
    rw [Nat.gcd_zero_left]
    exact stop a l n1 n2 (by omega) h5
  | succ k ih =>
    intro a b h1 h2 h3 l n1 n2 h4 h5 h6 h7
    obtain ⟨n1, rfl⟩ : ∃ z, n1 = z + 2 := ⟨n1 - 2, by omega⟩
    obtain ⟨n2, rfl⟩ : ∃ z, n2 = z + 2 := ⟨n2 - 2, by omega⟩
    by_cases b0 : b = 0
    · subst b0
      rw [Nat.gcd_zero_left]
      exact stop a l (n1 + 1) (n2 + 1) (by omega) h5
    · have s1 := step a b (by omega) h2 h3 l (n1 + 1) (n2 + 1) (by omega) h5
      have m1 : a % b < b := Nat.mod_lt _ (by omega)
      rw [Nat.gcd_rec, s1.1, s1.2]
      by_cases c0 : a % b = 0
      · rw [c0, Nat.gcd_zero_left]
        exact stop b (l - 1) n1 n2 (by omega) (by omega)
      · have s2 := step b (a % b) (by omega) h3 (by omega) (l - 1) n1 n2 (by omega) (by omega)
        have m2 : b % (a % b) < a % b := Nat.mod_lt _ (by omega)
        have half : b % (a % b) < 2 ^ k := by
          rw [Nat.pow_succ] at h1
          have e := Nat.div_add_mod b (a % b)
          have q1 : 1 ≤ b / (a % b) := (Nat.one_le_div_iff (by omega)).mpr (by omega)
          have : a % b ≤ a % b * (b / (a % b)) := Nat.le_mul_of_pos_right _ q1
          omega
        rw [Nat.gcd_rec, s2.1, s2.2]
        exact ih (a % b) (b % (a % b)) half (by omega) (by omega) (l - 1 - 1) n1 n2 (by omega) (by omega) (by omega) (by omega)
theorem sg_le {g : Nat → Nat} {M : Nat} (h : ∀ k, g k ≤ M) : ∀ n, sg g n ≤ n * M
  | 0 => Nat.zero_le _
  | n + 1 => by
    have := sg_le h n
    have := h n
    rw [sg, Nat.succ_mul]
    omega
theorem q_chance {d : LD} {S m : Rec} (ok : okL d) (hS : LandOf d S) (hf : RowOf d (m.2.1 0)) (x1 x2 x3 x4 : Int32) : ∃ r m', X8_chance S x1 x2 x3 x4 = some r ∧ X9_chance m x1 x2 x3 x4 = some (r, m') ∧ Fr m m' := by
  have h6 := ok.1
  have h4 := ok.2.2.2.2.1
  rcases hcase ok hS hf x1 with ⟨a, b⟩ | ⟨i, hi, rfl, a, b⟩
  · refine ⟨-nI 1, m, ?_, ?_, Fr_refl m⟩
    · simp (disch := omega) only [X8_chance, a, li0, li1, li2, li3, li4, li5, li6, li7, li8, li11, li12, li16, li24, li25, li26, li31, li32, li36, li40, li48, li52, li58, li59, li60, li63, li64, li88, li96, li130, li192, li255, li2208, li2304, li9999, li9, li13, li14, li30, li35, li44, li45, li46, li47, li97, li98, li100, li101, li104, li105, li108, li110, li111, li112, li114, li117, li122, li999999, li1000000, li2147483647, cmp0, cmpl, cmpg, cmple, cmpge, nI_leI, nI_ltI, nI_eq, rL, rI, wL, wI, ob, aLet, nI_add, pk_mul, ↓reduceIte, if_true, if_false, eq_self, Nat.reduceEqDiff, Nat.reduceLeDiff, Nat.reduceLT, Nat.one_ne_zero, Nat.zero_ne_one, Nat.add_zero, Bool.false_eq_true, nI_neq]
    · simp (disch := omega) only [X9_chance, b, li0, li1, li2, li3, li4, li5, li6, li7, li8, li11, li12, li16, li24, li25, li26, li31, li32, li36, li40, li48, li52, li58, li59, li60, li63, li64, li88, li96, li130, li192, li255, li2208, li2304, li9999, li9, li13, li14, li30, li35, li44, li45, li46, li47, li97, li98, li100, li101, li104, li105, li108, li110, li111, li112, li114, li117, li122, li999999, li1000000, li2147483647, cmp0, cmpl, cmpg, cmple, cmpge, nI_leI, nI_ltI, nI_eq, rL, rI, wL, wI, ob, aLet, nI_add, pk_mul, ↓reduceIte, if_true, if_false, eq_self, Nat.reduceEqDiff, Nat.reduceLeDiff, Nat.reduceLT, Nat.one_ne_zero, Nat.zero_ne_one, Nat.add_zero, Bool.false_eq_true, nI_neq]
  rcases wcase ok hS hf x2 with ⟨e, f⟩ | ⟨w, hw, rfl, e, f⟩
  · refine ⟨-nI 1, m, ?_, ?_, Fr_refl m⟩
    · simp (disch := omega) only [X8_chance, a, e, li0, li1, li2, li3, li4, li5, li6, li7, li8, li11, li12, li16, li24, li25, li26, li31, li32, li36, li40, li48, li52, li58, li59, li60, li63, li64, li88, li96, li130, li192, li255, li2208, li2304, li9999, li9, li13, li14, li30, li35, li44, li45, li46, li47, li97, li98, li100, li101, li104, li105, li108, li110, li111, li112, li114, li117, li122, li999999, li1000000, li2147483647, cmp0, cmpl, cmpg, cmple, cmpge, nI_leI, nI_ltI, nI_eq, rL, rI, wL, wI, ob, aLet, nI_add, pk_mul, ↓reduceIte, if_true, if_false, eq_self, Nat.reduceEqDiff, Nat.reduceLeDiff, Nat.reduceLT, Nat.one_ne_zero, Nat.zero_ne_one, Nat.add_zero, Bool.false_eq_true, nI_neq]
    · simp (disch := omega) only [X9_chance, b, f, li0, li1, li2, li3, li4, li5, li6, li7, li8, li11, li12, li16, li24, li25, li26, li31, li32, li36, li40, li48, li52, li58, li59, li60, li63, li64, li88, li96, li130, li192, li255, li2208, li2304, li9999, li9, li13, li14, li30, li35, li44, li45, li46, li47, li97, li98, li100, li101, li104, li105, li108, li110, li111, li112, li114, li117, li122, li999999, li1000000, li2147483647, cmp0, cmpl, cmpg, cmple, cmpge, nI_leI, nI_ltI, nI_eq, rL, rI, wL, wI, ob, aLet, nI_add, pk_mul, ↓reduceIte, if_true, if_false, eq_self, Nat.reduceEqDiff, Nat.reduceLeDiff, Nat.reduceLT, Nat.one_ne_zero, Nat.zero_ne_one, Nat.add_zero, Bool.false_eq_true, nI_neq]
  rcases rg_0_2 x3 with ⟨g, h, -⟩ | ⟨n, -, hn, rfl, g, h⟩
  · refine ⟨-nI 1, m, ?_, ?_, Fr_refl m⟩
    · simp (disch := omega) only [X8_chance, a, e, g, li0, li1, li2, li3, li4, li5, li6, li7, li8, li11, li12, li16, li24, li25, li26, li31, li32, li36, li40, li48, li52, li58, li59, li60, li63, li64, li88, li96, li130, li192, li255, li2208, li2304, li9999, li9, li13, li14, li30, li35, li44, li45, li46, li47, li97, li98, li100, li101, li104, li105, li108, li110, li111, li112, li114, li117, li122, li999999, li1000000, li2147483647, cmp0, cmpl, cmpg, cmple, cmpge, nI_leI, nI_ltI, nI_eq, rL, rI, wL, wI, ob, aLet, nI_add, pk_mul, ↓reduceIte, if_true, if_false, eq_self, Nat.reduceEqDiff, Nat.reduceLeDiff, Nat.reduceLT, Nat.one_ne_zero, Nat.zero_ne_one, Nat.add_zero, Bool.false_eq_true, nI_neq]
    · simp (disch := omega) only [X9_chance, b, f, h, li0, li1, li2, li3, li4, li5, li6, li7, li8, li11, li12, li16, li24, li25, li26, li31, li32, li36, li40, li48, li52, li58, li59, li60, li63, li64, li88, li96, li130, li192, li255, li2208, li2304, li9999, li9, li13, li14, li30, li35, li44, li45, li46, li47, li97, li98, li100, li101, li104, li105, li108, li110, li111, li112, li114, li117, li122, li999999, li1000000, li2147483647, cmp0, cmpl, cmpg, cmple, cmpge, nI_leI, nI_ltI, nI_eq, rL, rI, wL, wI, ob, aLet, nI_add, pk_mul, ↓reduceIte, if_true, if_false, eq_self, Nat.reduceEqDiff, Nat.reduceLeDiff, Nat.reduceLT, Nat.one_ne_zero, Nat.zero_ne_one, Nat.add_zero, Bool.false_eq_true, nI_neq]
  rcases rg_0_1 x4 with ⟨g2, h2, -⟩ | ⟨q, -, hq, rfl, g2, h2⟩
  · refine ⟨-nI 1, m, ?_, ?_, Fr_refl m⟩
    · simp (disch := omega) only [X8_chance, a, e, g, g2, li0, li1, li2, li3, li4, li5, li6, li7, li8, li11, li12, li16, li24, li25, li26, li31, li32, li36, li40, li48, li52, li58, li59, li60, li63, li64, li88, li96, li130, li192, li255, li2208, li2304, li9999, li9, li13, li14, li30, li35, li44, li45, li46, li47, li97, li98, li100, li101, li104, li105, li108, li110, li111, li112, li114, li117, li122, li999999, li1000000, li2147483647, cmp0, cmpl, cmpg, cmple, cmpge, nI_leI, nI_ltI, nI_eq, rL, rI, wL, wI, ob, aLet, nI_add, pk_mul, ↓reduceIte, if_true, if_false, eq_self, Nat.reduceEqDiff, Nat.reduceLeDiff, Nat.reduceLT, Nat.one_ne_zero, Nat.zero_ne_one, Nat.add_zero, Bool.false_eq_true, nI_neq]
    · simp (disch := omega) only [X9_chance, b, f, h, h2, li0, li1, li2, li3, li4, li5, li6, li7, li8, li11, li12, li16, li24, li25, li26, li31, li32, li36, li40, li48, li52, li58, li59, li60, li63, li64, li88, li96, li130, li192, li255, li2208, li2304, li9999, li9, li13, li14, li30, li35, li44, li45, li46, li47, li97, li98, li100, li101, li104, li105, li108, li110, li111, li112, li114, li117, li122, li999999, li1000000, li2147483647, cmp0, cmpl, cmpg, cmple, cmpge, nI_leI, nI_ltI, nI_eq, rL, rI, wL, wI, ob, aLet, nI_add, pk_mul, ↓reduceIte, if_true, if_false, eq_self, Nat.reduceEqDiff, Nat.reduceLeDiff, Nat.reduceLT, Nat.one_ne_zero, Nat.zero_ne_one, Nat.add_zero, Bool.false_eq_true, nI_neq]
  have h0 : 0 < lH d := by omega
  obtain ⟨a1, a2, a3⟩ := area ok h0
  have kE := (hS.2.2.2.2.2.2.2.2.2 w hw).2
  have lu := c_lucky ok hS hi hw hn
  have cN := c_cellsN hS
  have pw : ∀ k, k ≤ 2 → (lR d * lC d) ^ k ≤ 1296 ∧ 0 < (lR d * lC d) ^ k := fun k hk => by
    refine ⟨?_, Nat.pow_pos a2⟩
    have : (lR d * lC d) ^ k ≤ 36 ^ k := Nat.pow_le_pow_left a3 k
    have : 36 ^ k ≤ 36 ^ 2 := Nat.pow_le_pow_right (by decide) hk
    omega
  have l72 := forUp (fun t j s => X8_chance_L72 (nI n) S t s j) n (fun k => nI ((lR d * lC d) ^ k)) (some (nI ((lR d * lC d) ^ n))) (fun t k hk => by
    have h : ¬ n ≤ k := by omega
    simp (disch := omega) only [X8_chance_L72, cN, li0, li1, li2, li3, li4, li5, li6, li7, li8, li11, li12, li16, li24, li25, li26, li31, li32, li36, li40, li48, li52, li58, li59, li60, li63, li64, li88, li96, li130, li192, li255, li2208, li2304, li9999, li9, li13, li14, li30, li35, li44, li45, li46, li47, li97, li98, li100, li101, li104, li105, li108, li110, li111, li112, li114, li117, li122, li999999, li1000000, li2147483647, cmp0, cmpl, cmpg, cmple, cmpge, nI_leI, nI_ltI, nI_eq, rL, rI, wL, wI, ob, aLet, nI_add, pk_mul, ↓reduceIte, if_true, if_false, eq_self, Nat.reduceEqDiff, Nat.reduceLeDiff, Nat.reduceLT, Nat.one_ne_zero, Nat.zero_ne_one, Nat.add_zero, Bool.false_eq_true, nI_neq, h]
    rw [Nat.pow_succ]) (fun t => by simp (disch := omega) only [X8_chance_L72, li0, li1, li2, li3, li4, li5, li6, li7, li8, li11, li12, li16, li24, li25, li26, li31, li32, li36, li40, li48, li52, li58, li59, li60, li63, li64, li88, li96, li130, li192, li255, li2208, li2304, li9999, li9, li13, li14, li30, li35, li44, li45, li46, li47, li97, li98, li100, li101, li104, li105, li108, li110, li111, li112, li114, li117, li122, li999999, li1000000, li2147483647, cmp0, cmpl, cmpg, cmple, cmpge, nI_leI, nI_ltI, nI_eq, rL, rI, wL, wI, ob, aLet, nI_add, pk_mul, ↓reduceIte, if_true, if_false, eq_self, Nat.reduceEqDiff, Nat.reduceLeDiff, Nat.reduceLT, Nat.one_ne_zero, Nat.zero_ne_one, Nat.add_zero, Bool.false_eq_true, nI_neq, Nat.le_refl]) n 0 aFu (by omega) (by show _ < 100000; omega)
  have l72 : X8_chance_L72 (nI n) S aFu (nI 1) (nI 0) = some (nI ((lR d * lC d) ^ n)) := l72
  obtain ⟨Z, r78, rF⟩ := r_chance78 ok h0 hf hi hw hn (pw n hn).1
  rw [above_way ok h0 i w hn] at r78
  have ab : above d i w n ≤ 1296 := by
    rw [← above_way ok h0 i w hn]
    have := sg_le (g := fun way => lk d i w (wayT d n way)) (M := 1) (fun k => by
      show lk d i w (wayT d n k) ≤ 1
      unfold lk
      split <;> omega) ((lR d * lC d) ^ n)
    have := (pw n hn).1
    omega
  have B1 := (pw n hn).1
  have B0 := (pw n hn).2
  have rcN := r_cellsN ok hf
  generalize hBB : (lR d * lC d) ^ n = B at *
  generalize hAA : above d i w n = A at *
  obtain ⟨gc, _⟩ := gcd_run 11 A B (by omega) (by omega) (by omega) 64 aFu aFu (by omega) (by omega) (by decide) (by decide)
  obtain ⟨_, gr⟩ := gcd_run 11 A B (by omega) (by omega) (by omega) 64 aFu aFu (by omega) (by omega) (by decide) (by decide)
  have gp : 0 < Nat.gcd B A := Nat.gcd_pos_of_pos_left _ B0
  have gl : Nat.gcd B A ≤ B := Nat.gcd_le_left _ B0
  have g0 : ¬ Nat.gcd B A = 0 := by omega
  generalize Nat.gcd B A = G at *
  have cd : X8_commonDivisor (nI A) (nI B) = some (nI G) := by
    simp (disch := omega) only [X8_commonDivisor, gc, li0, li1, li2, li3, li4, li5, li6, li7, li8, li11, li12, li16, li24, li25, li26, li31, li32, li36, li40, li48, li52, li58, li59, li60, li63, li64, li88, li96, li130, li192, li255, li2208, li2304, li9999, li9, li13, li14, li30, li35, li44, li45, li46, li47, li97, li98, li100, li101, li104, li105, li108, li110, li111, li112, li114, li117, li122, li999999, li1000000, li2147483647, cmp0, cmpl, cmpg, cmple, cmpge, nI_leI, nI_ltI, nI_eq, rL, rI, wL, wI, ob, aLet, nI_add, pk_mul, ↓reduceIte, if_true, if_false, eq_self, Nat.reduceEqDiff, Nat.reduceLeDiff, Nat.reduceLT, Nat.one_ne_zero, Nat.zero_ne_one, Nat.add_zero, Bool.false_eq_true, nI_neq]
  have J : ∀ x4, X9_chance_J70 (nI n) (nI i) (nI w) m x4 (nI B) = if x4 = 0 then some (nI (A / G), Z) else some (nI (B / G), Z) := fun x4 => by
    unfold X9_chance_J70
    simp (disch := omega) only [r78, gr, g0, pk_div, li0, li1, li2, li3, li4, li5, li6, li7, li8, li11, li12, li16, li24, li25, li26, li31, li32, li36, li40, li48, li52, li58, li59, li60, li63, li64, li88, li96, li130, li192, li255, li2208, li2304, li9999, li9, li13, li14, li30, li35, li44, li45, li46, li47, li97, li98, li100, li101, li104, li105, li108, li110, li111, li112, li114, li117, li122, li999999, li1000000, li2147483647, cmp0, cmpl, cmpg, cmple, cmpge, nI_leI, nI_ltI, nI_eq, rL, rI, wL, wI, ob, aLet, nI_add, pk_mul, ↓reduceIte, if_true, if_false, eq_self, Nat.reduceEqDiff, Nat.reduceLeDiff, Nat.reduceLT, Nat.one_ne_zero, Nat.zero_ne_one, Nat.add_zero, Bool.false_eq_true, nI_neq]
    rfl
  have R : ∀ x4, X9_in x4.toInt64 (0 : Int64) (1 : Int64) = nI 1 → X9_chance m (nI i) (nI w) (nI n) x4 = X9_chance_J70 (nI n) (nI i) (nI w) m x4 (nI B) := fun x4 hx => by
    rcases (show n = 0 ∨ n = 1 ∨ n = 2 by omega) with rfl | rfl | rfl
    · rw [Nat.pow_zero] at hBB
      subst hBB
      simp (disch := omega) only [X9_chance, b, f, h, hx, li0, li1, li2, li3, li4, li5, li6, li7, li8, li11, li12, li16, li24, li25, li26, li31, li32, li36, li40, li48, li52, li58, li59, li60, li63, li64, li88, li96, li130, li192, li255, li2208, li2304, li9999, li9, li13, li14, li30, li35, li44, li45, li46, li47, li97, li98, li100, li101, li104, li105, li108, li110, li111, li112, li114, li117, li122, li999999, li1000000, li2147483647, cmp0, cmpl, cmpg, cmple, cmpge, nI_leI, nI_ltI, nI_eq, rL, rI, wL, wI, ob, aLet, nI_add, pk_mul, ↓reduceIte, if_true, if_false, eq_self, Nat.reduceEqDiff, Nat.reduceLeDiff, Nat.reduceLT, Nat.one_ne_zero, Nat.zero_ne_one, Nat.add_zero, Bool.false_eq_true, nI_neq]
    · rw [Nat.pow_one] at hBB
      subst hBB
      simp (disch := omega) only [X9_chance, b, f, h, hx, rcN, li0, li1, li2, li3, li4, li5, li6, li7, li8, li11, li12, li16, li24, li25, li26, li31, li32, li36, li40, li48, li52, li58, li59, li60, li63, li64, li88, li96, li130, li192, li255, li2208, li2304, li9999, li9, li13, li14, li30, li35, li44, li45, li46, li47, li97, li98, li100, li101, li104, li105, li108, li110, li111, li112, li114, li117, li122, li999999, li1000000, li2147483647, cmp0, cmpl, cmpg, cmple, cmpge, nI_leI, nI_ltI, nI_eq, rL, rI, wL, wI, ob, aLet, nI_add, pk_mul, ↓reduceIte, if_true, if_false, eq_self, Nat.reduceEqDiff, Nat.reduceLeDiff, Nat.reduceLT, Nat.one_ne_zero, Nat.zero_ne_one, Nat.add_zero, Bool.false_eq_true, nI_neq]
    · rw [Nat.pow_two] at hBB
      subst hBB
      simp (disch := omega) only [X9_chance, b, f, h, hx, rcN, li0, li1, li2, li3, li4, li5, li6, li7, li8, li11, li12, li16, li24, li25, li26, li31, li32, li36, li40, li48, li52, li58, li59, li60, li63, li64, li88, li96, li130, li192, li255, li2208, li2304, li9999, li9, li13, li14, li30, li35, li44, li45, li46, li47, li97, li98, li100, li101, li104, li105, li108, li110, li111, li112, li114, li117, li122, li999999, li1000000, li2147483647, cmp0, cmpl, cmpg, cmple, cmpge, nI_leI, nI_ltI, nI_eq, rL, rI, wL, wI, ob, aLet, nI_add, pk_mul, ↓reduceIte, if_true, if_false, eq_self, Nat.reduceEqDiff, Nat.reduceLeDiff, Nat.reduceLT, Nat.one_ne_zero, Nat.zero_ne_one, Nat.add_zero, Bool.false_eq_true, nI_neq]
  rcases (show q = 0 ∨ q = 1 by omega) with rfl | rfl
  · refine ⟨nI (A / G), Z, ?_, ?_, rF⟩
    · simp (disch := omega) only [X8_chance, a, e, g, g2, kE, lu, l72, cd, gp, g0, pk_div, li0, li1, li2, li3, li4, li5, li6, li7, li8, li11, li12, li16, li24, li25, li26, li31, li32, li36, li40, li48, li52, li58, li59, li60, li63, li64, li88, li96, li130, li192, li255, li2208, li2304, li9999, li9, li13, li14, li30, li35, li44, li45, li46, li47, li97, li98, li100, li101, li104, li105, li108, li110, li111, li112, li114, li117, li122, li999999, li1000000, li2147483647, cmp0, cmpl, cmpg, cmple, cmpge, nI_leI, nI_ltI, nI_eq, rL, rI, wL, wI, ob, aLet, nI_add, pk_mul, ↓reduceIte, if_true, if_false, eq_self, Nat.reduceEqDiff, Nat.reduceLeDiff, Nat.reduceLT, Nat.one_ne_zero, Nat.zero_ne_one, Nat.add_zero, Bool.false_eq_true, nI_neq]
    · rw [R _ h2, J]
      rfl
  · refine ⟨nI (B / G), Z, ?_, ?_, rF⟩
    · simp (disch := omega) only [X8_chance, a, e, g, g2, kE, lu, l72, cd, gp, g0, pk_div, li0, li1, li2, li3, li4, li5, li6, li7, li8, li11, li12, li16, li24, li25, li26, li31, li32, li36, li40, li48, li52, li58, li59, li60, li63, li64, li88, li96, li130, li192, li255, li2208, li2304, li9999, li9, li13, li14, li30, li35, li44, li45, li46, li47, li97, li98, li100, li101, li104, li105, li108, li110, li111, li112, li114, li117, li122, li999999, li1000000, li2147483647, cmp0, cmpl, cmpg, cmple, cmpge, nI_leI, nI_ltI, nI_eq, rL, rI, wL, wI, ob, aLet, nI_add, pk_mul, ↓reduceIte, if_true, if_false, eq_self, Nat.reduceEqDiff, Nat.reduceLeDiff, Nat.reduceLT, Nat.one_ne_zero, Nat.zero_ne_one, Nat.add_zero, Bool.false_eq_true, nI_neq]
    · rw [R _ h2, J]
      rfl
theorem eq_chance {c : CSt} {m : Rec} (hI : Inv c m) (x1 : Int32) (x2 : Int32) (x3 : Int32) (x4 : Int32) : ∃ (r : Int32) (c1 : CSt) (m1 : Rec), stC_chance c x1 x2 x3 x4 = some (r, c1) ∧ stM_chance m x1 x2 x3 x4 = some (r, m1) ∧ Inv c1 m1 := by
  obtain ⟨d, ok, hy, hS, hf⟩ := hI.1
  obtain ⟨r, m', a, b, hF⟩ := q_chance ok hS hf x1 x2 x3 x4
  exact ⟨r, c, m', by unfold stC_chance; rw [a]; rfl, by unfold stM_chance; rw [b]; rfl, inv_fr hI hF (c_trial c) (c_earlier c) (c_sets c) (c_survey c) (c_marriages c) (c_finder c)⟩
