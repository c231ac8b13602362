/-! what one says, in the program -/
theorem tb_orF (x y : Int64) : tb (x ||| y) = fun c => tb x c || tb y c := funext fun c => tb_or x y c
theorem tb_andnF (x y : Int64) : tb (x &&& (y ^^^ (-1))) = fun c => tb x c && !tb y c := funext fun c => by
  rw [tb_and]
  rcases Nat.lt_or_ge c 64 with h | h
  · rw [tb_not _ h]
  · rw [tb_big h, Bool.false_and, Bool.false_and]
theorem own_big {d : LD} (ok : okL d) {o c : Nat} (h : 64 ≤ c) : own d o c = false := by
  unfold own
  rw [inC_64 ok h, Bool.false_and]
theorem tb_held {d : LD} {S : Rec} (ok : okL d) (hS : LandOf d S) {h : Nat} (hh : h < 7) : tb (S.2.2 10 h) = own d (hw h) := funext fun c => by
  rcases Nat.lt_or_ge c 64 with q | q
  · exact hS.2.2.2.2.2.2.2.2.1 h hh c q
  · rw [tb_big q, own_big ok q]
theorem hw_i {i : Nat} (h : i < 6) : hw i = i + 1 := by
  unfold hw
  rw [if_neg (by omega)]
theorem c_with {d : LD} {S : Rec} (ok : okL d) (hS : LandOf d S) {i : Nat} (hi : i < lH d) (y : Int64) : X2_speechWith S (nI i) y = some (nI (sp d (lK d i) (fun c => own d (i + 1) c || tb y c) (fun c => own d 0 c && !tb y c))) := by
  have h6 := ok.1
  obtain ⟨k1, k5⟩ := ok.2.2.2.2.2.1 i hi
  unfold X2_speechWith
  rw [cH1 ok hS hi, if_neg (by decide), rI (by omega) (by decide), Option.bind_some, rL (by omega) (by decide), Option.bind_some, show (6 : Int32) = nI 6 from rfl, rL (by omega) (by decide), Option.bind_some, hS.2.2.2.2.2.1 i hi, c_speech hS k1 k5, Option.bind_some, tb_orF, tb_andnF, tb_held ok hS (by omega), tb_held ok hS (by omega), hw_i (by omega)]
  rfl
theorem tb_0F : tb 0 = fun _ => false := funext fun c => tb_0 c
theorem c_says {d : LD} {S : Rec} (ok : okL d) (hS : LandOf d S) {i : Nat} (hi : i < lH d) : X2_speechOf S (nI i) = some (nI (sy d i)) := by
  unfold X2_speechOf
  rw [c_with ok hS hi, Option.bind_some, tb_0F]
  have e1 : (fun c => own d (i + 1) c || false) = own d (i + 1) := funext fun c => Bool.or_false _
  have e2 : (fun c => own d 0 c && !false) = own d 0 := funext fun c => Bool.and_true _
  rw [e1, e2]
  rfl
theorem c_by {d : LD} {S : Rec} (ok : okL d) (hS : LandOf d S) {i : Nat} (hi : i < lH d) (y : Int64) : X2_speechBy S (nI i) y = some (nI (sp d (lK d i) (tb y) (fun c => (own d 0 c || own d (i + 1) c) && !tb y c))) := by
  have h6 := ok.1
  obtain ⟨k1, k5⟩ := ok.2.2.2.2.2.1 i hi
  unfold X2_speechBy
  rw [cH1 ok hS hi, if_neg (by decide), rI (by omega) (by decide), Option.bind_some, show (6 : Int32) = nI 6 from rfl, rL (by omega) (by decide), Option.bind_some, rL (by omega) (by decide), Option.bind_some, hS.2.2.2.2.2.1 i hi, c_speech hS k1 k5, Option.bind_some, tb_andnF, tb_orF, tb_held ok hS (by omega), tb_held ok hS (by omega), hw_i (i := i) (by omega)]
  rfl
def nb (n : Nat) : Nat := cn (fun i => n.testBit i) 6
theorem sp_lt (d : LD) (k : Nat) (P Q : Nat → Bool) : sp d k P Q < 32 := ms_lt _ 5
theorem sy_lt (d : LD) (i : Nat) : sy d i < 32 := sp_lt _ _ _ _
theorem c_bits {n : Nat} (h : n < 64) : J6_bitCount_0f7a4 (nI n) = nI (nb n) := pc32 n h
theorem c_covers {a b : Nat} (ha : a < 32) (hb : b < 32) : X8_covers (nI a) (nI b) = if b &&& a = b then 1 else 0 := by
  have : ∀ a, a < 32 → ∀ b, b < 32 → X8_covers (nI a) (nI b) = if b &&& a = b then 1 else 0 := by decide +kernel
  exact this a ha b hb
theorem r_can {d : LD} {f : Nat → Int32} (ok : okL d) (hf : RowOf d f) {i w : Nat} (hi : i < lH d) (hw : w < lW d) : X9_can f (nI i) (nI w) = some (if lE d w &&& sy d i = lE d w then 1 else 0) := by
  have h4 := ok.2.2.2.2.1
  have e := (hf.2.2.2.2.2.2.2.2.2 w hw).2
  have hE := (ok.2.2.2.2.2.2.2.2.2.1 w hw).1
  have hs := sy_lt d i
  unfold X9_can
  simp (disch := omega) only [li0, li1, li2, li3, li4, li5, li6, li7, li8, li11, li12, li16, li24, li25, li26, li31, li32, li36, li40, li48, li52, li58, li59, li60, li63, li64, li88, li96, li130, li192, li255, li2208, li2304, li9999, cmp0, cmpl, cmpg, cmple, cmpge, nI_leI, nI_ltI, nI_eq, rL, rI, wL, wI, Option.bind_some, aLet, nI_add, pk_mul, ↓reduceIte, if_true, if_false, eq_self, Nat.reduceEqDiff, Nat.reduceLeDiff, Nat.reduceLT, Nat.one_ne_zero, Nat.zero_ne_one, Nat.add_zero, Bool.false_eq_true, e, r_says ok hf hi]
  have : ∀ a, a < 32 → ∀ b, b < 32 → (if nI b &&& (nI a ^^^ -nI 1) = nI 0 then some (nI 1) else some (nI 0)) = some (if b &&& a = b then nI 1 else nI 0) := by decide +kernel
  exact this _ hs _ hE
theorem r_bitsF {n : Nat} (h : n < 64) : X9_bits (nI n) = some (nI (nb n)) := by
  have := forUp (fun m j s => X9_bits_L4 (nI n) m s j) 6 (fun k => nI (cn (fun i => n.testBit i) k)) (some (nI (nb n))) (fun m k hk => ?_) (fun m => ?_) 6 0 aFu rfl (by decide)
  · have h : X9_bits_L4 (nI n) aFu 0 0 = some (nI (nb n)) := this
    unfold X9_bits
    rw [h]
    rfl
  · have h6 : ¬ 6 ≤ k := by omega
    have e : ∀ n, n < 64 → ∀ k, k < 6 → (nI n >>> (nI k &&& nI 31)) &&& nI 1 = nI (n.testBit k).toNat := by decide +kernel
    simp (disch := omega) only [X9_bits_L4, li0, li1, li2, li3, li4, li5, li6, li7, li8, li11, li12, li16, li24, li25, li26, li31, li32, li36, li40, li48, li52, li58, li59, li60, li63, li64, li88, li96, li130, li192, li255, li2208, li2304, li9999, cmp0, cmpl, cmpg, cmple, cmpge, nI_leI, nI_ltI, nI_eq, rL, rI, wL, wI, Option.bind_some, aLet, nI_add, pk_mul, ↓reduceIte, if_true, if_false, eq_self, Nat.reduceEqDiff, Nat.reduceLeDiff, Nat.reduceLT, Nat.one_ne_zero, Nat.zero_ne_one, Nat.add_zero, Bool.false_eq_true, h6, e n h k hk]
    rfl
  · simp (disch := omega) only [X9_bits_L4, li0, li1, li2, li3, li4, li5, li6, li7, li8, li11, li12, li16, li24, li25, li26, li31, li32, li36, li40, li48, li52, li58, li59, li60, li63, li64, li88, li96, li130, li192, li255, li2208, li2304, li9999, cmp0, cmpl, cmpg, cmple, cmpge, nI_leI, nI_ltI, nI_eq, rL, rI, wL, wI, Option.bind_some, aLet, nI_add, pk_mul, ↓reduceIte, if_true, if_false, eq_self, Nat.reduceEqDiff, Nat.reduceLeDiff, Nat.reduceLT, Nat.one_ne_zero, Nat.zero_ne_one, Nat.add_zero, Bool.false_eq_true, Nat.le_refl]
    rfl
