/-! buys: the cheapest cells by which one can say a word -/
def prl : List Nat → Nat
  | [] => 0
  | p :: l => prp p + prl l
theorem prl_app (l : List Nat) (p : Nat) : prl (l ++ [p]) = prl l + prp p := by
  induction l with
  | nil =>
    show prp p + 0 = 0 + prp p
    omega
  | cons a l ih =>
    show prp a + prl (l ++ [p]) = prp a + prl l + prp p
    rw [ih]
    omega
/-- places that come one behind the other -/
def Inc (d : LD) (n : Nat) (pk : Nat → Nat) : Prop := (∀ k, k < n → pk k < 36 ∧ inP d (pk k) = true) ∧ ∀ j k, j < k → k < n → pk j < pk k
theorem tin_new {d : LD} {n : Nat} {pk : Nat → Nat} (h : Inc d (n + 1) pk) : tin (lst n pk) (pk n) = false := by
  cases w : tin (lst n pk) (pk n)
  · rfl
  · obtain ⟨j, j1, j2⟩ := tin_iff.mp w
    have := h.2 j n j1 (by omega)
    omega
theorem sm_add1 {g : Nat → Nat} {P : Nat → Bool} {t N : Nat} (h : P t = false) (ht : t < N) : sm g (fun i => P i || decide (i = t)) N = sm g P N + g t := by
  have e : (fun i => P i || decide (i = t)) t = true := by simp
  have := sm_del (P := fun i => P i || decide (i = t)) (g := g) e (n := N)
  rw [if_pos ht] at this
  rw [← this]
  refine congrArg (fun z => z + g t) ?_
  refine sm_cong (fun k _ => ?_)
  by_cases y : k = t
  · rw [y, h]
    simp
  · simp [y]
theorem sm_lst {d : LD} (g : Nat → Nat) {pk : Nat → Nat} : ∀ {n}, Inc d n pk → sm g (tin (lst (n + 0) pk)) 36 = sg (fun k => g (pk k)) n
  | 0, _ => by
    have z : ∀ n, sm g (tin (lst 0 pk)) n = 0 := fun n => by
      induction n with
      | zero => rfl
      | succ n ih => rw [sm_no rfl, ih]
    exact z 36
  | n + 1, h => by
    have ih := sm_lst g (pk := pk) (n := n) ⟨fun k hk => h.1 k (by omega), fun j k h1 h2 => h.2 j k h1 (by omega)⟩
    have e : tin (lst (n + 1) pk) = fun p => tin (lst n pk) p || decide (p = pk n) := funext fun p => tin_s n pk p
    show sm g (tin (lst (n + 1) pk)) 36 = _
    rw [e, sm_add1 (tin_new h) (h.1 n (by omega)).1, sg]
    rw [Nat.add_zero] at ih
    rw [ih]
theorem prl_lst (pk : Nat → Nat) : ∀ n, prl (lst n pk) = sg (fun k => prp (pk k)) n
  | 0 => rfl
  | n + 1 => by rw [lst_s, prl_app, prl_lst pk n, sg]
/-- a set of cells that is these places -/
def SetOf (d : LD) (x : Int64) (l : List Nat) : Prop := ∀ c, tb x c = true ↔ inC d c = true ∧ tin l (pl c) = true
theorem set_sm {d : LD} (ok : okL d) {x : Int64} {n : Nat} {pk : Nat → Nat} (hx : SetOf d x (lst n pk)) (hI : Inc d n pk) (g : Nat → Nat) : sm g (tb x) 64 = sg (fun k => g (cl (pk k))) n := by
  rw [sm_cells (fun c _ h => by
    have := inC_b ok ((hx c).mp h).1
    exact ⟨this.1, this.2.1⟩)]
  rw [sm_cong (q := tin (lst n pk)) (fun p hp => ?_)]
  · have := sm_lst (fun p => g (cl p)) hI
    rw [Nat.add_zero] at this
    exact this
  · rw [Bool.eq_iff_iff, hx (cl p), pl_cl]
    constructor
    · exact fun h => h.2
    · intro h
      refine ⟨?_, h⟩
      obtain ⟨k, k1, rfl⟩ := tin_iff.mp h
      exact inC_cl.trans (hI.1 k k1).2
theorem set_price {d : LD} (ok : okL d) {x : Int64} {n : Nat} {pk : Nat → Nat} (hx : SetOf d x (lst n pk)) (hI : Inc d n pk) : X8_priceOf x = some (nI (prl (lst n pk))) := by
  rw [c_price, set_sm ok hx hI, prl_lst]
  exact congrArg some (congrArg nI (sg_cong (fun k _ => prc_cl _)))
theorem set_count {d : LD} (ok : okL d) {x : Int64} {n : Nat} {pk : Nat → Nat} (hx : SetOf d x (lst n pk)) (hI : Inc d n pk) : cn (tb x) 64 = n := by
  rw [cn_sm, set_sm ok hx hI]
  have : ∀ n, sg (fun _ => 1) n = n := fun n => by
    induction n with
    | zero => rfl
    | succ n ih => rw [sg, ih]
  exact this n
theorem prl_le {d : LD} {n : Nat} {pk : Nat → Nat} (hI : Inc d n pk) (hn : n ≤ 3) : prl (lst n pk) ≤ 33 := by
  have : ∀ m, m ≤ n → sg (fun k => prp (pk k)) m ≤ 11 * m := fun m => by
    induction m with
    | zero => intro _; exact Nat.zero_le _
    | succ m ih =>
      intro h
      have := ih (by omega)
      have h2 := (hI.1 m (by omega)).1
      rw [sg]
      have : prp (pk m) ≤ 11 := by
        unfold prp
        omega
      omega
  rw [prl_lst]
  have := this n (Nat.le_refl n)
  omega
abbrev BS : Type := Option (List Nat)
def cnB (d : LD) (i w : Nat) (l : List Nat) : Bool := decide (lE d w &&& sy (giveD d (wadd d (i + 1) (tin l))) i = lE d w)
def gB (d : LD) (i w : Nat) (v : BS) (l : List Nat) : BS := match v with
  | none => if cnB d i w l then some l else none
  | some b => if prl l < prl b ∧ cnB d i w l = true then some l else some b
def bP (d : LD) (i p : Nat) : Bool := inP d p && !decide (lO d p = i + 1)
def RB (d : LD) (acc : Int64 × Int32) (v : BS) : Prop := match v with
  | none => acc = (-1, nI 1000000)
  | some b => acc.2 = nI (prl b) ∧ SetOf d acc.1 b ∧ ∃ n pk, n ≤ 3 ∧ b = lst n pk ∧ Inc d n pk
theorem c_withB {d : LD} {S : Rec} (ok : okL d) (hS : LandOf d S) {i : Nat} (hi : i < lH d) {x : Int64} {l : List Nat} (hx : SetOf d x l) : X2_speechWith S (nI i) x = some (nI (sy (giveD d (wadd d (i + 1) (tin l))) i)) := by
  rw [c_withG ok hS hi (fun c h => ((hx c).mp h).1)]
  refine congrArg some (congrArg nI (?_))
  rw [sy_give, sy_give]
  have e : ∀ o, own (giveD d (wadd d (i + 1) (fun p => tb x (cl p)))) o = own (giveD d (wadd d (i + 1) (tin l))) o := fun o => funext fun c => by
    rw [own_give, own_give]
    cases q : inC d c
    · rfl
    · have hb := inC_b ok q
      have t : tb x (cl (pl c)) = tin l (pl c) := by
        rw [Bool.eq_iff_iff, hx, pl_cl, cl_pl hb.2.1]
        exact ⟨fun h => h.2, fun h => ⟨q, h⟩⟩
      unfold wadd
      simp only [t]
  rw [e, e]
theorem c_cheap54 {d : LD} {S : Rec} (ok : okL d) (hS : LandOf d S) {i w n : Nat} (hi : i < lH d) (hw : w < lW d) (hn : n ≤ 3) {T : Rec} (hC : CS (cn (bP d i) 36) (fun k => cl (nthP (bP d i) k)) n (fun k => k) T) {acc : Int64 × Int32} {v : BS} (hR : RB d acc v) : ∃ acc' T', X8_cheapestFor_L53 S (nI i) (nI (lE d w)) aFu acc.1 acc.2 (nI (nw n (cn (bP d i) 36))) T = some (acc'.1, acc'.2, T') ∧ RB d acc' (rn (fun v l => gB d i w v (l.map (nthP (bP d i)))) n [] 0 (cn (bP d i) 36) v) := by
  have s36 : cn (bP d i) 36 ≤ 36 := cn_le _ _
  have hE := (ok.2.2.2.2.2.2.2.2.2.1 w hw).1
  have nwl : nw n (cn (bP d i) 36) ≤ 7140 := by
    rcases (show n = 0 ∨ n = 1 ∨ n = 2 ∨ n = 3 by omega) with rfl | rfl | rfl | rfl
    · rw [nw]
      omega
    · exact (nw_step _ (by omega) 0 (by omega)).2.2
    · exact (nw_step _ (by omega) 1 (by omega)).2.2
    · exact (nw_step _ (by omega) 2 (by omega)).2.2
  exact c_allSets (F := fun f j (acc : Int64 × Int32) T => X8_cheapestFor_L53 S (nI i) (nI (lE d w)) f acc.1 acc.2 j T) (out := fun acc T => (acc.1, acc.2, T)) (R := RB d) (g := fun v l => gB d i w v (l.map (nthP (bP d i)))) s36 hn
    (fun f acc T => by simp (disch := omega) only [X8_cheapestFor_L53, li0, li1, li2, li3, li4, li5, li6, li7, li8, li11, li12, li16, li24, li25, li26, li31, li32, li36, li40, li48, li52, li58, li59, li60, li63, li64, li88, li96, li130, li192, li255, li2208, li2304, li9999, li9, li13, li14, li30, li35, li44, li45, li46, li47, li97, li98, li100, li101, li104, li105, li108, li110, li111, li112, li114, li117, li122, li999999, li1000000, li2147483647, cmp0, cmpl, cmpg, cmple, cmpge, nI_leI, nI_ltI, nI_eq, rL, rI, wL, wI, ob, aLet, nI_add, pk_mul, ↓reduceIte, if_true, if_false, eq_self, Nat.reduceEqDiff, Nat.reduceLeDiff, Nat.reduceLT, Nat.one_ne_zero, Nat.zero_ne_one, Nat.add_zero, Bool.false_eq_true, nI_neq, Nat.le_refl])
    (fun f l acc v T T' pk hl hC hp hinc hadv hR => by
      have nt : ∀ k, k < n → nthP (bP d i) (pk k) < 36 ∧ inP d (nthP (bP d i) (pk k)) = true := fun k hk => by
        have := nth_at (hp k hk)
        have h2 := this.2.1
        unfold bP at h2
        rw [Bool.and_eq_true] at h2
        exact ⟨this.1, h2.1⟩
      have hI : Inc d n (fun k => nthP (bP d i) (pk k)) := ⟨nt, fun j k h1 h2 => nth_lt (hinc j k h1 h2) (hp k h2)⟩
      obtain ⟨y, y1, y2⟩ := c_current hC s36 hn (fun k hk => cl_64 (nth_at hk).1) hp
      have hy : SetOf d y (lst n (fun k => nthP (bP d i) (pk k))) := fun c => by
        rw [y2 c, tin_iff]
        constructor
        · rintro ⟨k, k1, rfl⟩
          exact ⟨inC_cl.trans (nt k k1).2, k, k1, pl_cl⟩
        · rintro ⟨g1, k, k1, g2⟩
          exact ⟨k, k1, by rw [← g2, cl_pl (inC_b ok g1).2.1]⟩
      have pr := set_price ok hy hI
      have pl33 := prl_le hI hn
      have sw := c_withB ok hS hi hy
      have cv := c_covers (sy_lt (giveD d (wadd d (i + 1) (tin (lst n (fun k => nthP (bP d i) (pk k)))))) i) hE
      have em : nI (l + 1) + -nI 1 = nI l := pk_m1 l
      have z0 : ¬ l + 1 ≤ 0 := by omega
      rw [map_lst]
      cases v with
      | none =>
        have hR : acc = (-1, nI 1000000) := hR
        subst hR
        have mx : ¬ 1000000 ≤ prl (lst n (fun k => nthP (bP d i) (pk k))) := by omega
        by_cases q : lE d w &&& sy (giveD d (wadd d (i + 1) (tin (lst n (fun k => nthP (bP d i) (pk k)))))) i = lE d w
        · have gb : gB d i w none (lst n (fun k => nthP (bP d i) (pk k))) = some (lst n (fun k => nthP (bP d i) (pk k))) := by
            unfold gB cnB
            rw [decide_eq_true q]
            rfl
          rw [gb]
          refine ⟨(y, nI (prl (lst n (fun k => nthP (bP d i) (pk k))))), ?_, rfl, hy, n, _, hn, rfl, hI⟩
          simp (disch := omega) only [X8_cheapestFor_L53, X8_cheapestFor_J105, y1, pr, mx, sw, cv, q, hadv, em, li0, li1, li2, li3, li4, li5, li6, li7, li8, li11, li12, li16, li24, li25, li26, li31, li32, li36, li40, li48, li52, li58, li59, li60, li63, li64, li88, li96, li130, li192, li255, li2208, li2304, li9999, li9, li13, li14, li30, li35, li44, li45, li46, li47, li97, li98, li100, li101, li104, li105, li108, li110, li111, li112, li114, li117, li122, li999999, li1000000, li2147483647, cmp0, cmpl, cmpg, cmple, cmpge, nI_leI, nI_ltI, nI_eq, rL, rI, wL, wI, ob, aLet, nI_add, pk_mul, ↓reduceIte, if_true, if_false, eq_self, Nat.reduceEqDiff, Nat.reduceLeDiff, Nat.reduceLT, Nat.one_ne_zero, Nat.zero_ne_one, Nat.add_zero, Bool.false_eq_true, nI_neq, z0]
        · have gb : gB d i w none (lst n (fun k => nthP (bP d i) (pk k))) = none := by
            unfold gB cnB
            rw [decide_eq_false q]
            rfl
          rw [gb]
          refine ⟨(-1, nI 1000000), ?_, rfl⟩
          simp (disch := omega) only [X8_cheapestFor_L53, X8_cheapestFor_J105, y1, pr, mx, sw, cv, q, hadv, em, li0, li1, li2, li3, li4, li5, li6, li7, li8, li11, li12, li16, li24, li25, li26, li31, li32, li36, li40, li48, li52, li58, li59, li60, li63, li64, li88, li96, li130, li192, li255, li2208, li2304, li9999, li9, li13, li14, li30, li35, li44, li45, li46, li47, li97, li98, li100, li101, li104, li105, li108, li110, li111, li112, li114, li117, li122, li999999, li1000000, li2147483647, cmp0, cmpl, cmpg, cmple, cmpge, nI_leI, nI_ltI, nI_eq, rL, rI, wL, wI, ob, aLet, nI_add, pk_mul, ↓reduceIte, if_true, if_false, eq_self, Nat.reduceEqDiff, Nat.reduceLeDiff, Nat.reduceLT, Nat.one_ne_zero, Nat.zero_ne_one, Nat.add_zero, Bool.false_eq_true, nI_neq, z0]
      | some b =>
        obtain ⟨r1, r2, n2, pk2, r3, rfl, r5⟩ := id hR
        have pb := prl_le r5 r3
        by_cases le : prl (lst n2 pk2) ≤ prl (lst n (fun k => nthP (bP d i) (pk k)))
        · have gb : gB d i w (some (lst n2 pk2)) (lst n (fun k => nthP (bP d i) (pk k))) = some (lst n2 pk2) := by
            unfold gB
            exact if_neg (fun z => by omega)
          rw [gb]
          refine ⟨acc, ?_, hR⟩
          simp (disch := omega) only [X8_cheapestFor_L53, X8_cheapestFor_J105, y1, pr, r1, le, hadv, em, li0, li1, li2, li3, li4, li5, li6, li7, li8, li11, li12, li16, li24, li25, li26, li31, li32, li36, li40, li48, li52, li58, li59, li60, li63, li64, li88, li96, li130, li192, li255, li2208, li2304, li9999, li9, li13, li14, li30, li35, li44, li45, li46, li47, li97, li98, li100, li101, li104, li105, li108, li110, li111, li112, li114, li117, li122, li999999, li1000000, li2147483647, cmp0, cmpl, cmpg, cmple, cmpge, nI_leI, nI_ltI, nI_eq, rL, rI, wL, wI, ob, aLet, nI_add, pk_mul, ↓reduceIte, if_true, if_false, eq_self, Nat.reduceEqDiff, Nat.reduceLeDiff, Nat.reduceLT, Nat.one_ne_zero, Nat.zero_ne_one, Nat.add_zero, Bool.false_eq_true, nI_neq, z0]
        · by_cases q : lE d w &&& sy (giveD d (wadd d (i + 1) (tin (lst n (fun k => nthP (bP d i) (pk k)))))) i = lE d w
          · have gb : gB d i w (some (lst n2 pk2)) (lst n (fun k => nthP (bP d i) (pk k))) = some (lst n (fun k => nthP (bP d i) (pk k))) := by
              unfold gB cnB
              exact if_pos ⟨by omega, decide_eq_true q⟩
            rw [gb]
            refine ⟨(y, nI (prl (lst n (fun k => nthP (bP d i) (pk k))))), ?_, rfl, hy, n, _, hn, rfl, hI⟩
            simp (disch := omega) only [X8_cheapestFor_L53, X8_cheapestFor_J105, y1, pr, r1, le, sw, cv, q, hadv, em, li0, li1, li2, li3, li4, li5, li6, li7, li8, li11, li12, li16, li24, li25, li26, li31, li32, li36, li40, li48, li52, li58, li59, li60, li63, li64, li88, li96, li130, li192, li255, li2208, li2304, li9999, li9, li13, li14, li30, li35, li44, li45, li46, li47, li97, li98, li100, li101, li104, li105, li108, li110, li111, li112, li114, li117, li122, li999999, li1000000, li2147483647, cmp0, cmpl, cmpg, cmple, cmpge, nI_leI, nI_ltI, nI_eq, rL, rI, wL, wI, ob, aLet, nI_add, pk_mul, ↓reduceIte, if_true, if_false, eq_self, Nat.reduceEqDiff, Nat.reduceLeDiff, Nat.reduceLT, Nat.one_ne_zero, Nat.zero_ne_one, Nat.add_zero, Bool.false_eq_true, nI_neq, z0]
          · have gb : gB d i w (some (lst n2 pk2)) (lst n (fun k => nthP (bP d i) (pk k))) = some (lst n2 pk2) := by
              unfold gB cnB
              exact if_neg (fun z => q (of_decide_eq_true z.2))
            rw [gb]
            refine ⟨acc, ?_, hR⟩
            simp (disch := omega) only [X8_cheapestFor_L53, X8_cheapestFor_J105, y1, pr, r1, le, sw, cv, q, hadv, em, li0, li1, li2, li3, li4, li5, li6, li7, li8, li11, li12, li16, li24, li25, li26, li31, li32, li36, li40, li48, li52, li58, li59, li60, li63, li64, li88, li96, li130, li192, li255, li2208, li2304, li9999, li9, li13, li14, li30, li35, li44, li45, li46, li47, li97, li98, li100, li101, li104, li105, li108, li110, li111, li112, li114, li117, li122, li999999, li1000000, li2147483647, cmp0, cmpl, cmpg, cmple, cmpge, nI_leI, nI_ltI, nI_eq, rL, rI, wL, wI, ob, aLet, nI_add, pk_mul, ↓reduceIte, if_true, if_false, eq_self, Nat.reduceEqDiff, Nat.reduceLeDiff, Nat.reduceLT, Nat.one_ne_zero, Nat.zero_ne_one, Nat.add_zero, Bool.false_eq_true, nI_neq, z0]) nwl hC hR
/-- the best so far, behind the sets of fewer than n -/
noncomputable def bes3 (d : LD) (i w : Nat) : Nat → BS
  | 0 => none
  | n + 1 => rn (fun v l => gB d i w v (l.map (nthP (bP d i)))) n [] 0 (cn (bP d i) 36) (bes3 d i w n)
theorem c_cheapest {d : LD} {S T : Rec} (ok : okL d) (hS : LandOf d S) {i w : Nat} (hi : i < lH d) (hw : w < lW d) : ∃ acc : Int64 × Int32, ∃ T', X8_cheapestFor S T (nI i) (nI (lE d w)) = some (acc.1, T') ∧ RB d acc (bes3 d i w 4) := by
  have h6 := ok.1
  obtain ⟨x, hx, hb⟩ := c_every ok hS
  have th := tb_held ok hS (h := i) (by omega)
  rw [hw_i (by omega)] at th
  have hset : ∀ c, tb (x &&& (S.2.2 10 i ^^^ (-1))) c = true ↔ InS d (bP d i) c := fun c => by
    rw [tb_andnF]
    dsimp only
    rw [th]
    unfold InS bP own
    rcases Nat.lt_or_ge c 64 with q | q
    · rw [hb c q]
      cases y : inC d c
      · simp
      · have hb' := inC_b ok y
        have ip : inP d (pl c) = true := by
          rw [← inC_cl, cl_pl hb'.2.1]
          exact y
        rw [ip]
        simp
    · rw [tb_big q, inC_64 ok q]
      simp
  obtain ⟨e, e1, e2⟩ := forUpE (fun n j (s : (Int64 × Int32) × Rec) => X8_cheapestFor_L34 (x &&& (S.2.2 10 i ^^^ (-1))) S (nI i) (nI (lE d w)) n s.1.1 s.1.2 j s.2) 4 (fun k s => RB d s.1 (bes3 d i w k)) (fun s : Int64 × Rec => ∃ a2, RB d (s.1, a2) (bes3 d i w 4)) (fun f k s hk hI => by
      have h : ¬ 3 < k := by omega
      obtain ⟨T1, t1, t2⟩ := c_begin ok (P := bP d i) (fun p h => by
        unfold bP at h
        rw [Bool.and_eq_true] at h
        exact h.1) hset s.2 (n := k) (by omega)
      obtain ⟨acc', T2, l1, l2⟩ := c_cheap54 ok hS hi hw (by omega) t2 hI
      refine ⟨(acc', T2), ?_, l2⟩
      simp (disch := omega) only [X8_cheapestFor_L34, t1, l1, li0, li1, li2, li3, li4, li5, li6, li7, li8, li11, li12, li16, li24, li25, li26, li31, li32, li36, li40, li48, li52, li58, li59, li60, li63, li64, li88, li96, li130, li192, li255, li2208, li2304, li9999, li9, li13, li14, li30, li35, li44, li45, li46, li47, li97, li98, li100, li101, li104, li105, li108, li110, li111, li112, li114, li117, li122, li999999, li1000000, li2147483647, cmp0, cmpl, cmpg, cmple, cmpge, nI_leI, nI_ltI, nI_eq, rL, rI, wL, wI, ob, aLet, nI_add, pk_mul, ↓reduceIte, if_true, if_false, eq_self, Nat.reduceEqDiff, Nat.reduceLeDiff, Nat.reduceLT, Nat.one_ne_zero, Nat.zero_ne_one, Nat.add_zero, Bool.false_eq_true, nI_neq, h]) (fun f s hI => ⟨(s.1.1, s.2), by simp (disch := omega) only [X8_cheapestFor_L34, li0, li1, li2, li3, li4, li5, li6, li7, li8, li11, li12, li16, li24, li25, li26, li31, li32, li36, li40, li48, li52, li58, li59, li60, li63, li64, li88, li96, li130, li192, li255, li2208, li2304, li9999, li9, li13, li14, li30, li35, li44, li45, li46, li47, li97, li98, li100, li101, li104, li105, li108, li110, li111, li112, li114, li117, li122, li999999, li1000000, li2147483647, cmp0, cmpl, cmpg, cmple, cmpge, nI_leI, nI_ltI, nI_eq, rL, rI, wL, wI, ob, aLet, nI_add, pk_mul, ↓reduceIte, if_true, if_false, eq_self, Nat.reduceEqDiff, Nat.reduceLeDiff, Nat.reduceLT, Nat.one_ne_zero, Nat.zero_ne_one, Nat.add_zero, Bool.false_eq_true, nI_neq], s.1.2, hI⟩) 4 0 aFu (((-1 : Int64), nI 1000000), T) rfl (by decide) rfl
  obtain ⟨a2, e3⟩ := e2
  refine ⟨(e.1, a2), e.2, ?_, e3⟩
  have e1 : X8_cheapestFor_L34 (x &&& (S.2.2 10 i ^^^ (-1))) S (nI i) (nI (lE d w)) aFu (-1 : Int64) (nI 1000000) (nI 0) T = some e := e1
  simp (disch := omega) only [X8_cheapestFor, hx, e1, li0, li1, li2, li3, li4, li5, li6, li7, li8, li11, li12, li16, li24, li25, li26, li31, li32, li36, li40, li48, li52, li58, li59, li60, li63, li64, li88, li96, li130, li192, li255, li2208, li2304, li9999, li9, li13, li14, li30, li35, li44, li45, li46, li47, li97, li98, li100, li101, li104, li105, li108, li110, li111, li112, li114, li117, li122, li999999, li1000000, li2147483647, cmp0, cmpl, cmpg, cmple, cmpge, nI_leI, nI_ltI, nI_eq, rL, rI, wL, wI, ob, aLet, nI_add, pk_mul, ↓reduceIte, if_true, if_false, eq_self, Nat.reduceEqDiff, Nat.reduceLeDiff, Nat.reduceLT, Nat.one_ne_zero, Nat.zero_ne_one, Nat.add_zero, Bool.false_eq_true, nI_neq]
/-- the k-th cell of a set -/
theorem c_kth20 {d : LD} {n : Nat} {pk : Nat → Nat} (hn : n ≤ 3) (hI : Inc d n pk) : ∀ (e r f : Nat) (x : Int64), r + e < n → e < f → (∀ c, tb x c = true ↔ ∃ j, r ≤ j ∧ j < n ∧ c = cl (pk j)) → ∃ y, X8_cellInSet_L20 f x (nI e) = some y ∧ X8_leastCell y = nI (cl (pk (r + e))) := by
  have least : ∀ r x, r < n → (∀ c, tb x c = true ↔ ∃ j, r ≤ j ∧ j < n ∧ c = cl (pk j)) → ∃ t, t = cl (pk r) ∧ t < 64 ∧ X8_leastCell x = nI t ∧ ∀ i, i < 64 → tb (x &&& (x - 1)) i = (tb x i && !decide (i = t)) := by
    intro r x hr h
    have mem : tb x (cl (pk r)) = true := (h _).mpr ⟨r, Nat.le_refl r, hr, rfl⟩
    have h64 := cl_64 (hI.1 r hr).1
    have x0 : x ≠ 0 := fun q => by
      rw [q, tb_0] at mem
      cases mem
    obtain ⟨t, t1, t2, t3, t4, t5, t6⟩ := low x0
    refine ⟨t, ?_, t1, t6, t5⟩
    rcases Nat.lt_trichotomy t (cl (pk r)) with q | q | q
    · obtain ⟨j, j1, j2, j3⟩ := (h t).mp t2
      rcases Nat.lt_or_ge r j with s | s
      · have := cl_lt (hI.1 r hr).1 (hI.1 j j2).1 (hI.2 r j s j2)
        omega
      · have : j = r := by omega
        rw [this] at j3
        omega
    · exact q
    · have := t3 _ q
      rw [mem] at this
      cases this
  intro e
  induction e with
  | zero =>
    intro r f x h1 h2 h3
    obtain ⟨f, rfl⟩ : ∃ z, f = z + 1 := ⟨f - 1, by omega⟩
    obtain ⟨t, rfl, t1, t2, -⟩ := least r x (by omega) h3
    exact ⟨x, by simp (disch := omega) only [X8_cellInSet_L20, li0, li1, li2, li3, li4, li5, li6, li7, li8, li11, li12, li16, li24, li25, li26, li31, li32, li36, li40, li48, li52, li58, li59, li60, li63, li64, li88, li96, li130, li192, li255, li2208, li2304, li9999, li9, li13, li14, li30, li35, li44, li45, li46, li47, li97, li98, li100, li101, li104, li105, li108, li110, li111, li112, li114, li117, li122, li999999, li1000000, li2147483647, cmp0, cmpl, cmpg, cmple, cmpge, nI_leI, nI_ltI, nI_eq, rL, rI, wL, wI, ob, aLet, nI_add, pk_mul, ↓reduceIte, if_true, if_false, eq_self, Nat.reduceEqDiff, Nat.reduceLeDiff, Nat.reduceLT, Nat.one_ne_zero, Nat.zero_ne_one, Nat.add_zero, Bool.false_eq_true, nI_neq, Nat.le_refl], t2⟩
  | succ e ih =>
    intro r f x h1 h2 h3
    obtain ⟨f, rfl⟩ : ∃ z, f = z + 1 := ⟨f - 1, by omega⟩
    have z : ¬ e + 1 ≤ 0 := by omega
    have em : nI (e + 1) + -nI 1 = nI e := pk_m1 e
    obtain ⟨t, rfl, t1, t2, t3⟩ := least r x (by omega) h3
    obtain ⟨y, y1, y2⟩ := ih (r + 1) f (x &&& (x - 1)) (by omega) (by omega) (fun c => by
      constructor
      · intro hc
        have c64 : c < 64 := by
          rcases Nat.lt_or_ge c 64 with q | q
          · exact q
          · rw [tb_big q] at hc
            cases hc
        rw [t3 c c64, Bool.and_eq_true, Bool.not_eq_true', decide_eq_false_iff_not] at hc
        obtain ⟨j, j1, j2, j3⟩ := (h3 c).mp hc.1
        refine ⟨j, ?_, j2, j3⟩
        rcases Nat.lt_or_ge r j with s | s
        · exact s
        · have : j = r := by omega
          rw [this] at j3
          exact absurd j3 hc.2
      · rintro ⟨j, j1, j2, j3⟩
        have c64 : c < 64 := by
          rw [j3]
          exact cl_64 (hI.1 j j2).1
        have := cl_lt (hI.1 r (by omega)).1 (hI.1 j j2).1 (hI.2 r j (by omega) j2)
        rw [t3 c c64, (h3 c).mpr ⟨j, by omega, j2, j3⟩, decide_eq_false (by omega)]
        rfl)
    refine ⟨y, ?_, by rw [y2, show r + 1 + e = r + (e + 1) by omega]⟩
    rw [← y1]
    simp (disch := omega) only [X8_cellInSet_L20, em, li0, li1, li2, li3, li4, li5, li6, li7, li8, li11, li12, li16, li24, li25, li26, li31, li32, li36, li40, li48, li52, li58, li59, li60, li63, li64, li88, li96, li130, li192, li255, li2208, li2304, li9999, li9, li13, li14, li30, li35, li44, li45, li46, li47, li97, li98, li100, li101, li104, li105, li108, li110, li111, li112, li114, li117, li122, li999999, li1000000, li2147483647, cmp0, cmpl, cmpg, cmple, cmpge, nI_leI, nI_ltI, nI_eq, rL, rI, wL, wI, ob, aLet, nI_add, pk_mul, ↓reduceIte, if_true, if_false, eq_self, Nat.reduceEqDiff, Nat.reduceLeDiff, Nat.reduceLT, Nat.one_ne_zero, Nat.zero_ne_one, Nat.add_zero, Bool.false_eq_true, nI_neq, z]
theorem c_kth {d : LD} (ok : okL d) {x : Int64} {n : Nat} {pk : Nat → Nat} (hn : n ≤ 3) (hx : SetOf d x (lst n pk)) (hI : Inc d n pk) {k : Nat} (hk : k < 2 ^ 31) : X8_cellInSet x (nI k) = some (if k < n then nI (cl (pk k)) else -nI 4) := by
  have cnt := set_count ok hx hI
  have k0 : ¬ k < 0 := by omega
  by_cases h : k < n
  · obtain ⟨y, y1, y2⟩ := c_kth20 hn hI k 0 aFu x (by omega) (by show _ < 100000; omega) (fun c => by
      rw [hx c, tin_iff]
      constructor
      · rintro ⟨g1, j, j1, j2⟩
        exact ⟨j, Nat.zero_le j, j1, by rw [← j2, cl_pl (inC_b ok g1).2.1]⟩
      · rintro ⟨j, -, j1, rfl⟩
        exact ⟨inC_cl.trans (hI.1 j j1).2, j, j1, pl_cl⟩)
    rw [Nat.zero_add] at y2
    rw [if_pos h]
    simp (disch := omega) only [X8_cellInSet, pc64, cnt, y1, y2, h, k0, li0, li1, li2, li3, li4, li5, li6, li7, li8, li11, li12, li16, li24, li25, li26, li31, li32, li36, li40, li48, li52, li58, li59, li60, li63, li64, li88, li96, li130, li192, li255, li2208, li2304, li9999, li9, li13, li14, li30, li35, li44, li45, li46, li47, li97, li98, li100, li101, li104, li105, li108, li110, li111, li112, li114, li117, li122, li999999, li1000000, li2147483647, cmp0, cmpl, cmpg, cmple, cmpge, nI_leI, nI_ltI, nI_eq, rL, rI, wL, wI, ob, aLet, nI_add, pk_mul, ↓reduceIte, if_true, if_false, eq_self, Nat.reduceEqDiff, Nat.reduceLeDiff, Nat.reduceLT, Nat.one_ne_zero, Nat.zero_ne_one, Nat.add_zero, Bool.false_eq_true, nI_neq]
  · rw [if_neg h]
    simp (disch := omega) only [X8_cellInSet, pc64, cnt, h, k0, li0, li1, li2, li3, li4, li5, li6, li7, li8, li11, li12, li16, li24, li25, li26, li31, li32, li36, li40, li48, li52, li58, li59, li60, li63, li64, li88, li96, li130, li192, li255, li2208, li2304, li9999, li9, li13, li14, li30, li35, li44, li45, li46, li47, li97, li98, li100, li101, li104, li105, li108, li110, li111, li112, li114, li117, li122, li999999, li1000000, li2147483647, cmp0, cmpl, cmpg, cmple, cmpge, nI_leI, nI_ltI, nI_eq, rL, rI, wL, wI, ob, aLet, nI_add, pk_mul, ↓reduceIte, if_true, if_false, eq_self, Nat.reduceEqDiff, Nat.reduceLeDiff, Nat.reduceLT, Nat.one_ne_zero, Nat.zero_ne_one, Nat.add_zero, Bool.false_eq_true, nI_neq]
/-! the same in the reference -/
def RT (d : LD) (m : Rec) (n : Nat) (Z : Rec) (v : BS) : Prop := Fr m Z ∧ match v with
  | none => Z.1 13 = -nI 4
  | some b => ∃ nb pk, nb ≤ n ∧ nb ≤ 3 ∧ b = lst nb pk ∧ Inc d nb pk ∧ Z.1 13 = nI (prl b) ∧ Z.1 14 = nI nb ∧ ∀ k, k < nb → Z.2.1 12 k = nI (pk k)
theorem RT_11 {d : LD} {m Z : Rec} {n : Nat} {v : BS} (h : RT d m n Z v) (f : Nat → Int32) : RT d m n (sA Z 11 f) v := ⟨Fr_A h.1 (by omega), by
  have h2 := h.2
  cases v with
  | none => exact h2
  | some b => exact h2⟩
theorem RT_up {d : LD} {m Z : Rec} {n n' : Nat} {v : BS} (hn : n ≤ n') (h : RT d m n Z v) : RT d m n' Z v := ⟨h.1, by
  have h2 := h.2
  cases v with
  | none => exact h2
  | some b =>
    obtain ⟨nb, pk, g1, g2⟩ := h2
    exact ⟨nb, pk, by omega, g2⟩⟩
theorem RT_row {d : LD} {m Z : Rec} {n : Nat} {v : BS} (hf : RowOf d (m.2.1 0)) (h : RT d m n Z v) : RowOf d (Z.2.1 0) := by
  rw [h.1.2.2.1]
  exact hf
theorem r_tryB {d : LD} {m : Rec} (ok : okL d) (hf : RowOf d (m.2.1 0)) {i w n : Nat} (hi : i < lH d) (hw : w < lW d) (hn : n ≤ 3) {Z : Rec} {v : BS} (hR : RT d m n Z v) {pk : Nat → Nat} (hI : Inc d n pk) (ht : ∀ k, k < n → Z.2.1 11 k = nI (pk k)) : ∃ Z', X9_tryBuying Z (nI i) (nI w) (nI n) = some Z' ∧ RT d m n Z' (gB d i w v (lst n pk)) ∧ Z'.2.1 11 = Z.2.1 11 := by
  have h6 := ok.1
  have hf0 := RT_row hf hR
  obtain ⟨e, c1, c2, c3, c4, c5, c6, c7⟩ := forUpE (fun f j (s : Int32 × Rec) => X9_tryBuying_L10 (nI n) (nI i) f s.1 j s.2) n (fun k e => e.1 = nI (prl (lst k pk)) ∧ Fr Z e.2 ∧ RowOf (giveD d (wadd d (i + 1) (tin (lst k pk)))) (e.2.2.1 2) ∧ e.2.1 = Z.1 ∧ e.2.2.1 11 = Z.2.1 11 ∧ e.2.2.1 12 = Z.2.1 12) (fun e => e.1 = nI (prl (lst n pk)) ∧ Fr Z e.2 ∧ RowOf (giveD d (wadd d (i + 1) (tin (lst n pk)))) (e.2.2.1 2) ∧ e.2.1 = Z.1 ∧ e.2.2.1 11 = Z.2.1 11 ∧ e.2.2.1 12 = Z.2.1 12) (fun f k e hk hI2 => by
      obtain ⟨g1, g2, g3, g4, g5, g6⟩ := hI2
      have hlt : ¬ n ≤ k := by omega
      have e2 : e.2.2.1 11 k = nI (pk k) := by
        rw [g5]
        exact ht k hk
      have hpk := (hI.1 k hk).1
      have rs := row_set (ok_give ok (wadd_le ok hi _)) g3 hpk (i + 1)
      have es : setw (wadd d (i + 1) (tin (lst k pk))) (pk k) (i + 1) = wadd d (i + 1) (tin (lst (k + 1) pk)) := by
        rw [show tin (lst (k + 1) pk) = fun p => tin (lst k pk) p || decide (p = pk k) from funext fun p => tin_s k pk p, wadd_more]
        rfl
      rw [es] at rs
      have g11 : ∀ f, (sA e.2 2 f).2.1 11 k = nI (pk k) := fun f => e2
      have pr := r_price (p := pk k) (by omega)
      refine ⟨(nI (prl (lst (k + 1) pk)), sA e.2 2 (upd (e.2.2.1 2) (52 + pk k) (nI (i + 1)))), ?_, rfl, Fr_A g2 (by omega), rs, g4, g5, g6⟩
      rw [lst_s, prl_app]
      simp (disch := omega) only [X9_tryBuying_L10, g1, e2, g11, pr, li0, li1, li2, li3, li4, li5, li6, li7, li8, li11, li12, li16, li24, li25, li26, li31, li32, li36, li40, li48, li52, li58, li59, li60, li63, li64, li88, li96, li130, li192, li255, li2208, li2304, li9999, li9, li13, li14, li30, li35, li44, li45, li46, li47, li97, li98, li100, li101, li104, li105, li108, li110, li111, li112, li114, li117, li122, li999999, li1000000, li2147483647, cmp0, cmpl, cmpg, cmple, cmpge, nI_leI, nI_ltI, nI_eq, rL, rI, wL, wI, ob, aLet, nI_add, pk_mul, ↓reduceIte, if_true, if_false, eq_self, Nat.reduceEqDiff, Nat.reduceLeDiff, Nat.reduceLT, Nat.one_ne_zero, Nat.zero_ne_one, Nat.add_zero, Bool.false_eq_true, nI_neq, hlt]) (fun f e hI2 => ⟨e, by simp (disch := omega) only [X9_tryBuying_L10, li0, li1, li2, li3, li4, li5, li6, li7, li8, li11, li12, li16, li24, li25, li26, li31, li32, li36, li40, li48, li52, li58, li59, li60, li63, li64, li88, li96, li130, li192, li255, li2208, li2304, li9999, li9, li13, li14, li30, li35, li44, li45, li46, li47, li97, li98, li100, li101, li104, li105, li108, li110, li111, li112, li114, li117, li122, li999999, li1000000, li2147483647, cmp0, cmpl, cmpg, cmple, cmpge, nI_leI, nI_ltI, nI_eq, rL, rI, wL, wI, ob, aLet, nI_add, pk_mul, ↓reduceIte, if_true, if_false, eq_self, Nat.reduceEqDiff, Nat.reduceLeDiff, Nat.reduceLT, Nat.one_ne_zero, Nat.zero_ne_one, Nat.add_zero, Bool.false_eq_true, nI_neq, Nat.le_refl], hI2⟩) n 0 aFu (nI 0, sA Z 2 (laid (Z.2.1 0) (Z.2.1 2) 96)) (by omega) (by show _ < 100000; omega) ⟨rfl, fr_lay Z, row_none _ (row_laid ok hf0), rfl, rfl, rfl⟩
  have c1 : X9_tryBuying_L10 (nI n) (nI i) aFu (nI 0) (nI 0) (sA Z 2 (laid (Z.2.1 0) (Z.2.1 2) 96)) = some e := c1
  have rc := r_can2 (ok_give ok (wadd_le ok hi (tin (lst n pk)))) c4 hi hw
  have pl33 := prl_le hI hn
  have frE := Fr_trans hR.1 c3
  have e13 : e.2.1 13 = Z.1 13 := by rw [c5]
  have e14 : e.2.1 14 = Z.1 14 := by rw [c5]
  -- the new one is the best
  have better : lE d w &&& sy (giveD d (wadd d (i + 1) (tin (lst n pk)))) i = lE d w → ∃ Z', X9_tryBuying_J95 e (nI i) (nI w) (nI n) (nI 1) = some Z' ∧ RT d m n Z' (some (lst n pk)) ∧ Z'.2.1 11 = Z.2.1 11 := fun q => by
    rw [if_pos q] at rc
    obtain ⟨V, v1, v2, v3, v4, v5⟩ := forUpE (fun f j z => X9_tryBuying_L128 (nI n) f j z) n (fun k V => Fr m V ∧ V.1 = (sI (sI e.2 13 e.1) 14 (nI n)).1 ∧ V.2.1 11 = Z.2.1 11 ∧ ∀ j, j < k → V.2.1 12 j = nI (pk j)) (fun V => Fr m V ∧ V.1 = (sI (sI e.2 13 e.1) 14 (nI n)).1 ∧ V.2.1 11 = Z.2.1 11 ∧ ∀ j, j < n → V.2.1 12 j = nI (pk j)) (fun f k V hk hV => by
        obtain ⟨g1, g2, g3, g4⟩ := hV
        have hlt : ¬ n ≤ k := by omega
        have e2 : V.2.1 11 k = nI (pk k) := by
          rw [g3]
          exact ht k hk
        refine ⟨sA V 12 (upd (V.2.1 12) k (nI (pk k))), ?_, Fr_A g1 (by omega), g2, g3, fun j hj => ?_⟩
        · simp (disch := omega) only [X9_tryBuying_L128, e2, li0, li1, li2, li3, li4, li5, li6, li7, li8, li11, li12, li16, li24, li25, li26, li31, li32, li36, li40, li48, li52, li58, li59, li60, li63, li64, li88, li96, li130, li192, li255, li2208, li2304, li9999, li9, li13, li14, li30, li35, li44, li45, li46, li47, li97, li98, li100, li101, li104, li105, li108, li110, li111, li112, li114, li117, li122, li999999, li1000000, li2147483647, cmp0, cmpl, cmpg, cmple, cmpge, nI_leI, nI_ltI, nI_eq, rL, rI, wL, wI, ob, aLet, nI_add, pk_mul, ↓reduceIte, if_true, if_false, eq_self, Nat.reduceEqDiff, Nat.reduceLeDiff, Nat.reduceLT, Nat.one_ne_zero, Nat.zero_ne_one, Nat.add_zero, Bool.false_eq_true, nI_neq, hlt]
        · show upd (V.2.1 12) k (nI (pk k)) j = _
          by_cases y : j = k
          · rw [y, pk_us]
          · rw [pk_un y]
            exact g4 j (by omega)) (fun f V hV => ⟨V, by simp (disch := omega) only [X9_tryBuying_L128, li0, li1, li2, li3, li4, li5, li6, li7, li8, li11, li12, li16, li24, li25, li26, li31, li32, li36, li40, li48, li52, li58, li59, li60, li63, li64, li88, li96, li130, li192, li255, li2208, li2304, li9999, li9, li13, li14, li30, li35, li44, li45, li46, li47, li97, li98, li100, li101, li104, li105, li108, li110, li111, li112, li114, li117, li122, li999999, li1000000, li2147483647, cmp0, cmpl, cmpg, cmple, cmpge, nI_leI, nI_ltI, nI_eq, rL, rI, wL, wI, ob, aLet, nI_add, pk_mul, ↓reduceIte, if_true, if_false, eq_self, Nat.reduceEqDiff, Nat.reduceLeDiff, Nat.reduceLT, Nat.one_ne_zero, Nat.zero_ne_one, Nat.add_zero, Bool.false_eq_true, nI_neq, Nat.le_refl], hV⟩) n 0 aFu (sI (sI e.2 13 e.1) 14 (nI n)) (by omega) (by show _ < 100000; omega) ⟨Fr_I (Fr_I frE (by omega)) (by omega), rfl, c6, fun j hj => absurd hj (by omega)⟩
    refine ⟨V, ?_, ⟨v2, n, pk, Nat.le_refl n, hn, rfl, hI, ?_, ?_, v5⟩, v4⟩
    · simp (disch := omega) only [X9_tryBuying_J95, rc, v1, li0, li1, li2, li3, li4, li5, li6, li7, li8, li11, li12, li16, li24, li25, li26, li31, li32, li36, li40, li48, li52, li58, li59, li60, li63, li64, li88, li96, li130, li192, li255, li2208, li2304, li9999, li9, li13, li14, li30, li35, li44, li45, li46, li47, li97, li98, li100, li101, li104, li105, li108, li110, li111, li112, li114, li117, li122, li999999, li1000000, li2147483647, cmp0, cmpl, cmpg, cmple, cmpge, nI_leI, nI_ltI, nI_eq, rL, rI, wL, wI, ob, aLet, nI_add, pk_mul, ↓reduceIte, if_true, if_false, eq_self, Nat.reduceEqDiff, Nat.reduceLeDiff, Nat.reduceLT, Nat.one_ne_zero, Nat.zero_ne_one, Nat.add_zero, Bool.false_eq_true, nI_neq]
    · rw [v3, ← c2]
      rfl
    · rw [v3]
      rfl
  have same : RT d m n e.2 v := ⟨frE, by
    have h2 := hR.2
    cases v with
    | none =>
      show e.2.1 13 = _
      rw [e13]
      exact h2
    | some b =>
      obtain ⟨nb, pk2, g1, g2, g3, g4, g5, g6, g7⟩ := h2
      exact ⟨nb, pk2, g1, g2, g3, g4, by rw [e13]; exact g5, by rw [e14]; exact g6, fun k hk => by rw [c7]; exact g7 k hk⟩⟩
  by_cases q : lE d w &&& sy (giveD d (wadd d (i + 1) (tin (lst n pk)))) i = lE d w
  · have cb : cnB d i w (lst n pk) = true := decide_eq_true q
    obtain ⟨Z', b1, b2, b3⟩ := better q
    cases v with
    | none =>
      have z13 : e.2.1 13 = -nI 4 := e13.trans hR.2
      refine ⟨Z', ?_, ?_, b3⟩
      · simp (disch := omega) only [X9_tryBuying, r_lay, c1, z13, X9_tryBuying_J90, b1, li0, li1, li2, li3, li4, li5, li6, li7, li8, li11, li12, li16, li24, li25, li26, li31, li32, li36, li40, li48, li52, li58, li59, li60, li63, li64, li88, li96, li130, li192, li255, li2208, li2304, li9999, li9, li13, li14, li30, li35, li44, li45, li46, li47, li97, li98, li100, li101, li104, li105, li108, li110, li111, li112, li114, li117, li122, li999999, li1000000, li2147483647, cmp0, cmpl, cmpg, cmple, cmpge, nI_leI, nI_ltI, nI_eq, rL, rI, wL, wI, ob, aLet, nI_add, pk_mul, ↓reduceIte, if_true, if_false, eq_self, Nat.reduceEqDiff, Nat.reduceLeDiff, Nat.reduceLT, Nat.one_ne_zero, Nat.zero_ne_one, Nat.add_zero, Bool.false_eq_true, nI_neq]
      · unfold gB
        dsimp only
        rw [cb, if_pos rfl]
        exact b2
    | some b =>
      obtain ⟨nb, pk2, g1, g2, rfl, g4, g5, g6, g7⟩ := hR.2
      have z13 : e.2.1 13 = nI (prl (lst nb pk2)) := e13.trans g5
      have z14 : e.2.1 14 = nI nb := e14.trans g6
      have p2 := prl_le g4 g2
      by_cases lt : prl (lst n pk) < prl (lst nb pk2)
      · refine ⟨Z', ?_, ?_, b3⟩
        · simp (disch := omega) only [X9_tryBuying, r_lay, c1, z13, c2, lt, X9_tryBuying_J90, b1, li0, li1, li2, li3, li4, li5, li6, li7, li8, li11, li12, li16, li24, li25, li26, li31, li32, li36, li40, li48, li52, li58, li59, li60, li63, li64, li88, li96, li130, li192, li255, li2208, li2304, li9999, li9, li13, li14, li30, li35, li44, li45, li46, li47, li97, li98, li100, li101, li104, li105, li108, li110, li111, li112, li114, li117, li122, li999999, li1000000, li2147483647, cmp0, cmpl, cmpg, cmple, cmpge, nI_leI, nI_ltI, nI_eq, rL, rI, wL, wI, ob, aLet, nI_add, pk_mul, ↓reduceIte, if_true, if_false, eq_self, Nat.reduceEqDiff, Nat.reduceLeDiff, Nat.reduceLT, Nat.one_ne_zero, Nat.zero_ne_one, Nat.add_zero, Bool.false_eq_true, nI_neq]
        · unfold gB
          dsimp only
          rw [if_pos ⟨lt, cb⟩]
          exact b2
      · refine ⟨e.2, ?_, ?_, c6⟩
        · by_cases eq : prl (lst n pk) = prl (lst nb pk2)
          · simp (disch := omega) only [X9_tryBuying, r_lay, c1, z13, z14, c2, eq, g1, Nat.lt_irrefl, X9_tryBuying_J94, X9_tryBuying_J95, li0, li1, li2, li3, li4, li5, li6, li7, li8, li11, li12, li16, li24, li25, li26, li31, li32, li36, li40, li48, li52, li58, li59, li60, li63, li64, li88, li96, li130, li192, li255, li2208, li2304, li9999, li9, li13, li14, li30, li35, li44, li45, li46, li47, li97, li98, li100, li101, li104, li105, li108, li110, li111, li112, li114, li117, li122, li999999, li1000000, li2147483647, cmp0, cmpl, cmpg, cmple, cmpge, nI_leI, nI_ltI, nI_eq, rL, rI, wL, wI, ob, aLet, nI_add, pk_mul, ↓reduceIte, if_true, if_false, eq_self, Nat.reduceEqDiff, Nat.reduceLeDiff, Nat.reduceLT, Nat.one_ne_zero, Nat.zero_ne_one, Nat.add_zero, Bool.false_eq_true, nI_neq]
          · simp (disch := omega) only [X9_tryBuying, r_lay, c1, z13, z14, c2, lt, eq, X9_tryBuying_J94, X9_tryBuying_J95, li0, li1, li2, li3, li4, li5, li6, li7, li8, li11, li12, li16, li24, li25, li26, li31, li32, li36, li40, li48, li52, li58, li59, li60, li63, li64, li88, li96, li130, li192, li255, li2208, li2304, li9999, li9, li13, li14, li30, li35, li44, li45, li46, li47, li97, li98, li100, li101, li104, li105, li108, li110, li111, li112, li114, li117, li122, li999999, li1000000, li2147483647, cmp0, cmpl, cmpg, cmple, cmpge, nI_leI, nI_ltI, nI_eq, rL, rI, wL, wI, ob, aLet, nI_add, pk_mul, ↓reduceIte, if_true, if_false, eq_self, Nat.reduceEqDiff, Nat.reduceLeDiff, Nat.reduceLT, Nat.one_ne_zero, Nat.zero_ne_one, Nat.add_zero, Bool.false_eq_true, nI_neq]
        · unfold gB
          dsimp only
          rw [if_neg (fun z => lt z.1)]
          exact same
  · have cb : cnB d i w (lst n pk) = false := decide_eq_false q
    rw [if_neg q] at rc
    have rc : X9_can (e.2.2.1 2) (nI i) (nI w) = some (nI 0) := rc
    have gb : gB d i w v (lst n pk) = v := by
      unfold gB
      cases v with
      | none =>
        dsimp only
        rw [cb]
        rfl
      | some b =>
        dsimp only
        rw [if_neg (fun z => by rw [cb] at z; exact absurd z.2 (by decide))]
    rw [gb]
    refine ⟨e.2, ?_, same, c6⟩
    cases v with
    | none =>
      have z13 : e.2.1 13 = -nI 4 := e13.trans hR.2
      simp (disch := omega) only [X9_tryBuying, r_lay, c1, z13, X9_tryBuying_J90, X9_tryBuying_J95, rc, li0, li1, li2, li3, li4, li5, li6, li7, li8, li11, li12, li16, li24, li25, li26, li31, li32, li36, li40, li48, li52, li58, li59, li60, li63, li64, li88, li96, li130, li192, li255, li2208, li2304, li9999, li9, li13, li14, li30, li35, li44, li45, li46, li47, li97, li98, li100, li101, li104, li105, li108, li110, li111, li112, li114, li117, li122, li999999, li1000000, li2147483647, cmp0, cmpl, cmpg, cmple, cmpge, nI_leI, nI_ltI, nI_eq, rL, rI, wL, wI, ob, aLet, nI_add, pk_mul, ↓reduceIte, if_true, if_false, eq_self, Nat.reduceEqDiff, Nat.reduceLeDiff, Nat.reduceLT, Nat.one_ne_zero, Nat.zero_ne_one, Nat.add_zero, Bool.false_eq_true, nI_neq]
    | some b =>
      obtain ⟨nb, pk2, g1, g2, rfl, g4, g5, g6, g7⟩ := hR.2
      have z13 : e.2.1 13 = nI (prl (lst nb pk2)) := e13.trans g5
      have z14 : e.2.1 14 = nI nb := e14.trans g6
      have p2 := prl_le g4 g2
      by_cases lt : prl (lst n pk) < prl (lst nb pk2)
      · simp (disch := omega) only [X9_tryBuying, r_lay, c1, z13, c2, lt, X9_tryBuying_J90, X9_tryBuying_J95, rc, li0, li1, li2, li3, li4, li5, li6, li7, li8, li11, li12, li16, li24, li25, li26, li31, li32, li36, li40, li48, li52, li58, li59, li60, li63, li64, li88, li96, li130, li192, li255, li2208, li2304, li9999, li9, li13, li14, li30, li35, li44, li45, li46, li47, li97, li98, li100, li101, li104, li105, li108, li110, li111, li112, li114, li117, li122, li999999, li1000000, li2147483647, cmp0, cmpl, cmpg, cmple, cmpge, nI_leI, nI_ltI, nI_eq, rL, rI, wL, wI, ob, aLet, nI_add, pk_mul, ↓reduceIte, if_true, if_false, eq_self, Nat.reduceEqDiff, Nat.reduceLeDiff, Nat.reduceLT, Nat.one_ne_zero, Nat.zero_ne_one, Nat.add_zero, Bool.false_eq_true, nI_neq]
      · by_cases eq : prl (lst n pk) = prl (lst nb pk2)
        · simp (disch := omega) only [X9_tryBuying, r_lay, c1, z13, z14, c2, eq, g1, Nat.lt_irrefl, X9_tryBuying_J94, X9_tryBuying_J95, li0, li1, li2, li3, li4, li5, li6, li7, li8, li11, li12, li16, li24, li25, li26, li31, li32, li36, li40, li48, li52, li58, li59, li60, li63, li64, li88, li96, li130, li192, li255, li2208, li2304, li9999, li9, li13, li14, li30, li35, li44, li45, li46, li47, li97, li98, li100, li101, li104, li105, li108, li110, li111, li112, li114, li117, li122, li999999, li1000000, li2147483647, cmp0, cmpl, cmpg, cmple, cmpge, nI_leI, nI_ltI, nI_eq, rL, rI, wL, wI, ob, aLet, nI_add, pk_mul, ↓reduceIte, if_true, if_false, eq_self, Nat.reduceEqDiff, Nat.reduceLeDiff, Nat.reduceLT, Nat.one_ne_zero, Nat.zero_ne_one, Nat.add_zero, Bool.false_eq_true, nI_neq]
        · simp (disch := omega) only [X9_tryBuying, r_lay, c1, z13, z14, c2, lt, eq, X9_tryBuying_J94, X9_tryBuying_J95, li0, li1, li2, li3, li4, li5, li6, li7, li8, li11, li12, li16, li24, li25, li26, li31, li32, li36, li40, li48, li52, li58, li59, li60, li63, li64, li88, li96, li130, li192, li255, li2208, li2304, li9999, li9, li13, li14, li30, li35, li44, li45, li46, li47, li97, li98, li100, li101, li104, li105, li108, li110, li111, li112, li114, li117, li122, li999999, li1000000, li2147483647, cmp0, cmpl, cmpg, cmple, cmpge, nI_leI, nI_ltI, nI_eq, rL, rI, wL, wI, ob, aLet, nI_add, pk_mul, ↓reduceIte, if_true, if_false, eq_self, Nat.reduceEqDiff, Nat.reduceLeDiff, Nat.reduceLT, Nat.one_ne_zero, Nat.zero_ne_one, Nat.add_zero, Bool.false_eq_true, nI_neq]
