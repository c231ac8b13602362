/-! holdings: all sets of n cells that alone are his -/
def tin (l : List Nat) (p : Nat) : Bool := l.any fun q => decide (p = q)
theorem tin_s (n : Nat) (pk : Nat → Nat) (p : Nat) : tin (lst (n + 1) pk) p = (tin (lst n pk) p || decide (p = pk n)) := by
  unfold tin
  rw [lst_s, List.any_append]
  simp
theorem tin_iff {n : Nat} {pk : Nat → Nat} {p : Nat} : tin (lst n pk) p = true ↔ ∃ k, k < n ∧ p = pk k := by
  unfold tin lst
  simp only [List.any_eq_true, List.mem_map, List.mem_range, decide_eq_true_eq]
  constructor
  · rintro ⟨x, ⟨k, h1, rfl⟩, h2⟩
    exact ⟨k, h1, h2⟩
  · rintro ⟨k, h1, h2⟩
    exact ⟨pk k, ⟨k, h1, rfl⟩, h2⟩
def wb (d : LD) (i p : Nat) : Nat := if lO d p = i + 1 then 0 else lO d p
def wby (d : LD) (i : Nat) (T : Nat → Bool) : Nat → Nat := fun p => if T p = true then i + 1 else wb d i p
theorem wb_le {d : LD} (ok : okL d) (i : Nat) {p : Nat} (hp : p < 36) : wb d i p ≤ lH d := by
  unfold wb
  split
  · omega
  · exact ok.2.2.2.2.2.2.2.2.1 p hp
theorem wby_le {d : LD} (ok : okL d) {i : Nat} (hi : i < lH d) (T : Nat → Bool) : ∀ p, p < 36 → wby d i T p ≤ lH d := fun p hp => by
  unfold wby
  split
  · omega
  · exact wb_le ok i hp
/-- the cells of a set, and what he says who has them alone -/
theorem c_byG {d : LD} {S : Rec} (ok : okL d) (hS : LandOf d S) {i : Nat} (hi : i < lH d) {y : Int64} {T : Nat → Bool} (hy : ∀ c, tb y c = true ↔ inC d c = true ∧ T (pl c) = true) : X2_speechBy S (nI i) y = some (nI (sy (giveD d (wby d i T)) i)) := by
  rw [c_by ok hS hi, sy_give]
  have ty : ∀ c, tb y c = (inC d c && T (pl c)) := fun c => by
    rw [Bool.eq_iff_iff, hy c, Bool.and_eq_true]
  have e1 : tb y = own (giveD d (wby d i T)) (i + 1) := funext fun c => by
    rw [ty, own_give]
    unfold wby wb
    cases inC d c
    · rfl
    · cases T (pl c)
      · simp
        split
        · omega
        · assumption
      · simp
  have e2 : (fun c => (own d 0 c || own d (i + 1) c) && !tb y c) = own (giveD d (wby d i T)) 0 := funext fun c => by
    rw [ty, own_give]
    unfold own wby wb
    cases inC d c
    · rfl
    · cases T (pl c)
      · simp
        by_cases z : lO d (pl c) = i + 1
        · simp [z]
        · simp [z]
      · simp
  rw [e2]
  exact congrArg (fun z => some (nI (sp d (lK d i) z (own (giveD d (wby d i T)) 0)))) e1
abbrev HS : Type := Nat × (Nat → Nat) × Nat
def gH (d : LD) (i h : Nat) (v : HS) (l : List Nat) : HS := if sy (giveD d (wby d i (tin l))) i = h then (v.1 + 1, (fun p => v.2.1 p + (tin l p).toNat), v.2.2 + 1) else (v.1, v.2.1, v.2.2 + 1)
theorem rn_all (d : LD) (i h : Nat) (E : Nat → Nat) : ∀ (m : Nat) (l : List Nat) (dd k : Nat) (v : HS), (rn (fun v l => gH d i h v (l.map E)) m l k dd v).2.2 = v.2.2 + nw m dd
  | 0, l, dd, k, v => by
    rw [rn_0, nw]
    unfold gH
    split <;> rfl
  | m + 1, l, 0, k, v => by
    rw [rn_e, nw]
    rfl
  | m + 1, l, dd + 1, k, v => by
    rw [rn_s, rn_all d i h E (m + 1) l dd, rn_all d i h E m, nw, Nat.add_assoc]
theorem rn_fit (d : LD) (i h : Nat) (E : Nat → Nat) : ∀ (m : Nat) (l : List Nat) (dd k : Nat) (v : HS), v.1 ≤ v.2.2 → (∀ p, v.2.1 p ≤ v.1) → (rn (fun v l => gH d i h v (l.map E)) m l k dd v).1 ≤ (rn (fun v l => gH d i h v (l.map E)) m l k dd v).2.2 ∧ ∀ p, (rn (fun v l => gH d i h v (l.map E)) m l k dd v).2.1 p ≤ (rn (fun v l => gH d i h v (l.map E)) m l k dd v).1
  | 0, l, dd, k, v, h1, h2 => by
    rw [rn_0]
    unfold gH
    split
    · refine ⟨by show v.1 + 1 ≤ v.2.2 + 1; omega, fun p => ?_⟩
      have := h2 p
      have := Bool.toNat_le (tin (l.map E) p)
      show v.2.1 p + (tin (l.map E) p).toNat ≤ v.1 + 1
      omega
    · exact ⟨by show v.1 ≤ v.2.2 + 1; omega, h2⟩
  | m + 1, l, 0, k, v, h1, h2 => by
    rw [rn_e]
    exact ⟨h1, h2⟩
  | m + 1, l, dd + 1, k, v, h1, h2 => by
    rw [rn_s]
    obtain ⟨g1, g2⟩ := rn_fit d i h E m (l ++ [k]) dd (k + 1) v h1 h2
    exact rn_fit d i h E (m + 1) l dd (k + 1) _ g1 g2
theorem c_mark : ∀ (m n : Nat) (x : Int64) (Z : Rec), m < n → cn (tb x) 64 = m → ∃ Z', X6_mark_L8 n x (nI m) Z = some Z' ∧ Z'.1 = Z.1 ∧ ∀ c, c < 64 → Z'.2.1 0 c = Z.2.1 0 c + nI (tb x c).toNat := by
  intro m
  induction m with
  | zero =>
    intro n x Z hn h
    obtain ⟨n, rfl⟩ : ∃ z, n = z + 1 := ⟨n - 1, by omega⟩
    refine ⟨Z, by simp (disch := omega) only [X6_mark_L8, li0, li1, li2, li3, li4, li5, li6, li7, li8, li11, li12, li16, li24, li25, li26, li31, li32, li36, li40, li48, li52, li58, li59, li60, li63, li64, li88, li96, li130, li192, li255, li2208, li2304, li9999, li9, li13, li14, li30, li35, li44, li45, li46, li47, li97, li98, li100, li101, li104, li105, li108, li110, li111, li112, li114, li117, li122, li999999, li1000000, li2147483647, cmp0, cmpl, cmpg, cmple, cmpge, nI_leI, nI_ltI, nI_eq, rL, rI, wL, wI, ob, aLet, nI_add, pk_mul, ↓reduceIte, if_true, if_false, eq_self, Nat.reduceEqDiff, Nat.reduceLeDiff, Nat.reduceLT, Nat.one_ne_zero, Nat.zero_ne_one, Nat.add_zero, Bool.false_eq_true, nI_neq, Nat.le_refl], rfl, fun c hc => ?_⟩
    rw [cn_zero.mp h c hc]
    show Z.2.1 0 c = Z.2.1 0 c + 0
    rw [Int32.add_zero]
  | succ m ih =>
    intro n x Z hn h
    obtain ⟨n, rfl⟩ : ∃ z, n = z + 1 := ⟨n - 1, by omega⟩
    obtain ⟨t, h1, h2, h3, h4, h5, h6, h7, h8⟩ := walk h
    have hm : m + 1 ≤ 64 := by
      rw [← h]
      exact cn_le _ _
    have z : ¬ m + 1 ≤ 0 := by omega
    have em : nI (m + 1) + -nI 1 = nI m := pk_m1 m
    have z2 : ¬ 64 ≤ t := by omega
    obtain ⟨Z', i1, i2, i3⟩ := ih n (x &&& (x - 1)) (sA Z 0 (upd (Z.2.1 0) t (Z.2.1 0 t + nI 1))) (by omega) h7
    refine ⟨Z', ?_, i2, fun c hc => ?_⟩
    · rw [← i1]
      simp (disch := omega) only [X6_mark_L8, h4, em, li0, li1, li2, li3, li4, li5, li6, li7, li8, li11, li12, li16, li24, li25, li26, li31, li32, li36, li40, li48, li52, li58, li59, li60, li63, li64, li88, li96, li130, li192, li255, li2208, li2304, li9999, li9, li13, li14, li30, li35, li44, li45, li46, li47, li97, li98, li100, li101, li104, li105, li108, li110, li111, li112, li114, li117, li122, li999999, li1000000, li2147483647, cmp0, cmpl, cmpg, cmple, cmpge, nI_leI, nI_ltI, nI_eq, rL, rI, wL, wI, ob, aLet, nI_add, pk_mul, ↓reduceIte, if_true, if_false, eq_self, Nat.reduceEqDiff, Nat.reduceLeDiff, Nat.reduceLT, Nat.one_ne_zero, Nat.zero_ne_one, Nat.add_zero, Bool.false_eq_true, nI_neq, z, z2]
    · rw [i3 c hc, h5 c hc]
      show upd (Z.2.1 0) t (Z.2.1 0 t + nI 1) c + _ = _
      by_cases y : c = t
      · rw [y, pk_us, h2, decide_eq_true rfl]
        show Z.2.1 0 t + nI 1 + 0 = Z.2.1 0 t + nI 1
        rw [Int32.add_zero]
      · rw [pk_un y, decide_eq_false y]
        simp
theorem map_lst (E : Nat → Nat) (n : Nat) (pk : Nat → Nat) : (lst n pk).map E = lst n (fun k => E (pk k)) := by
  unfold lst
  rw [List.map_map]
  rfl
def RH (d : LD) (all : Nat) (Z : Rec) (v : HS) : Prop := Z.1 1 = nI all ∧ Z.1 2 = nI v.1 ∧ ∀ c, c < 64 → Z.2.1 0 c = nI (if inC d c then v.2.1 (pl c) else 0)
theorem c_ask {d : LD} {S U T : Rec} (ok : okL d) (hS : LandOf d S) {i n h : Nat} (hi : i < lH d) (hn : n ≤ 3) (hh : h < 32) : ∃ U' T', X6_ask U S T (nI i) (nI n) (nI h) = some (U', T') ∧ RH d (nw n (cn (inP d) 36)) U' (rn (fun v l => gH d i h v (l.map (nthP (inP d)))) n [] 0 (cn (inP d) 36) (0, (fun _ => 0), 0)) := by
  have s36 : cn (inP d) 36 ≤ 36 := cn_le _ _
  obtain ⟨Z, z1, z2, z3⟩ := forUpE (fun m j v => X6_ask_L8 m j v) 64 (fun k Z => Z.1 2 = nI 0 ∧ ∀ c, c < k → Z.2.1 0 c = nI 0) (fun Z => Z.1 2 = nI 0 ∧ ∀ c, c < 64 → Z.2.1 0 c = nI 0) (fun m k Z hk hZ => by
      have h : ¬ 64 ≤ k := by omega
      refine ⟨sA Z 0 (upd (Z.2.1 0) k (nI 0)), ?_, hZ.1, fun c hc => ?_⟩
      · simp (disch := omega) only [X6_ask_L8, li0, li1, li2, li3, li4, li5, li6, li7, li8, li11, li12, li16, li24, li25, li26, li31, li32, li36, li40, li48, li52, li58, li59, li60, li63, li64, li88, li96, li130, li192, li255, li2208, li2304, li9999, li9, li13, li14, li30, li35, li44, li45, li46, li47, li97, li98, li100, li101, li104, li105, li108, li110, li111, li112, li114, li117, li122, li999999, li1000000, li2147483647, cmp0, cmpl, cmpg, cmple, cmpge, nI_leI, nI_ltI, nI_eq, rL, rI, wL, wI, ob, aLet, nI_add, pk_mul, ↓reduceIte, if_true, if_false, eq_self, Nat.reduceEqDiff, Nat.reduceLeDiff, Nat.reduceLT, Nat.one_ne_zero, Nat.zero_ne_one, Nat.add_zero, Bool.false_eq_true, nI_neq, h]
      · show upd (Z.2.1 0) k (nI 0) c = _
        by_cases y : c = k
        · rw [y, pk_us]
        · rw [pk_un y]
          exact hZ.2 c (by omega)) (fun m Z hZ => ⟨Z, by simp (disch := omega) only [X6_ask_L8, li0, li1, li2, li3, li4, li5, li6, li7, li8, li11, li12, li16, li24, li25, li26, li31, li32, li36, li40, li48, li52, li58, li59, li60, li63, li64, li88, li96, li130, li192, li255, li2208, li2304, li9999, li9, li13, li14, li30, li35, li44, li45, li46, li47, li97, li98, li100, li101, li104, li105, li108, li110, li111, li112, li114, li117, li122, li999999, li1000000, li2147483647, cmp0, cmpl, cmpg, cmple, cmpge, nI_leI, nI_ltI, nI_eq, rL, rI, wL, wI, ob, aLet, nI_add, pk_mul, ↓reduceIte, if_true, if_false, eq_self, Nat.reduceEqDiff, Nat.reduceLeDiff, Nat.reduceLT, Nat.one_ne_zero, Nat.zero_ne_one, Nat.add_zero, Bool.false_eq_true, nI_neq, Nat.le_refl], hZ⟩) 64 0 aFu (sI U 2 (nI 0)) rfl (by decide) ⟨rfl, fun c hc => absurd hc (by omega)⟩
  obtain ⟨x, hx, hb⟩ := c_every ok hS
  have hxI : ∀ c, tb x c = true ↔ InS d (inP d) c := fun c => by
    unfold InS
    rcases Nat.lt_or_ge c 64 with q | q
    · rw [hb c q]
      constructor
      · intro hc
        have hb' := inC_b ok hc
        exact ⟨hc, by rw [← inC_cl, cl_pl hb'.2.1]; exact hc⟩
      · exact fun h => h.1
    · rw [tb_big q, inC_64 ok q]
      simp
  obtain ⟨T', t1, t2⟩ := c_begin ok (P := inP d) (fun p h => h) hxI T hn
  have nwl : nw n (cn (inP d) 36) ≤ 7140 := by
    rcases (show n = 0 ∨ n = 1 ∨ n = 2 ∨ n = 3 by omega) with rfl | rfl | rfl | rfl
    · rw [nw]
      omega
    · exact (nw_step _ (by omega) 0 (by omega)).2.2
    · exact (nw_step _ (by omega) 1 (by omega)).2.2
    · exact (nw_step _ (by omega) 2 (by omega)).2.2
  obtain ⟨U', T2, l1, l2⟩ := c_allSets (F := fun f j (acc : Rec) T => X6_ask_L49 S (nI i) (nI h) f j acc T) (out := fun acc T => (acc, T)) (R := RH d (nw n (cn (inP d) 36))) (g := fun v l => gH d i h v (l.map (nthP (inP d)))) s36 hn
    (fun f acc T => by simp (disch := omega) only [X6_ask_L49, li0, li1, li2, li3, li4, li5, li6, li7, li8, li11, li12, li16, li24, li25, li26, li31, li32, li36, li40, li48, li52, li58, li59, li60, li63, li64, li88, li96, li130, li192, li255, li2208, li2304, li9999, li9, li13, li14, li30, li35, li44, li45, li46, li47, li97, li98, li100, li101, li104, li105, li108, li110, li111, li112, li114, li117, li122, li999999, li1000000, li2147483647, cmp0, cmpl, cmpg, cmple, cmpge, nI_leI, nI_ltI, nI_eq, rL, rI, wL, wI, ob, aLet, nI_add, pk_mul, ↓reduceIte, if_true, if_false, eq_self, Nat.reduceEqDiff, Nat.reduceLeDiff, Nat.reduceLT, Nat.one_ne_zero, Nat.zero_ne_one, Nat.add_zero, Bool.false_eq_true, nI_neq, Nat.le_refl])
    (fun f l acc v T T' pk hl hC hp hinc hadv hR => by
      obtain ⟨r0, r1, r2⟩ := hR
      have nt : ∀ k, k < n → nthP (inP d) (pk k) < 36 ∧ inP d (nthP (inP d) (pk k)) = true := fun k hk => by
        have := nth_at (hp k hk)
        exact ⟨this.1, this.2.1⟩
      obtain ⟨y, y1, y2⟩ := c_current hC s36 hn (fun k hk => by
        have := (nth_at hk).1
        exact cl_64 this) hp
      have hy : ∀ c, tb y c = true ↔ inC d c = true ∧ tin (lst n (fun k => nthP (inP d) (pk k))) (pl c) = true := fun c => by
        rw [y2 c, tin_iff]
        constructor
        · rintro ⟨k, k1, rfl⟩
          exact ⟨inC_cl.trans (nt k k1).2, k, k1, pl_cl⟩
        · rintro ⟨g1, k, k1, g2⟩
          exact ⟨k, k1, by rw [← g2, cl_pl (inC_b ok g1).2.1]⟩
      have sb := c_byG ok hS hi hy
      have em : nI (l + 1) + -nI 1 = nI l := pk_m1 l
      have z0 : ¬ l + 1 ≤ 0 := by omega
      have sl := sy_lt (giveD d (wby d i (tin (lst n (fun k => nthP (inP d) (pk k)))))) i
      rw [map_lst]
      unfold gH
      by_cases q : sy (giveD d (wby d i (tin (lst n (fun k => nthP (inP d) (pk k)))))) i = h
      · rw [if_pos q]
        obtain ⟨M, m1, m2, m3⟩ := c_mark (cn (tb y) 64) aFu y (sI acc 2 (nI (v.1 + 1))) (by have := cn_le (tb y) 64; show _ < 100000; omega) rfl
        have mk : X6_mark (sI acc 2 (nI (v.1 + 1))) y = some M := by
          unfold X6_mark
          rw [pc64, aLet, m1, ob]
        refine ⟨M, ?_, ?_, ?_, fun c hc => ?_⟩
        · simp (disch := omega) only [X6_ask_L49, X6_ask_J88, y1, sb, r1, q, mk, hadv, em, li0, li1, li2, li3, li4, li5, li6, li7, li8, li11, li12, li16, li24, li25, li26, li31, li32, li36, li40, li48, li52, li58, li59, li60, li63, li64, li88, li96, li130, li192, li255, li2208, li2304, li9999, li9, li13, li14, li30, li35, li44, li45, li46, li47, li97, li98, li100, li101, li104, li105, li108, li110, li111, li112, li114, li117, li122, li999999, li1000000, li2147483647, cmp0, cmpl, cmpg, cmple, cmpge, nI_leI, nI_ltI, nI_eq, rL, rI, wL, wI, ob, aLet, nI_add, pk_mul, ↓reduceIte, if_true, if_false, eq_self, Nat.reduceEqDiff, Nat.reduceLeDiff, Nat.reduceLT, Nat.one_ne_zero, Nat.zero_ne_one, Nat.add_zero, Bool.false_eq_true, nI_neq, z0]
        · rw [m2]
          exact r0
        · rw [m2]
          rfl
        · rw [m3 c hc]
          show acc.2.1 0 c + _ = _
          rw [r2 c hc, nI_add]
          refine congrArg nI ?_
          have ty : tb y c = (inC d c && tin (lst n (fun k => nthP (inP d) (pk k))) (pl c)) := by
            rw [Bool.eq_iff_iff, hy c, Bool.and_eq_true]
          rw [ty]
          cases inC d c
          · rfl
          · rfl
      · rw [if_neg q]
        refine ⟨acc, ?_, r0, r1, r2⟩
        simp (disch := omega) only [X6_ask_L49, X6_ask_J88, y1, sb, q, hadv, em, li0, li1, li2, li3, li4, li5, li6, li7, li8, li11, li12, li16, li24, li25, li26, li31, li32, li36, li40, li48, li52, li58, li59, li60, li63, li64, li88, li96, li130, li192, li255, li2208, li2304, li9999, li9, li13, li14, li30, li35, li44, li45, li46, li47, li97, li98, li100, li101, li104, li105, li108, li110, li111, li112, li114, li117, li122, li999999, li1000000, li2147483647, cmp0, cmpl, cmpg, cmple, cmpge, nI_leI, nI_ltI, nI_eq, rL, rI, wL, wI, ob, aLet, nI_add, pk_mul, ↓reduceIte, if_true, if_false, eq_self, Nat.reduceEqDiff, Nat.reduceLeDiff, Nat.reduceLT, Nat.one_ne_zero, Nat.zero_ne_one, Nat.add_zero, Bool.false_eq_true, nI_neq, z0]) nwl t2 (acc := sI Z 1 (nI (nw n (cn (inP d) 36)))) (v := (0, (fun _ => 0), 0)) ⟨rfl, z2, fun c hc => by
      show Z.2.1 0 c = _
      rw [z3 c hc]
      split <;> rfl⟩
  refine ⟨U', T2, ?_, l2⟩
  have e1 : (sI Z 1 (nI (nw n (cn (inP d) 36)))).1 1 = nI (nw n (cn (inP d) 36)) := rfl
  have l1 : X6_ask_L49 S (nI i) (nI h) aFu (nI (nw n (cn (inP d) 36))) (sI Z 1 (nI (nw n (cn (inP d) 36)))) T' = some (U', T2) := l1
  simp (disch := omega) only [X6_ask, z1, hx, t1, e1, l1, li0, li1, li2, li3, li4, li5, li6, li7, li8, li11, li12, li16, li24, li25, li26, li31, li32, li36, li40, li48, li52, li58, li59, li60, li63, li64, li88, li96, li130, li192, li255, li2208, li2304, li9999, li9, li13, li14, li30, li35, li44, li45, li46, li47, li97, li98, li100, li101, li104, li105, li108, li110, li111, li112, li114, li117, li122, li999999, li1000000, li2147483647, cmp0, cmpl, cmpg, cmple, cmpge, nI_leI, nI_ltI, nI_eq, rL, rI, wL, wI, ob, aLet, nI_add, pk_mul, ↓reduceIte, if_true, if_false, eq_self, Nat.reduceEqDiff, Nat.reduceLeDiff, Nat.reduceLT, Nat.one_ne_zero, Nat.zero_ne_one, Nat.add_zero, Bool.false_eq_true, nI_neq]
/-! the same in the reference -/
theorem row_giveC {d : LD} {w w' : Nat → Nat} {f : Nat → Int32} (h : ∀ p, p < 36 → w p = w' p) (hf : RowOf (giveD d w) f) : RowOf (giveD d w') f := by
  obtain ⟨b1, b2, b3, b4, b5, b6, b7, b8, b9, b10⟩ := hf
  exact ⟨b1, b2, b3, b4, b5, b6, b7, b8, fun p hp => (b9 p hp).trans (congrArg nI (h p hp)), b10⟩
def RR (d : LD) (m : Rec) (Z : Rec) (v : HS) : Prop := Fr m Z ∧ Z.1 20 = nI v.1 ∧ Z.1 21 = nI v.2.2 ∧ ∀ p, p < 36 → Z.2.1 19 p = nI (v.2.1 p)
theorem r_tryH {d : LD} {m : Rec} (ok : okL d) (hf : RowOf d (m.2.1 0)) {i n h : Nat} (hi : i < lH d) (hn : n ≤ 3) (hh : h < 32) {Z : Rec} {v : HS} (hR : RR d m Z v) {pk : Nat → Nat} (hp : ∀ k, k < n → pk k < 36) (hd : ∀ j k, j < k → k < n → pk j < pk k) (ht : ∀ k, k < n → Z.2.1 11 k = nI (pk k)) : ∃ Z', X9_tryHolding Z (nI i) (nI n) (nI h) = some Z' ∧ RR d m Z' (gH d i h v (lst n pk)) ∧ Z'.2.1 11 = Z.2.1 11 := by
  have h6 := ok.1
  obtain ⟨r0, r1, r2, r3⟩ := hR
  have hf0 : RowOf d (Z.2.1 0) := by
    rw [r0.2.2.1]
    exact hf
  -- the row, his cells nobody's
  obtain ⟨Y, y1, y2, y3, y4, y5, y6⟩ := forUpE (fun t j z => X9_tryHolding_L7 (nI i) t j z) 36 (fun p Y => Fr Z Y ∧ RowOf (giveD d (fun q => if q < p then wb d i q else lO d q)) (Y.2.1 2) ∧ Y.1 = Z.1 ∧ Y.2.1 19 = Z.2.1 19 ∧ Y.2.1 11 = Z.2.1 11) (fun Y => Fr Z Y ∧ RowOf (giveD d (wb d i)) (Y.2.1 2) ∧ Y.1 = Z.1 ∧ Y.2.1 19 = Z.2.1 19 ∧ Y.2.1 11 = Z.2.1 11) (fun t p Y hpp hY => by
      obtain ⟨g1, g2, g3, g4, g5⟩ := hY
      have e2 : Y.2.1 0 (52 + p) = nI (lO d p) := by
        rw [g1.2.2.1]
        exact hf0.2.2.2.2.2.2.2.2.1 p hpp
      have ho := ok.2.2.2.2.2.2.2.2.1 p hpp
      have hlt : ¬ 36 ≤ p := by omega
      have okw : okL (giveD d (fun q => if q < p then wb d i q else lO d q)) := ok_give ok (fun q hq => by
        show (if q < p then wb d i q else lO d q) ≤ lH d
        split
        · exact wb_le ok i hq
        · exact ok.2.2.2.2.2.2.2.2.1 q hq)
      have rs := row_set okw g2 hpp (wb d i p)
      have es : setw (fun q => if q < p then wb d i q else lO d q) p (wb d i p) = fun q => if q < p + 1 then wb d i q else lO d q := funext fun q => by
        unfold setw
        by_cases y : q = p
        · rw [if_pos y, if_pos (by omega), y]
        · rw [if_neg y]
          show (if q < p then wb d i q else lO d q) = _
          by_cases w : q < p
          · rw [if_pos w, if_pos (by omega)]
          · rw [if_neg w, if_neg (by omega)]
      rw [es] at rs
      refine ⟨sA Y 2 (upd (Y.2.1 2) (52 + p) (nI (wb d i p))), ?_, Fr_A g1 (by omega), rs, g3, g4, g5⟩
      unfold wb
      by_cases y : lO d p = i + 1
      · rw [if_pos y]
        simp (disch := omega) only [X9_tryHolding_L7, e2, y, li0, li1, li2, li3, li4, li5, li6, li7, li8, li11, li12, li16, li24, li25, li26, li31, li32, li36, li40, li48, li52, li58, li59, li60, li63, li64, li88, li96, li130, li192, li255, li2208, li2304, li9999, li9, li13, li14, li30, li35, li44, li45, li46, li47, li97, li98, li100, li101, li104, li105, li108, li110, li111, li112, li114, li117, li122, li999999, li1000000, li2147483647, cmp0, cmpl, cmpg, cmple, cmpge, nI_leI, nI_ltI, nI_eq, rL, rI, wL, wI, ob, aLet, nI_add, pk_mul, ↓reduceIte, if_true, if_false, eq_self, Nat.reduceEqDiff, Nat.reduceLeDiff, Nat.reduceLT, Nat.one_ne_zero, Nat.zero_ne_one, Nat.add_zero, Bool.false_eq_true, nI_neq, hlt]
      · rw [if_neg y]
        simp (disch := omega) only [X9_tryHolding_L7, e2, y, li0, li1, li2, li3, li4, li5, li6, li7, li8, li11, li12, li16, li24, li25, li26, li31, li32, li36, li40, li48, li52, li58, li59, li60, li63, li64, li88, li96, li130, li192, li255, li2208, li2304, li9999, li9, li13, li14, li30, li35, li44, li45, li46, li47, li97, li98, li100, li101, li104, li105, li108, li110, li111, li112, li114, li117, li122, li999999, li1000000, li2147483647, cmp0, cmpl, cmpg, cmple, cmpge, nI_leI, nI_ltI, nI_eq, rL, rI, wL, wI, ob, aLet, nI_add, pk_mul, ↓reduceIte, if_true, if_false, eq_self, Nat.reduceEqDiff, Nat.reduceLeDiff, Nat.reduceLT, Nat.one_ne_zero, Nat.zero_ne_one, Nat.add_zero, Bool.false_eq_true, nI_neq, hlt]) (fun t Y hY => ⟨Y, by simp (disch := omega) only [X9_tryHolding_L7, li0, li1, li2, li3, li4, li5, li6, li7, li8, li11, li12, li16, li24, li25, li26, li31, li32, li36, li40, li48, li52, li58, li59, li60, li63, li64, li88, li96, li130, li192, li255, li2208, li2304, li9999, li9, li13, li14, li30, li35, li44, li45, li46, li47, li97, li98, li100, li101, li104, li105, li108, li110, li111, li112, li114, li117, li122, li999999, li1000000, li2147483647, cmp0, cmpl, cmpg, cmple, cmpge, nI_leI, nI_ltI, nI_eq, rL, rI, wL, wI, ob, aLet, nI_add, pk_mul, ↓reduceIte, if_true, if_false, eq_self, Nat.reduceEqDiff, Nat.reduceLeDiff, Nat.reduceLT, Nat.one_ne_zero, Nat.zero_ne_one, Nat.add_zero, Bool.false_eq_true, nI_neq, Nat.le_refl], hY.1, by
      exact row_giveC (fun p hp => if_pos hp) hY.2.1, hY.2.2⟩) 36 0 aFu (sA Z 2 (laid (Z.2.1 0) (Z.2.1 2) 96)) rfl (by decide) ⟨fr_lay Z, row_laid ok hf0, rfl, rfl, rfl⟩
  -- the set is his
  obtain ⟨X, x1, x2, x3, x4, x5, x6⟩ := forUpE (fun t j z => X9_tryHolding_L63 (nI n) (nI i) t j z) n (fun k X => Fr Z X ∧ RowOf (giveD d (wby d i (tin (lst k pk)))) (X.2.1 2) ∧ X.1 = Z.1 ∧ X.2.1 19 = Z.2.1 19 ∧ X.2.1 11 = Z.2.1 11) (fun X => Fr Z X ∧ RowOf (giveD d (wby d i (tin (lst n pk)))) (X.2.1 2) ∧ X.1 = Z.1 ∧ X.2.1 19 = Z.2.1 19 ∧ X.2.1 11 = Z.2.1 11) (fun t k X hk hX => by
      obtain ⟨g1, g2, g3, g4, g5⟩ := hX
      have hlt : ¬ n ≤ k := by omega
      have e2 : X.2.1 11 k = nI (pk k) := by
        rw [g5]
        exact ht k hk
      have hpk := hp k hk
      have rs := row_set (ok_give ok (wby_le ok hi _)) g2 hpk (i + 1)
      have es : setw (wby d i (tin (lst k pk))) (pk k) (i + 1) = wby d i (tin (lst (k + 1) pk)) := funext fun q => by
        unfold setw wby
        rw [tin_s]
        by_cases y : q = pk k
        · rw [if_pos y, decide_eq_true y, Bool.or_true, if_pos rfl]
        · rw [if_neg y, decide_eq_false y, Bool.or_false]
      rw [es] at rs
      refine ⟨sA X 2 (upd (X.2.1 2) (52 + pk k) (nI (i + 1))), ?_, Fr_A g1 (by omega), rs, g3, g4, g5⟩
      simp (disch := omega) only [X9_tryHolding_L63, e2, li0, li1, li2, li3, li4, li5, li6, li7, li8, li11, li12, li16, li24, li25, li26, li31, li32, li36, li40, li48, li52, li58, li59, li60, li63, li64, li88, li96, li130, li192, li255, li2208, li2304, li9999, li9, li13, li14, li30, li35, li44, li45, li46, li47, li97, li98, li100, li101, li104, li105, li108, li110, li111, li112, li114, li117, li122, li999999, li1000000, li2147483647, cmp0, cmpl, cmpg, cmple, cmpge, nI_leI, nI_ltI, nI_eq, rL, rI, wL, wI, ob, aLet, nI_add, pk_mul, ↓reduceIte, if_true, if_false, eq_self, Nat.reduceEqDiff, Nat.reduceLeDiff, Nat.reduceLT, Nat.one_ne_zero, Nat.zero_ne_one, Nat.add_zero, Bool.false_eq_true, nI_neq, hlt]) (fun t X hX => ⟨X, by simp (disch := omega) only [X9_tryHolding_L63, li0, li1, li2, li3, li4, li5, li6, li7, li8, li11, li12, li16, li24, li25, li26, li31, li32, li36, li40, li48, li52, li58, li59, li60, li63, li64, li88, li96, li130, li192, li255, li2208, li2304, li9999, li9, li13, li14, li30, li35, li44, li45, li46, li47, li97, li98, li100, li101, li104, li105, li108, li110, li111, li112, li114, li117, li122, li999999, li1000000, li2147483647, cmp0, cmpl, cmpg, cmple, cmpge, nI_leI, nI_ltI, nI_eq, rL, rI, wL, wI, ob, aLet, nI_add, pk_mul, ↓reduceIte, if_true, if_false, eq_self, Nat.reduceEqDiff, Nat.reduceLeDiff, Nat.reduceLT, Nat.one_ne_zero, Nat.zero_ne_one, Nat.add_zero, Bool.false_eq_true, nI_neq, Nat.le_refl], hX⟩) n 0 aFu Y (by omega) (by show _ < 100000; omega) ⟨y2, row_giveC (fun p hp => by
      unfold wby
      have : tin (lst 0 pk) p = false := rfl
      rw [this]
      rfl) y3, y4, y5, y6⟩
  have sr := r_says (ok_give ok (wby_le ok hi (tin (lst n pk)))) x3 (i := i) hi
  have sl := sy_lt (giveD d (wby d i (tin (lst n pk)))) i
  have X21 : X.1 21 = nI v.2.2 := by
    rw [x4]
    exact r2
  have X20 : X.1 20 = nI v.1 := by
    rw [x4]
    exact r1
  have f20 : ∀ w, (sI X 21 w).1 20 = nI v.1 := fun w => X20
  have g2' : ∀ w, (sI X 21 w).2.1 2 = X.2.1 2 := fun w => rfl
  have frX : Fr m X := Fr_trans r0 x2
  unfold gH
  by_cases q : sy (giveD d (wby d i (tin (lst n pk)))) i = h
  · rw [if_pos q]
    obtain ⟨V, v1, v2, v3, v4, v5⟩ := forUpE (fun t j z => X9_tryHolding_L128 (nI n) t j z) n (fun k V => Fr m V ∧ V.1 = (sI (sI X 21 (nI (v.2.2 + 1))) 20 (nI (v.1 + 1))).1 ∧ V.2.1 11 = Z.2.1 11 ∧ ∀ p, p < 36 → V.2.1 19 p = nI (v.2.1 p + (tin (lst k pk) p).toNat)) (fun V => Fr m V ∧ V.1 = (sI (sI X 21 (nI (v.2.2 + 1))) 20 (nI (v.1 + 1))).1 ∧ V.2.1 11 = Z.2.1 11 ∧ ∀ p, p < 36 → V.2.1 19 p = nI (v.2.1 p + (tin (lst n pk) p).toNat)) (fun t k V hk hV => by
        obtain ⟨g1, g3, g5, g4⟩ := hV
        have hlt : ¬ n ≤ k := by omega
        have e2 : V.2.1 11 k = nI (pk k) := by
          rw [g5]
          exact ht k hk
        have hpk := hp k hk
        have e4 := g4 _ hpk
        have nt : tin (lst k pk) (pk k) = false := by
          cases w : tin (lst k pk) (pk k)
          · rfl
          · obtain ⟨j, j1, j2⟩ := tin_iff.mp w
            have := hd j k j1 hk
            omega
        rw [nt] at e4
        have e4 : V.2.1 19 (pk k) = nI (v.2.1 (pk k)) := e4
        refine ⟨sA V 19 (upd (V.2.1 19) (pk k) (nI (v.2.1 (pk k) + 1))), ?_, Fr_A g1 (by omega), g3, g5, fun p hp => ?_⟩
        · simp (disch := omega) only [X9_tryHolding_L128, e2, e4, li0, li1, li2, li3, li4, li5, li6, li7, li8, li11, li12, li16, li24, li25, li26, li31, li32, li36, li40, li48, li52, li58, li59, li60, li63, li64, li88, li96, li130, li192, li255, li2208, li2304, li9999, li9, li13, li14, li30, li35, li44, li45, li46, li47, li97, li98, li100, li101, li104, li105, li108, li110, li111, li112, li114, li117, li122, li999999, li1000000, li2147483647, cmp0, cmpl, cmpg, cmple, cmpge, nI_leI, nI_ltI, nI_eq, rL, rI, wL, wI, ob, aLet, nI_add, pk_mul, ↓reduceIte, if_true, if_false, eq_self, Nat.reduceEqDiff, Nat.reduceLeDiff, Nat.reduceLT, Nat.one_ne_zero, Nat.zero_ne_one, Nat.add_zero, Bool.false_eq_true, nI_neq, hlt]
        · show upd (V.2.1 19) (pk k) _ p = _
          rw [tin_s]
          by_cases y : p = pk k
          · rw [y, pk_us, nt, decide_eq_true rfl]
            rfl
          · rw [pk_un y, decide_eq_false y, Bool.or_false]
            exact g4 p hp) (fun t V hV => ⟨V, by simp (disch := omega) only [X9_tryHolding_L128, li0, li1, li2, li3, li4, li5, li6, li7, li8, li11, li12, li16, li24, li25, li26, li31, li32, li36, li40, li48, li52, li58, li59, li60, li63, li64, li88, li96, li130, li192, li255, li2208, li2304, li9999, li9, li13, li14, li30, li35, li44, li45, li46, li47, li97, li98, li100, li101, li104, li105, li108, li110, li111, li112, li114, li117, li122, li999999, li1000000, li2147483647, cmp0, cmpl, cmpg, cmple, cmpge, nI_leI, nI_ltI, nI_eq, rL, rI, wL, wI, ob, aLet, nI_add, pk_mul, ↓reduceIte, if_true, if_false, eq_self, Nat.reduceEqDiff, Nat.reduceLeDiff, Nat.reduceLT, Nat.one_ne_zero, Nat.zero_ne_one, Nat.add_zero, Bool.false_eq_true, nI_neq, Nat.le_refl], hV⟩) n 0 aFu (sI (sI X 21 (nI (v.2.2 + 1))) 20 (nI (v.1 + 1))) (by omega) (by show _ < 100000; omega) ⟨Fr_I (Fr_I frX (by omega)) (by omega), rfl, x6, fun p hp => by
        have : tin (lst 0 pk) p = false := rfl
        rw [this]
        show X.2.1 19 p = nI (v.2.1 p)
        rw [x5]
        exact r3 p hp⟩
    refine ⟨V, ?_, ⟨v2, ?_, ?_, v5⟩, v4⟩
    · simp (disch := omega) only [X9_tryHolding, r_lay, y1, x1, X21, g2', f20, sr, q, v1, li0, li1, li2, li3, li4, li5, li6, li7, li8, li11, li12, li16, li24, li25, li26, li31, li32, li36, li40, li48, li52, li58, li59, li60, li63, li64, li88, li96, li130, li192, li255, li2208, li2304, li9999, li9, li13, li14, li30, li35, li44, li45, li46, li47, li97, li98, li100, li101, li104, li105, li108, li110, li111, li112, li114, li117, li122, li999999, li1000000, li2147483647, cmp0, cmpl, cmpg, cmple, cmpge, nI_leI, nI_ltI, nI_eq, rL, rI, wL, wI, ob, aLet, nI_add, pk_mul, ↓reduceIte, if_true, if_false, eq_self, Nat.reduceEqDiff, Nat.reduceLeDiff, Nat.reduceLT, Nat.one_ne_zero, Nat.zero_ne_one, Nat.add_zero, Bool.false_eq_true, nI_neq]
    · rw [v3]
      rfl
    · rw [v3]
      rfl
  · rw [if_neg q]
    refine ⟨sI X 21 (nI (v.2.2 + 1)), ?_, ⟨Fr_I frX (by omega), f20 _, rfl, fun p hp => ?_⟩, x6⟩
    · simp (disch := omega) only [X9_tryHolding, r_lay, y1, x1, X21, g2', sr, q, li0, li1, li2, li3, li4, li5, li6, li7, li8, li11, li12, li16, li24, li25, li26, li31, li32, li36, li40, li48, li52, li58, li59, li60, li63, li64, li88, li96, li130, li192, li255, li2208, li2304, li9999, li9, li13, li14, li30, li35, li44, li45, li46, li47, li97, li98, li100, li101, li104, li105, li108, li110, li111, li112, li114, li117, li122, li999999, li1000000, li2147483647, cmp0, cmpl, cmpg, cmple, cmpge, nI_leI, nI_ltI, nI_eq, rL, rI, wL, wI, ob, aLet, nI_add, pk_mul, ↓reduceIte, if_true, if_false, eq_self, Nat.reduceEqDiff, Nat.reduceLeDiff, Nat.reduceLT, Nat.one_ne_zero, Nat.zero_ne_one, Nat.add_zero, Bool.false_eq_true, nI_neq]
    · show X.2.1 19 p = _
      rw [x5]
      exact r3 p hp
