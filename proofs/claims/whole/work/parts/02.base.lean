/-! the abstract layer: the cells from a base on by number (0..3: two texts, the table of kinds, the script); a row an instruction -/
def lw_gt : List Cond := lw_tbl.filter goodWord
theorem a_mem {w : Cond} (i : Nat) (hi : lw_tbl[i]? = some w) (hg : goodWord w = true) : w ∈ lw_gt := List.mem_filter.mpr ⟨List.mem_of_getElem? hi, hg⟩
theorem a_good : GoodIn lw_gt lw_gt := fun w hw => ⟨hw, good_of_word (List.mem_filter.mp hw).2⟩
theorem a_goodc {w : Cond} {ws : List Cond} (h : w ∈ lw_gt) (hs : GoodIn lw_gt ws) : GoodIn lw_gt (w :: ws) := fun x hx => (List.mem_cons.mp hx).elim (fun e => by rw [e]; exact a_good w h) (hs x)
abbrev aH : Type := Nat → Option va_E
abbrev aG : Type := va_G × (Nat → ClassId) × Nat × (Nat → Nat)
def a_ad (G : aG) (k : Nat) : Nat := if k < 4 then G.2.2.2 k else G.2.2.1 + k
def a_ev (G : aG) (v : Value) : Value := match v with
  | .ref k => .ref (a_ad G k)
  | v => v
def a_arr (G : aG) (a : vp_A) : vp_A := match a with
  | (n, .inr (.inr (.inr (.inr f)))) => (n, .inr (.inr (.inr (.inr (fun j => (f j).map (a_ad G))))))
  | a => a
def a_ee (G : aG) (e : va_E) : va_E := match e with
  | .inl (t, a) => .inl (G.2.1 t, a_arr G a)
  | .inr (c, fs) => .inr (c, fs.map (a_ev G))
def a_tys (G : aG) : List (ClassId × FieldType) := [(G.2.1 0, .int), (G.2.1 1, .long), (G.2.1 2, .boolean), (G.2.1 3, .object "GlebeVowels$Land"), (G.2.1 4, .object "GlebeVowels$Sheet")]
def a_low (G : aG) : Nat → Prop := fun q => G.2.2.1 + 4 ≤ q
def a_P (G : aG) (h : aH) (nx : Nat) (H : Heap) : Prop := H.size = G.2.2.1 + nx ∧ ∀ (k : Nat) (e : va_E), h k = some e → 4 ≤ k ∧ va_at G.1 vwCl (G.2.2.1 + k, a_ee G e) H
def a_set (h : aH) (k : Nat) (e : va_E) : aH := fun j => if j = k then some e else h j
theorem a_set_s {h : aH} {k : Nat} {e : va_E} : a_set h k e k = some e := by simp [a_set]
theorem a_set_n {h : aH} {k j : Nat} {e : va_E} (hj : j ≠ k) : a_set h k e j = h j := by simp [a_set, hj]
theorem a_P.lt {G : aG} {h : aH} {nx : Nat} {H : Heap} (hP : a_P G h nx H) {k : Nat} {e : va_E} (hk : h k = some e) : k < nx := by
  have h1 := (hP.2 k e hk).2.lt
  have h2 := hP.1
  dsimp only at h1
  omega
theorem a_P.put {G : aG} {h : aH} {nx : Nat} {H H1 : Heap} {k : Nat} {e : va_E} (hP : a_P G h nx H) (h4 : 4 ≤ k) (he : va_at G.1 vwCl (G.2.2.1 + k, a_ee G e) H1) (hz : H1.size = H.size) (ho : ∀ q : Nat, q ≠ G.2.2.1 + k → H1[q]? = H[q]?) : a_P G (a_set h k e) nx H1 := by
  refine ⟨by rw [hz]; exact hP.1, fun j e' hj => ?_⟩
  by_cases hjk : j = k
  · subst hjk
    rw [a_set_s] at hj
    cases hj
    exact ⟨h4, he⟩
  · rw [a_set_n hjk] at hj
    obtain ⟨h1, h2⟩ := hP.2 j e' hj
    exact ⟨h1, h2.kept (ho _ (by dsimp only; omega))⟩
theorem a_P.new {G : aG} {h : aH} {nx : Nat} {H H1 : Heap} {e : va_E} (hP : a_P G h nx H) (h4 : 4 ≤ nx) (he : va_at G.1 vwCl (G.2.2.1 + nx, a_ee G e) H1) (hz : H1.size = H.size + 1) (ho : ∀ q : Nat, q < H.size → H1[q]? = H[q]?) : a_P G (a_set h nx e) (nx + 1) H1 := by
  refine ⟨by rw [hz, hP.1]; omega, fun j e' hj => ?_⟩
  by_cases hjk : j = nx
  · subst hjk
    rw [a_set_s] at hj
    cases hj
    exact ⟨h4, he⟩
  · rw [a_set_n hjk] at hj
    obtain ⟨h1, h2⟩ := hP.2 j e' hj
    exact ⟨h1, h2.kept (ho _ h2.lt)⟩

abbrev aX : Type := Program × Launch × Env × Room × State × MethodId × Array Value × List Frame × Method × Code × (State → Prop)
abbrev xp (X : aX) : Program := X.1
abbrev xl (X : aX) : Launch := X.2.1
abbrev xe (X : aX) : Env := X.2.2.1
abbrev xR (X : aX) : Room := X.2.2.2.1
abbrev xs (X : aX) : State := X.2.2.2.2.1
abbrev xm (X : aX) : MethodId := X.2.2.2.2.2.1
abbrev xa (X : aX) : Array Value := X.2.2.2.2.2.2.1
abbrev xb (X : aX) : List Frame := X.2.2.2.2.2.2.2.1
abbrev xt (X : aX) : Method := X.2.2.2.2.2.2.2.2.1
abbrev xc (X : aX) : Code := X.2.2.2.2.2.2.2.2.2.1
abbrev xQ (X : aX) : State → Prop := X.2.2.2.2.2.2.2.2.2.2
abbrev a_el (G : aG) (q : Nat × Value) : Nat × Value := (q.1, a_ev G q.2)
def aV (X : aX) (G : aG) (nL pc : Nat) (lv : List (Nat × Value)) (st : List Value) (h : aH) (nx k n : Nat) : Prop :=
  ∀ (H : Heap) (locs : List Loc) (ls : Array Slot), a_P G h nx H → va_S (a_low G) (xs X).heap H locs → lv_has ls nL (lv.map (a_el G)) →
    W (xp X) (xl X) (xe X) (xR X) (xs X) (xm X) (xa X) (xb X) (xt X) (xc X) H locs k n (xQ X) (F0 (xm X) pc ls (st.map (a_ev G)))

def a_nF : List (String × Nat × String × String × String × String) := [("GlebeVowels", 103, "GlebeVowels$Land", "holders", "I", "GlebeVowels"), ("GlebeVowels$Tape", 66, "GlebeVowels$Land", "holders", "I", "GlebeVowels"), ("GlebeVowels", 110, "GlebeVowels$Land", "kinds", "[I", "GlebeVowels"), ("GlebeVowels$Tape", 63, "GlebeVowels$Land", "kinds", "[I", "GlebeVowels"), ("GlebeVowels$Tape", 73, "GlebeVowels$Land", "rows", "I", "GlebeVowels"), ("GlebeVowels", 321, "GlebeVowels$Land", "rows", "I", "GlebeVowels"), ("GlebeVowels$Tape", 76, "GlebeVowels$Land", "columns", "I", "GlebeVowels"), ("GlebeVowels", 318, "GlebeVowels$Land", "columns", "I", "GlebeVowels"), ("GlebeVowels$Tape", 94, "GlebeVowels$Land", "words", "I", "GlebeVowels"), ("GlebeVowels", 324, "GlebeVowels$Land", "words", "I", "GlebeVowels"), ("GlebeVowels", 150, "GlebeVowels$Land", "lengths", "[I", "GlebeVowels"), ("GlebeVowels$Tape", 97, "GlebeVowels$Land", "lengths", "[I", "GlebeVowels"), ("GlebeVowels", 153, "GlebeVowels$Land", "needs", "[I", "GlebeVowels"), ("GlebeVowels$Tape", 100, "GlebeVowels$Land", "needs", "[I", "GlebeVowels"), ("GlebeVowels$Tape", 103, "GlebeVowels$Land", "change", "[I", "GlebeVowels"), ("GlebeVowels", 177, "GlebeVowels$Land", "year", "I", "GlebeVowels"), ("GlebeVowels$Tape", 81, "GlebeVowels$Land", "sound", "[J", "GlebeVowels"), ("GlebeVowels", 114, "GlebeVowels$Land", "held", "[J", "GlebeVowels"), ("GlebeVowels$Tape", 88, "GlebeVowels$Land", "held", "[J", "GlebeVowels"), ("GlebeVowels", 285, "GlebeVowels$Sheet", "lane", "I", "GlebeVowels"), ("GlebeVowels", 280, "GlebeVowels$Sheet", "items", "[J", "GlebeVowels")]
def a_nM : List (String × Nat × MethodName × String) := [("GlebeVowels", 9, ⟨"GlebeVowels$Tape", "<init>", "()V"⟩, "GlebeVowels"), ("GlebeVowels", 18, ⟨"GlebeVowels$Land", "<init>", "()V"⟩, "GlebeVowels"), ("GlebeVowels", 25, ⟨"GlebeVowels$Past", "<init>", "()V"⟩, "GlebeVowels"), ("GlebeVowels", 48, ⟨"GlebeVowels$CellSets", "<init>", "()V"⟩, "GlebeVowels"), ("GlebeVowels", 55, ⟨"GlebeVowels$Survey", "<init>", "()V"⟩, "GlebeVowels"), ("GlebeVowels", 62, ⟨"GlebeVowels$Marriages", "<init>", "()V"⟩, "GlebeVowels"), ("GlebeVowels", 69, ⟨"GlebeVowels$ChangeFinder", "<init>", "()V"⟩, "GlebeVowels"), ("GlebeVowels$Land", 87, ⟨"GlebeVowels", "beside", "(J)J"⟩, "GlebeVowels"), ("GlebeVowels$Land", 114, ⟨"GlebeVowels", "covers", "(II)Z"⟩, "GlebeVowels"), ("GlebeVowels$Past", 24, ⟨"GlebeVowels$Land", "<init>", "()V"⟩, "GlebeVowels"), ("GlebeVowels$Marriages", 42, ⟨"GlebeVowels", "leastCell", "(J)I"⟩, "GlebeVowels"), ("GlebeVowels$Marriages", 58, ⟨"GlebeVowels", "hasBit", "(II)Z"⟩, "GlebeVowels"), ("GlebeVowels$Survey", 54, ⟨"GlebeVowels", "leastCell", "(J)I"⟩, "GlebeVowels")]
abbrev a_wF (q : String × Nat × String × String × String × String) : Cond := .fieldLinkNest q.1 q.2.1 q.2.2.1 q.2.2.2.1 q.2.2.2.2.1 q.2.2.2.2.2
abbrev a_wM (q : String × Nat × MethodName × String) : Cond := .methodLinkNest q.1 q.2.1 q.2.2.1 q.2.2.2
def a_N (U : State) : Prop := (∀ q ∈ a_nF, va_Nw (a_wF q) U) ∧ ∀ q ∈ a_nM, va_Nw (a_wM q) U
theorem a_N.warm {s U : State} (hW : s.WarmedH U.vm) (h : a_N s) : a_N U := ⟨fun q hq => va_Nw.warmF hW (h.1 q hq), fun q hq => va_Nw.warmM hW (h.2 q hq)⟩
def a_kinds : Nat → Int32 := fun j => ([-1, 0, 1, 1, 0, 4] : List Int32).getD j 0
def a_byt : List (List Int32) := [[112, 98, 110, 114, 104], [97, 101, 105, 111, 117, 45]]
/-- what lies below the base and is read: the table of kinds, the two texts, statics of the JDK -/
def a_L (G : aG) (U : State) (H : Heap) : Prop :=
  va_Z "GlebeVowels" "KIND_ABOVE" "[I" (.ref (G.2.2.2 2)) (a_low G) U H ∧ va_T .int (G.2.2.2 2) 6 (fun j => .int (a_kinds j)) (a_low G) U H
  ∧ vk_R "GlebeVowels$Tape" 57 "pbnrh" (G.2.2.2 0) U ∧ vk_R "GlebeVowels$Tape" 79 "aeiou-" (G.2.2.2 1) U
  ∧ (∃ adV : Nat → Nat, vk_S 2 [5, 6] a_byt G.2.2.2 adV (a_low G) U H) ∧ va_Z "java/lang/String" "COMPACT_STRINGS" "Z" (.int 1) (a_low G) U H
theorem a_L.call {G : aG} {s U : State} {H : Heap} {locs : List Loc} (h : a_L G s s.heap) (hS : va_S (a_low G) s.heap H locs) (hU : U.heap = H) (hW : s.WarmedH U.vm) : a_L G U U.heap := by
  obtain ⟨h1, h2, h3, h4, ⟨adV, h5⟩, h6⟩ := h
  have hk : ∀ a : Nat, a < s.heap.size → ¬ a_low G a → U.heap[a]? = s.heap[a]? := fun a g1 g2 => by rw [hU]; exact hS.2.1 a g1 g2
  exact ⟨(h1.moved hW.alike).kept hk, (h2.moved hW.alike).kept hk, vk_R.warm hW h3, vk_R.warm hW h4, ⟨adV, (h5.moved hW.alike).kept hk⟩, (h6.moved hW.alike).kept hk⟩
def a_K (G : aG) (U : State) : Prop := va_K G.1 vwCl (a_tys G) U ∧ a_N U ∧ a_L G U U.heap ∧ (∀ j : Nat, j < 4 → G.2.2.2 j < G.2.2.1 + 4) ∧ G.2.2.1 + 4 ≤ U.heap.size ∧ va_AO "GlebeVowels$Land" U ∧ va_AO "GlebeVowels$Sheet" U
theorem a_K.call {G : aG} {s U : State} {H : Heap} {locs : List Loc} (h : a_K G s) (hS : va_S (a_low G) s.heap H locs) (hU : U.heap = H) (hW : s.WarmedH U.vm) : a_K G U :=
  ⟨va_K.moved hW.alike h.1, h.2.1.warm hW, h.2.2.1.call hS hU hW, h.2.2.2.1, Nat.le_trans h.2.2.2.2.1 (by rw [hU]; exact hS.1), h.2.2.2.2.2.1.moved hW.alike, h.2.2.2.2.2.2.moved hW.alike⟩
def aC (X : aX) (G : aG) (cc : ByteArray) (nL d MC MS : Nat) (own : String) : Prop :=
  (xp X).tables.exec = Jvm.exec ∧ (xc X).code = cc ∧ (xc X).maxLocals = nL ∧ (xs X).vm.findClass own = some (xm X).cls ∧ (∀ w ∈ lw_gt, w.before (xa X) (xs X) = true) ∧ a_K G (xs X) ∧ d ≤ (xR X).frames ∧ 60 * d ≤ (xR X).locals ∧ MC ≤ (xR X).cells ∧ MS ≤ (xR X).slots
/-- the end of a method: what its answer and the cells are then -/
def a_Q (G : aG) (P : Option Value → aH → Nat → Prop) : Array Value → State → Outcome → State → Prop := fun _ st oc t =>
  (∃ (v : Option Value) (h1 : aH) (nx1 : Nat), oc = .returned (v.map (a_ev G)) ∧ P v h1 nx1 ∧ a_P G h1 nx1 t.heap) ∧ va_F (a_low G) st t
def aOk (l : Launch) (d mc ms : Nat) (y : MethodName) (cc : ByteArray) (nL : Nat) (ret : Option FieldType) (as : List Value) (h : aH) (nx : Nat) (P : Option Value → aH → Nat → Prop) : Prop :=
  ∀ G : aG, Met l y (.code y cc nL ret :: lw_gt) ({ frames := d, cells := mc, slots := ms, locals := 60 * d } : Room) (fun v U => v = (as.map (a_ev G)).toArray ∧ a_P G h nx U.heap ∧ a_K G U) (a_Q G P) mc ms (a_low G)
def aR (X : aX) (G : aG) (mc ms : Nat) (ret : Option FieldType) (P : Option Value → aH → Nat → Prop) : Prop :=
  (xt X).sig.returnType = ret ∧ (xt X).locks = false ∧ xQ X = MQ (xb X) (a_Q G P) (xa X) (xs X) mc ms (a_low G)

theorem a_map_sl (G : aG) : ∀ (as : List Value), (lg_sl (as.map (a_ev G))).length = (lg_sl as).length
  | [] => rfl
  | v :: as => by
    have e := a_map_sl G as
    have c : (a_ev G v).category = v.category := by cases v <;> rfl
    simp only [lg_sl, List.map_cons, List.flatMap_cons, List.length_append] at e ⊢
    rw [e, c]
    congr 1
    by_cases h : v.category = 2 <;> simp [h]
theorem a_args (G : aG) : ∀ (as : List Value) (i : Nat), lv_args i (as.map (a_ev G)) = (lv_args i as).map (a_el G)
  | [], _ => rfl
  | v :: as, i => by
    have c : (a_ev G v).category = v.category := by cases v <;> rfl
    simp only [List.map_cons, lv_args, c, a_args G as]
theorem aOk.of {l : Launch} {d mc ms : Nat} {y : MethodName} {cc : ByteArray} {nL : Nat} {ret : Option FieldType} {as : List Value} {h : aH} {nx : Nat} {P : Option Value → aH → Nat → Prop}
    (hy : plainName y.cls = true) (hn : (lg_sl as).length ≤ nL)
    (body : ∀ (X : aX) (G : aG), xl X = l → aC X G cc nL d mc ms y.cls → aR X G mc ms ret P → (y.name = "<init>" → (xt X).name = "<init>") → aV X G nL 0 (lv_args 0 as) [] h nx 0 0) : aOk l d mc ms y cc nL ret as h nx P := by
  intro G
  refine Met.ofW (cc := cc) (maxL := nL) (ret := ret) hy rfl ?_
  intro p e s m args below meth c s₁ B hml hv
  obtain ⟨rfl, hP, hK⟩ := hv
  have hts := atoms_spec (ws := .code y cc nL ret :: lw_gt) B.pre
  have hown : s.vm.findClass y.cls = some m.cls := findClass_of_methodNamed B.named
  have b := body (p, l, e, (headSpec (.code y cc nL ret :: lw_gt) ({ frames := d, cells := mc, slots := ms, locals := 60 * d } : Room)).room, s, m, (as.map (a_ev G)).toArray, below, meth, c, MQ below (a_Q G P) (as.map (a_ev G)).toArray s mc ms (a_low G)) G rfl
    ⟨B.exec, B.bytes, hml, hown, fun w hw => hts w (List.mem_cons_of_mem _ hw), hK, Nat.le_refl _, Nat.le_refl _, Nat.le_refl _, Nat.le_refl _⟩ ⟨B.returns, B.notSynchronized, rfl⟩ (fun hi => (name_of_methodNamed B.named B.method).1.trans hi)
  have hl := lv_entry (as.map (a_ev G)) (n := nL) (by rw [a_map_sl]; exact hn)
  rw [lg_entry_eq]
  rw [a_args] at hl
  exact b s.heap [] _ hP va_S.rf hl
theorem a_filt (G : aG) (p : Nat × Value → Bool) (hp : ∀ q, p (a_el G q) = p q) : ∀ lv : List (Nat × Value), (lv.map (a_el G)).filter p = (lv.filter p).map (a_el G)
  | [] => rfl
  | q :: lv => by
    simp only [List.map_cons, List.filter_cons, hp, a_filt G p hp lv]
    by_cases h : p q = true <;> simp [h]
theorem a_cat (G : aG) (v : Value) : (a_ev G v).category = v.category := by cases v <;> rfl
theorem a_st1 (G : aG) {i : Nat} {v : Value} {lv lv' : List (Nat × Value)} (hl : (i, v) :: lv.filter (fun q => !(q.1 == i) && !(q.1 + 1 == i && q.2.category == 2)) = lv') : (i, a_ev G v) :: (lv.map (a_el G)).filter (fun q => !(q.1 == i) && !(q.1 + 1 == i && q.2.category == 2)) = lv'.map (a_el G) := by
  rw [← hl, a_filt G _ (fun q => by simp only [a_el, a_cat])]
  rfl
theorem a_st2 (G : aG) {i : Nat} {v : Value} {lv lv' : List (Nat × Value)} (hl : (i, v) :: lv.filter (fun q => !(q.1 == i) && (!(q.1 == i + 1) && !(q.1 + 1 == i && q.2.category == 2))) = lv') : (i, a_ev G v) :: (lv.map (a_el G)).filter (fun q => !(q.1 == i) && (!(q.1 == i + 1) && !(q.1 + 1 == i && q.2.category == 2))) = lv'.map (a_el G) := by
  rw [← hl, a_filt G _ (fun q => by simp only [a_el, a_cat])]
  rfl
theorem a_at (G : aG) {lv : List (Nat × Value)} {j i : Nat} {v : Value} (hj : lv[j]? = some (i, v)) : (lv.map (a_el G))[j]? = some (i, a_ev G v) := by rw [List.getElem?_map, hj]; rfl
theorem a_in {lv : List (Nat × Value)} {G : aG} {ls : Array Slot} {nL j i : Nat} {v : Value} (hj : lv[j]? = some (i, v)) (hl : lv_has ls nL (lv.map (a_el G))) : ls[i]? = some (.val (a_ev G v)) := lv_at hl j (a_at G hj)
theorem aV.sub {X : aX} {G : aG} {nL pc : Nat} {lv lv' : List (Nat × Value)} {st : List Value} {h : aH} {nx k n : Nat} (js : List Nat) (hj : lv_pick lv js = lv') (kk : aV X G nL pc lv' st h nx k n) : aV X G nL pc lv st h nx k n := fun H locs ls a b c => kk H locs ls a b (lv_sub c js (by
  rw [← hj]
  simp only [lv_pick, List.map_filterMap, List.getElem?_map]))
theorem aV.widen {X : aX} {G : aG} {nL pc : Nat} {lv : List (Nat × Value)} {st : List Value} {h : aH} {nx k n k' n' : Nat} (h1 : k ≤ k') (h2 : n ≤ n') (kk : aV X G nL pc lv st h nx k' n') : aV X G nL pc lv st h nx k n := fun H locs ls a b c => W.widen h1 h2 (kk H locs ls a b c)

section AB
variable {X : aX} {G : aG} {cc : ByteArray} {nL d MC MS pc : Nat} {own : String} {lv lv' : List (Nat × Value)} {st : List Value} {h : aH} {nx k n : Nat}

theorem ab_iconst (C : aC X G cc nL d MC MS own) {i : Int} {v : Int32} (hd : decode cc pc = .ok (.iconst i, 1)) (hv : Int32.ofInt i = v) (kk : aV X G nL (pc + 1) lv (.int v :: st) h nx k n) : aV X G nL pc lv (st) h nx k n := fun H locs ls a b c => lv_iconst C.1 C.2.1 hd hv (kk H locs ls a b c)
theorem ab_bipush (C : aC X G cc nL d MC MS own) {i : Int} {v : Int32} (hd : decode cc pc = .ok (.bipush i, 2)) (hv : (Int8.ofInt i).toInt32 = v) (kk : aV X G nL (pc + 2) lv (.int v :: st) h nx k n) : aV X G nL pc lv (st) h nx k n := fun H locs ls a b c => lv_bipush C.1 C.2.1 hd hv (kk H locs ls a b c)
theorem ab_sipush (C : aC X G cc nL d MC MS own) {i : Int} {v : Int32} (hd : decode cc pc = .ok (.sipush i, 3)) (hv : (Int16.ofInt i).toInt32 = v) (kk : aV X G nL (pc + 3) lv (.int v :: st) h nx k n) : aV X G nL pc lv (st) h nx k n := fun H locs ls a b c => lv_sipush C.1 C.2.1 hd hv (kk H locs ls a b c)
theorem ab_lconst (C : aC X G cc nL d MC MS own) {i : Fin 2} {v : Int64} (hd : decode cc pc = .ok (.lconst i, 1)) (hv : Int64.ofNat (i : Nat) = v) (kk : aV X G nL (pc + 1) lv (.long v :: st) h nx k n) : aV X G nL pc lv (st) h nx k n := fun H locs ls a b c => lv_lconst C.1 C.2.1 hd hv (kk H locs ls a b c)
theorem ab_ldc (C : aC X G cc nL d MC MS own) {i : Nat} {v : Int32} (hd : decode cc pc = .ok (.ldc i, 2)) (hw : Cond.constant own i v ∈ lw_gt) (kk : aV X G nL (pc + 2) lv (.int v :: st) h nx k n) : aV X G nL pc lv (st) h nx k n := fun H locs ls a b c => lv_ldc C.1 C.2.1 C.2.2.2.1 (C.2.2.2.2.1 _ hw) hd (kk H locs ls a b c)
theorem ab_ldc2 (C : aC X G cc nL d MC MS own) {i : Nat} {v : Int64} (hd : decode cc pc = .ok (.ldc2_w i, 3)) (hw : Cond.constantLong own i v ∈ lw_gt) (kk : aV X G nL (pc + 3) lv (.long v :: st) h nx k n) : aV X G nL pc lv (st) h nx k n := fun H locs ls a b c => lv_ldc2 C.1 C.2.1 C.2.2.2.1 (C.2.2.2.2.1 _ hw) hd (kk H locs ls a b c)
theorem ab_iload_n (C : aC X G cc nL d MC MS own) {f : Fin 4} {i : Nat} {x : Int32} (j : Nat) (hj : lv[j]? = some (i, .int x)) (hi : (f : Nat) = i) (hd : decode cc pc = .ok (.iload_n f, 1)) (kk : aV X G nL (pc + 1) lv (.int x :: st) h nx k n) : aV X G nL pc lv (st) h nx k n := fun H locs ls a b c => lv_iload_n C.1 C.2.1 hd hi (a_in hj c) (kk H locs ls a b c)
theorem ab_iload (C : aC X G cc nL d MC MS own) {i : Nat} {x : Int32} (j : Nat) (hj : lv[j]? = some (i, .int x)) (hd : decode cc pc = .ok (.iload i, 2)) (kk : aV X G nL (pc + 2) lv (.int x :: st) h nx k n) : aV X G nL pc lv (st) h nx k n := fun H locs ls a b c => lv_iload C.1 C.2.1 hd (a_in hj c) (kk H locs ls a b c)
theorem ab_lload_n (C : aC X G cc nL d MC MS own) {f : Fin 4} {i : Nat} {x : Int64} (j : Nat) (hj : lv[j]? = some (i, .long x)) (hi : (f : Nat) = i) (hd : decode cc pc = .ok (.lload_n f, 1)) (kk : aV X G nL (pc + 1) lv (.long x :: st) h nx k n) : aV X G nL pc lv (st) h nx k n := fun H locs ls a b c => lv_lload_n C.1 C.2.1 hd hi (a_in hj c) (kk H locs ls a b c)
theorem ab_lload (C : aC X G cc nL d MC MS own) {i : Nat} {x : Int64} (j : Nat) (hj : lv[j]? = some (i, .long x)) (hd : decode cc pc = .ok (.lload i, 2)) (kk : aV X G nL (pc + 2) lv (.long x :: st) h nx k n) : aV X G nL pc lv (st) h nx k n := fun H locs ls a b c => lv_lload C.1 C.2.1 hd (a_in hj c) (kk H locs ls a b c)
theorem ab_aload_n (C : aC X G cc nL d MC MS own) {f : Fin 4} {i : Nat} {x : Nat} (j : Nat) (hj : lv[j]? = some (i, .ref x)) (hi : (f : Nat) = i) (hd : decode cc pc = .ok (.aload_n f, 1)) (kk : aV X G nL (pc + 1) lv (.ref x :: st) h nx k n) : aV X G nL pc lv (st) h nx k n := fun H locs ls a b c => lv_aload_n C.1 C.2.1 hd hi (a_in hj c) (kk H locs ls a b c)
theorem ab_aload (C : aC X G cc nL d MC MS own) {i : Nat} {x : Nat} (j : Nat) (hj : lv[j]? = some (i, .ref x)) (hd : decode cc pc = .ok (.aload i, 2)) (kk : aV X G nL (pc + 2) lv (.ref x :: st) h nx k n) : aV X G nL pc lv (st) h nx k n := fun H locs ls a b c => lv_aload C.1 C.2.1 hd (a_in hj c) (kk H locs ls a b c)
theorem ab_aload_nN (C : aC X G cc nL d MC MS own) {f : Fin 4} {i : Nat} (j : Nat) (hj : lv[j]? = some (i, .null)) (hi : (f : Nat) = i) (hd : decode cc pc = .ok (.aload_n f, 1)) (kk : aV X G nL (pc + 1) lv (.null :: st) h nx k n) : aV X G nL pc lv (st) h nx k n := fun H locs ls a b c => lv_aload_nN C.1 C.2.1 hd hi (a_in hj c) (kk H locs ls a b c)
theorem ab_aloadN (C : aC X G cc nL d MC MS own) {i : Nat} (j : Nat) (hj : lv[j]? = some (i, .null)) (hd : decode cc pc = .ok (.aload i, 2)) (kk : aV X G nL (pc + 2) lv (.null :: st) h nx k n) : aV X G nL pc lv (st) h nx k n := fun H locs ls a b c => lv_aloadN C.1 C.2.1 hd (a_in hj c) (kk H locs ls a b c)
theorem ab_istore_n (C : aC X G cc nL d MC MS own) {f : Fin 4} {i : Nat} {x : Int32} (hd : decode cc pc = .ok (.istore_n f, 1)) (hi : (f : Nat) = i) (hn : i < nL) (hl : (i, .int x) :: lv.filter (fun q => !(q.1 == i) && !(q.1 + 1 == i && q.2.category == 2)) = lv') (kk : aV X G nL (pc + 1) lv' st h nx k n) : aV X G nL pc lv (.int x :: st) h nx k n := fun H locs ls a b c => lv_istore_n C.1 C.2.1 hd hi c hn (a_st1 G hl) (fun ls c => kk H locs ls a b c)
theorem ab_istore (C : aC X G cc nL d MC MS own) {i : Nat} {x : Int32} (hd : decode cc pc = .ok (.istore i, 2)) (hn : i < nL) (hl : (i, .int x) :: lv.filter (fun q => !(q.1 == i) && !(q.1 + 1 == i && q.2.category == 2)) = lv') (kk : aV X G nL (pc + 2) lv' st h nx k n) : aV X G nL pc lv (.int x :: st) h nx k n := fun H locs ls a b c => lv_istore C.1 C.2.1 hd c hn (a_st1 G hl) (fun ls c => kk H locs ls a b c)
theorem ab_lstore_n (C : aC X G cc nL d MC MS own) {f : Fin 4} {i : Nat} {x : Int64} (hd : decode cc pc = .ok (.lstore_n f, 1)) (hi : (f : Nat) = i) (hn : i < nL ∧ i + 1 < nL) (hl : (i, .long x) :: lv.filter (fun q => !(q.1 == i) && (!(q.1 == i + 1) && !(q.1 + 1 == i && q.2.category == 2))) = lv') (kk : aV X G nL (pc + 1) lv' st h nx k n) : aV X G nL pc lv (.long x :: st) h nx k n := fun H locs ls a b c => lv_lstore_n C.1 C.2.1 hd hi c hn.2 (a_st2 G hl) (fun ls c => kk H locs ls a b c)
theorem ab_lstore (C : aC X G cc nL d MC MS own) {i : Nat} {x : Int64} (hd : decode cc pc = .ok (.lstore i, 2)) (hn : i < nL ∧ i + 1 < nL) (hl : (i, .long x) :: lv.filter (fun q => !(q.1 == i) && (!(q.1 == i + 1) && !(q.1 + 1 == i && q.2.category == 2))) = lv') (kk : aV X G nL (pc + 2) lv' st h nx k n) : aV X G nL pc lv (.long x :: st) h nx k n := fun H locs ls a b c => lv_lstore C.1 C.2.1 hd c hn.2 (a_st2 G hl) (fun ls c => kk H locs ls a b c)
theorem ab_astore_n (C : aC X G cc nL d MC MS own) {f : Fin 4} {i : Nat} {x : Nat} (hd : decode cc pc = .ok (.astore_n f, 1)) (hi : (f : Nat) = i) (hn : i < nL) (hl : (i, .ref x) :: lv.filter (fun q => !(q.1 == i) && !(q.1 + 1 == i && q.2.category == 2)) = lv') (kk : aV X G nL (pc + 1) lv' st h nx k n) : aV X G nL pc lv (.ref x :: st) h nx k n := fun H locs ls a b c => lv_astore_n C.1 C.2.1 hd hi c hn (a_st1 G hl) (fun ls c => kk H locs ls a b c)
theorem ab_astore (C : aC X G cc nL d MC MS own) {i : Nat} {x : Nat} (hd : decode cc pc = .ok (.astore i, 2)) (hn : i < nL) (hl : (i, .ref x) :: lv.filter (fun q => !(q.1 == i) && !(q.1 + 1 == i && q.2.category == 2)) = lv') (kk : aV X G nL (pc + 2) lv' st h nx k n) : aV X G nL pc lv (.ref x :: st) h nx k n := fun H locs ls a b c => lv_astore C.1 C.2.1 hd c hn (a_st1 G hl) (fun ls c => kk H locs ls a b c)
theorem ab_astore_nN (C : aC X G cc nL d MC MS own) {f : Fin 4} {i : Nat} (hd : decode cc pc = .ok (.astore_n f, 1)) (hi : (f : Nat) = i) (hn : i < nL) (hl : (i, .null) :: lv.filter (fun q => !(q.1 == i) && !(q.1 + 1 == i && q.2.category == 2)) = lv') (kk : aV X G nL (pc + 1) lv' st h nx k n) : aV X G nL pc lv (.null :: st) h nx k n := fun H locs ls a b c => lv_astore_nN C.1 C.2.1 hd hi c hn (a_st1 G hl) (fun ls c => kk H locs ls a b c)
theorem ab_astoreN (C : aC X G cc nL d MC MS own) {i : Nat} (hd : decode cc pc = .ok (.astore i, 2)) (hn : i < nL) (hl : (i, .null) :: lv.filter (fun q => !(q.1 == i) && !(q.1 + 1 == i && q.2.category == 2)) = lv') (kk : aV X G nL (pc + 2) lv' st h nx k n) : aV X G nL pc lv (.null :: st) h nx k n := fun H locs ls a b c => lv_astoreN C.1 C.2.1 hd c hn (a_st1 G hl) (fun ls c => kk H locs ls a b c)
theorem ab_iinc (C : aC X G cc nL d MC MS own) {i : Nat} {z : Int} {x v : Int32} (j : Nat) (hj : lv[j]? = some (i, .int x)) (hd : decode cc pc = .ok (.iinc i z, 3)) (hv : x + Int32.ofInt z = v) (hn : i < nL) (hl : (i, .int v) :: lv.filter (fun q => !(q.1 == i) && !(q.1 + 1 == i && q.2.category == 2)) = lv') (kk : aV X G nL (pc + 3) lv' st h nx k n) : aV X G nL pc lv st h nx k n := fun H locs ls a b c => lv_iinc C.1 C.2.1 hd c (a_at G hj) hv hn (a_st1 G hl) (fun ls c => kk H locs ls a b c)
theorem ab_iadd (C : aC X G cc nL d MC MS own) {x : Int32} {y : Int32} (hd : decode cc pc = .ok (.iadd, 1)) (kk : aV X G nL (pc + 1) lv (.int (x + y) :: st) h nx k n) : aV X G nL pc lv (.int y :: .int x :: st) h nx k n := fun H locs ls a b c => lv_iadd C.1 C.2.1 hd (kk H locs ls a b c)
theorem ab_isub (C : aC X G cc nL d MC MS own) {x : Int32} {y : Int32} (hd : decode cc pc = .ok (.isub, 1)) (kk : aV X G nL (pc + 1) lv (.int (x - y) :: st) h nx k n) : aV X G nL pc lv (.int y :: .int x :: st) h nx k n := fun H locs ls a b c => lv_isub C.1 C.2.1 hd (kk H locs ls a b c)
theorem ab_imul (C : aC X G cc nL d MC MS own) {x : Int32} {y : Int32} (hd : decode cc pc = .ok (.imul, 1)) (kk : aV X G nL (pc + 1) lv (.int (x * y) :: st) h nx k n) : aV X G nL pc lv (.int y :: .int x :: st) h nx k n := fun H locs ls a b c => lv_imul C.1 C.2.1 hd (kk H locs ls a b c)
theorem ab_iand (C : aC X G cc nL d MC MS own) {x : Int32} {y : Int32} (hd : decode cc pc = .ok (.iand, 1)) (kk : aV X G nL (pc + 1) lv (.int (x &&& y) :: st) h nx k n) : aV X G nL pc lv (.int y :: .int x :: st) h nx k n := fun H locs ls a b c => lv_iand C.1 C.2.1 hd (kk H locs ls a b c)
theorem ab_ior (C : aC X G cc nL d MC MS own) {x : Int32} {y : Int32} (hd : decode cc pc = .ok (.ior, 1)) (kk : aV X G nL (pc + 1) lv (.int (x ||| y) :: st) h nx k n) : aV X G nL pc lv (.int y :: .int x :: st) h nx k n := fun H locs ls a b c => lv_ior C.1 C.2.1 hd (kk H locs ls a b c)
theorem ab_ixor (C : aC X G cc nL d MC MS own) {x : Int32} {y : Int32} (hd : decode cc pc = .ok (.ixor, 1)) (kk : aV X G nL (pc + 1) lv (.int (x ^^^ y) :: st) h nx k n) : aV X G nL pc lv (.int y :: .int x :: st) h nx k n := fun H locs ls a b c => lv_ixor C.1 C.2.1 hd (kk H locs ls a b c)
theorem ab_ishl (C : aC X G cc nL d MC MS own) {x : Int32} {y : Int32} (hd : decode cc pc = .ok (.ishl, 1)) (kk : aV X G nL (pc + 1) lv (.int (x <<< (y &&& 31)) :: st) h nx k n) : aV X G nL pc lv (.int y :: .int x :: st) h nx k n := fun H locs ls a b c => lv_ishl C.1 C.2.1 hd (kk H locs ls a b c)
theorem ab_ishr (C : aC X G cc nL d MC MS own) {x : Int32} {y : Int32} (hd : decode cc pc = .ok (.ishr, 1)) (kk : aV X G nL (pc + 1) lv (.int (x >>> (y &&& 31)) :: st) h nx k n) : aV X G nL pc lv (.int y :: .int x :: st) h nx k n := fun H locs ls a b c => lv_ishr C.1 C.2.1 hd (kk H locs ls a b c)
theorem ab_idiv (C : aC X G cc nL d MC MS own) {x : Int32} {y : Int32} (hne : ¬ y = 0) (hd : decode cc pc = .ok (.idiv, 1)) (kk : aV X G nL (pc + 1) lv (.int (x / y) :: st) h nx k n) : aV X G nL pc lv (.int y :: .int x :: st) h nx k n := fun H locs ls a b c => lv_idiv C.1 C.2.1 hd hne (kk H locs ls a b c)
theorem ab_irem (C : aC X G cc nL d MC MS own) {x : Int32} {y : Int32} (hne : ¬ y = 0) (hd : decode cc pc = .ok (.irem, 1)) (kk : aV X G nL (pc + 1) lv (.int (x - x / y * y) :: st) h nx k n) : aV X G nL pc lv (.int y :: .int x :: st) h nx k n := fun H locs ls a b c => lv_irem C.1 C.2.1 hd hne (kk H locs ls a b c)
theorem ab_iushr (C : aC X G cc nL d MC MS own) {x : Int32} {y : Int32} (hd : decode cc pc = .ok (.iushr, 1)) (kk : aV X G nL (pc + 1) lv (.int ((x.toUInt32 >>> (y.toUInt32 &&& Int32.toUInt32 31)).toInt32) :: st) h nx k n) : aV X G nL pc lv (.int y :: .int x :: st) h nx k n := fun H locs ls a b c => lv_iushr C.1 C.2.1 hd rfl (kk H locs ls a b c)
theorem ab_ladd (C : aC X G cc nL d MC MS own) {x : Int64} {y : Int64} (hd : decode cc pc = .ok (.ladd, 1)) (kk : aV X G nL (pc + 1) lv (.long (x + y) :: st) h nx k n) : aV X G nL pc lv (.long y :: .long x :: st) h nx k n := fun H locs ls a b c => lv_ladd C.1 C.2.1 hd (kk H locs ls a b c)
theorem ab_lsub (C : aC X G cc nL d MC MS own) {x : Int64} {y : Int64} (hd : decode cc pc = .ok (.lsub, 1)) (kk : aV X G nL (pc + 1) lv (.long (x - y) :: st) h nx k n) : aV X G nL pc lv (.long y :: .long x :: st) h nx k n := fun H locs ls a b c => lv_lsub C.1 C.2.1 hd (kk H locs ls a b c)
theorem ab_lmul (C : aC X G cc nL d MC MS own) {x : Int64} {y : Int64} (hd : decode cc pc = .ok (.lmul, 1)) (kk : aV X G nL (pc + 1) lv (.long (x * y) :: st) h nx k n) : aV X G nL pc lv (.long y :: .long x :: st) h nx k n := fun H locs ls a b c => lv_lmul C.1 C.2.1 hd (kk H locs ls a b c)
theorem ab_land (C : aC X G cc nL d MC MS own) {x : Int64} {y : Int64} (hd : decode cc pc = .ok (.land, 1)) (kk : aV X G nL (pc + 1) lv (.long (x &&& y) :: st) h nx k n) : aV X G nL pc lv (.long y :: .long x :: st) h nx k n := fun H locs ls a b c => lv_land C.1 C.2.1 hd (kk H locs ls a b c)
theorem ab_lor (C : aC X G cc nL d MC MS own) {x : Int64} {y : Int64} (hd : decode cc pc = .ok (.lor, 1)) (kk : aV X G nL (pc + 1) lv (.long (x ||| y) :: st) h nx k n) : aV X G nL pc lv (.long y :: .long x :: st) h nx k n := fun H locs ls a b c => lv_lor C.1 C.2.1 hd (kk H locs ls a b c)
theorem ab_lxor (C : aC X G cc nL d MC MS own) {x : Int64} {y : Int64} (hd : decode cc pc = .ok (.lxor, 1)) (kk : aV X G nL (pc + 1) lv (.long (x ^^^ y) :: st) h nx k n) : aV X G nL pc lv (.long y :: .long x :: st) h nx k n := fun H locs ls a b c => lv_lxor C.1 C.2.1 hd (kk H locs ls a b c)
theorem ab_ldiv (C : aC X G cc nL d MC MS own) {x : Int64} {y : Int64} (hne : ¬ y = 0) (hd : decode cc pc = .ok (.ldiv, 1)) (kk : aV X G nL (pc + 1) lv (.long (x / y) :: st) h nx k n) : aV X G nL pc lv (.long y :: .long x :: st) h nx k n := fun H locs ls a b c => lv_ldiv C.1 C.2.1 hd hne (kk H locs ls a b c)
theorem ab_lrem (C : aC X G cc nL d MC MS own) {x : Int64} {y : Int64} (hne : ¬ y = 0) (hd : decode cc pc = .ok (.lrem, 1)) (kk : aV X G nL (pc + 1) lv (.long (x - x / y * y) :: st) h nx k n) : aV X G nL pc lv (.long y :: .long x :: st) h nx k n := fun H locs ls a b c => lv_lrem C.1 C.2.1 hd hne (kk H locs ls a b c)
theorem ab_lshl (C : aC X G cc nL d MC MS own) {x : Int64} {y : Int32} (hd : decode cc pc = .ok (.lshl, 1)) (kk : aV X G nL (pc + 1) lv (.long (x <<< (y.toInt64 &&& 63)) :: st) h nx k n) : aV X G nL pc lv (.int y :: .long x :: st) h nx k n := fun H locs ls a b c => lv_lshl C.1 C.2.1 hd rfl (kk H locs ls a b c)
theorem ab_lshr (C : aC X G cc nL d MC MS own) {x : Int64} {y : Int32} (hd : decode cc pc = .ok (.lshr, 1)) (kk : aV X G nL (pc + 1) lv (.long (x >>> (y.toInt64 &&& 63)) :: st) h nx k n) : aV X G nL pc lv (.int y :: .long x :: st) h nx k n := fun H locs ls a b c => lv_lshr C.1 C.2.1 hd rfl (kk H locs ls a b c)
theorem ab_lushr (C : aC X G cc nL d MC MS own) {x : Int64} {y : Int32} (hd : decode cc pc = .ok (.lushr, 1)) (kk : aV X G nL (pc + 1) lv (.long ((x.toUInt64 >>> (y.toInt64.toUInt64 &&& Int64.toUInt64 63)).toInt64) :: st) h nx k n) : aV X G nL pc lv (.int y :: .long x :: st) h nx k n := fun H locs ls a b c => lv_lushr C.1 C.2.1 hd rfl (kk H locs ls a b c)
theorem ab_ineg (C : aC X G cc nL d MC MS own) {x : Int32} (hd : decode cc pc = .ok (.ineg, 1)) (kk : aV X G nL (pc + 1) lv (.int (-x) :: st) h nx k n) : aV X G nL pc lv (.int x :: st) h nx k n := fun H locs ls a b c => lv_ineg C.1 C.2.1 hd (kk H locs ls a b c)
theorem ab_lneg (C : aC X G cc nL d MC MS own) {x : Int64} (hd : decode cc pc = .ok (.lneg, 1)) (kk : aV X G nL (pc + 1) lv (.long (-x) :: st) h nx k n) : aV X G nL pc lv (.long x :: st) h nx k n := fun H locs ls a b c => lv_lneg C.1 C.2.1 hd (kk H locs ls a b c)
theorem ab_i2l (C : aC X G cc nL d MC MS own) {x : Int32} (hd : decode cc pc = .ok (.i2l, 1)) (kk : aV X G nL (pc + 1) lv (.long (x.toInt64) :: st) h nx k n) : aV X G nL pc lv (.int x :: st) h nx k n := fun H locs ls a b c => lv_i2l C.1 C.2.1 hd rfl (kk H locs ls a b c)
theorem ab_l2i (C : aC X G cc nL d MC MS own) {x : Int64} (hd : decode cc pc = .ok (.l2i, 1)) (kk : aV X G nL (pc + 1) lv (.int (x.toInt32) :: st) h nx k n) : aV X G nL pc lv (.long x :: st) h nx k n := fun H locs ls a b c => lv_l2i C.1 C.2.1 hd rfl (kk H locs ls a b c)
theorem ab_i2b (C : aC X G cc nL d MC MS own) {x : Int32} (hd : decode cc pc = .ok (.i2b, 1)) (kk : aV X G nL (pc + 1) lv (.int (x.toInt8.toInt32) :: st) h nx k n) : aV X G nL pc lv (.int x :: st) h nx k n := fun H locs ls a b c => lv_i2b C.1 C.2.1 hd rfl (kk H locs ls a b c)
theorem ab_i2s (C : aC X G cc nL d MC MS own) {x : Int32} (hd : decode cc pc = .ok (.i2s, 1)) (kk : aV X G nL (pc + 1) lv (.int (x.toInt16.toInt32) :: st) h nx k n) : aV X G nL pc lv (.int x :: st) h nx k n := fun H locs ls a b c => lv_i2s C.1 C.2.1 hd rfl (kk H locs ls a b c)
theorem ab_i2c (C : aC X G cc nL d MC MS own) {x : Int32} (hd : decode cc pc = .ok (.i2c, 1)) (kk : aV X G nL (pc + 1) lv (.int ((x.toUInt32 % 65536).toInt32) :: st) h nx k n) : aV X G nL pc lv (.int x :: st) h nx k n := fun H locs ls a b c => lv_i2c C.1 C.2.1 hd rfl (kk H locs ls a b c)
theorem ab_lcmp (C : aC X G cc nL d MC MS own) {x y : Int64} (hd : decode cc pc = .ok (.lcmp, 1)) (kk : aV X G nL (pc + 1) lv (.int (lg_cmp x y) :: st) h nx k n) : aV X G nL pc lv (.long y :: .long x :: st) h nx k n := fun H locs ls a b c => W.lcmp C.1 C.2.1 hd (kk H locs ls a b c)
theorem ab_dup (C : aC X G cc nL d MC MS own) {v : Value} (hc : v.category = 1) (hd : decode cc pc = .ok (.dup, 1)) (kk : aV X G nL (pc + 1) lv (v :: v :: st) h nx k n) : aV X G nL pc lv (v :: st) h nx k n := fun H locs ls a b c => lv_dup C.1 C.2.1 hd ((a_cat G v).trans hc) (kk H locs ls a b c)
theorem ab_pop (C : aC X G cc nL d MC MS own) {v : Value} (hc : v.category = 1) (hd : decode cc pc = .ok (.pop, 1)) (kk : aV X G nL (pc + 1) lv (st) h nx k n) : aV X G nL pc lv (v :: st) h nx k n := fun H locs ls a b c => lv_pop C.1 C.2.1 hd ((a_cat G v).trans hc) (kk H locs ls a b c)
theorem ab_dup_x1 (C : aC X G cc nL d MC MS own) {v w : Value} (hc : v.category = 1) (hc2 : w.category = 1) (hd : decode cc pc = .ok (.dup_x1, 1)) (kk : aV X G nL (pc + 1) lv (v :: w :: v :: st) h nx k n) : aV X G nL pc lv (v :: w :: st) h nx k n := fun H locs ls a b c => lv_dup_x1 C.1 C.2.1 hd ((a_cat G v).trans hc) ((a_cat G w).trans hc2) (kk H locs ls a b c)
theorem ab_dup2_11 (C : aC X G cc nL d MC MS own) {v w : Value} (hc : v.category = 1) (hc2 : w.category = 1) (hd : decode cc pc = .ok (.dup2, 1)) (kk : aV X G nL (pc + 1) lv (v :: w :: v :: w :: st) h nx k n) : aV X G nL pc lv (v :: w :: st) h nx k n := fun H locs ls a b c => lv_dup2_11 C.1 C.2.1 hd ((a_cat G v).trans hc) ((a_cat G w).trans hc2) (kk H locs ls a b c)
theorem ab_null (C : aC X G cc nL d MC MS own) (hd : decode cc pc = .ok (.aconst_null, 1)) (kk : aV X G nL (pc + 1) lv (.null :: st) h nx k n) : aV X G nL pc lv (st) h nx k n := fun H locs ls a b c => lv_null C.1 C.2.1 hd (kk H locs ls a b c)
theorem ab_if_eq (C : aC X G cc nL d MC MS own) {x : Int32} {off : Int} (tgt : Nat) (hd : decode cc pc = .ok (.ifCond .eq off, 3)) (ht : (pc : Int) + off = (tgt : Int)) (kt : x = 0 → aV X G nL tgt lv st h nx k n) (kf : ¬ x = 0 → aV X G nL (pc + 3) lv st h nx k n) : aV X G nL pc lv (.int x :: st) h nx k n := fun H locs ls a b c => lv_if_eq C.1 C.2.1 hd ht (fun q => kt q H locs ls a b c) (fun q => kf q H locs ls a b c)
theorem ab_icmp_eq (C : aC X G cc nL d MC MS own) {x y : Int32} {off : Int} (tgt : Nat) (hd : decode cc pc = .ok (.if_icmp .eq off, 3)) (ht : (pc : Int) + off = (tgt : Int)) (kt : x = y → aV X G nL tgt lv st h nx k n) (kf : ¬ x = y → aV X G nL (pc + 3) lv st h nx k n) : aV X G nL pc lv (.int y :: .int x :: st) h nx k n := fun H locs ls a b c => lv_icmp_eq C.1 C.2.1 hd ht (fun q => kt q H locs ls a b c) (fun q => kf q H locs ls a b c)
theorem ab_if_ne (C : aC X G cc nL d MC MS own) {x : Int32} {off : Int} (tgt : Nat) (hd : decode cc pc = .ok (.ifCond .ne off, 3)) (ht : (pc : Int) + off = (tgt : Int)) (kt : ¬ x = 0 → aV X G nL tgt lv st h nx k n) (kf : x = 0 → aV X G nL (pc + 3) lv st h nx k n) : aV X G nL pc lv (.int x :: st) h nx k n := fun H locs ls a b c => lv_if_ne C.1 C.2.1 hd ht (fun q => kt q H locs ls a b c) (fun q => kf q H locs ls a b c)
theorem ab_icmp_ne (C : aC X G cc nL d MC MS own) {x y : Int32} {off : Int} (tgt : Nat) (hd : decode cc pc = .ok (.if_icmp .ne off, 3)) (ht : (pc : Int) + off = (tgt : Int)) (kt : ¬ x = y → aV X G nL tgt lv st h nx k n) (kf : x = y → aV X G nL (pc + 3) lv st h nx k n) : aV X G nL pc lv (.int y :: .int x :: st) h nx k n := fun H locs ls a b c => lv_icmp_ne C.1 C.2.1 hd ht (fun q => kt q H locs ls a b c) (fun q => kf q H locs ls a b c)
theorem ab_if_lt (C : aC X G cc nL d MC MS own) {x : Int32} {off : Int} (tgt : Nat) (hd : decode cc pc = .ok (.ifCond .lt off, 3)) (ht : (pc : Int) + off = (tgt : Int)) (kt : x < 0 → aV X G nL tgt lv st h nx k n) (kf : ¬ x < 0 → aV X G nL (pc + 3) lv st h nx k n) : aV X G nL pc lv (.int x :: st) h nx k n := fun H locs ls a b c => lv_if_lt C.1 C.2.1 hd ht (fun q => kt q H locs ls a b c) (fun q => kf q H locs ls a b c)
theorem ab_icmp_lt (C : aC X G cc nL d MC MS own) {x y : Int32} {off : Int} (tgt : Nat) (hd : decode cc pc = .ok (.if_icmp .lt off, 3)) (ht : (pc : Int) + off = (tgt : Int)) (kt : x < y → aV X G nL tgt lv st h nx k n) (kf : ¬ x < y → aV X G nL (pc + 3) lv st h nx k n) : aV X G nL pc lv (.int y :: .int x :: st) h nx k n := fun H locs ls a b c => lv_icmp_lt C.1 C.2.1 hd ht (fun q => kt q H locs ls a b c) (fun q => kf q H locs ls a b c)
theorem ab_if_ge (C : aC X G cc nL d MC MS own) {x : Int32} {off : Int} (tgt : Nat) (hd : decode cc pc = .ok (.ifCond .ge off, 3)) (ht : (pc : Int) + off = (tgt : Int)) (kt : 0 ≤ x → aV X G nL tgt lv st h nx k n) (kf : ¬ 0 ≤ x → aV X G nL (pc + 3) lv st h nx k n) : aV X G nL pc lv (.int x :: st) h nx k n := fun H locs ls a b c => lv_if_ge C.1 C.2.1 hd ht (fun q => kt q H locs ls a b c) (fun q => kf q H locs ls a b c)
theorem ab_icmp_ge (C : aC X G cc nL d MC MS own) {x y : Int32} {off : Int} (tgt : Nat) (hd : decode cc pc = .ok (.if_icmp .ge off, 3)) (ht : (pc : Int) + off = (tgt : Int)) (kt : y ≤ x → aV X G nL tgt lv st h nx k n) (kf : ¬ y ≤ x → aV X G nL (pc + 3) lv st h nx k n) : aV X G nL pc lv (.int y :: .int x :: st) h nx k n := fun H locs ls a b c => lv_icmp_ge C.1 C.2.1 hd ht (fun q => kt q H locs ls a b c) (fun q => kf q H locs ls a b c)
theorem ab_if_gt (C : aC X G cc nL d MC MS own) {x : Int32} {off : Int} (tgt : Nat) (hd : decode cc pc = .ok (.ifCond .gt off, 3)) (ht : (pc : Int) + off = (tgt : Int)) (kt : 0 < x → aV X G nL tgt lv st h nx k n) (kf : ¬ 0 < x → aV X G nL (pc + 3) lv st h nx k n) : aV X G nL pc lv (.int x :: st) h nx k n := fun H locs ls a b c => lv_if_gt C.1 C.2.1 hd ht (fun q => kt q H locs ls a b c) (fun q => kf q H locs ls a b c)
theorem ab_icmp_gt (C : aC X G cc nL d MC MS own) {x y : Int32} {off : Int} (tgt : Nat) (hd : decode cc pc = .ok (.if_icmp .gt off, 3)) (ht : (pc : Int) + off = (tgt : Int)) (kt : y < x → aV X G nL tgt lv st h nx k n) (kf : ¬ y < x → aV X G nL (pc + 3) lv st h nx k n) : aV X G nL pc lv (.int y :: .int x :: st) h nx k n := fun H locs ls a b c => lv_icmp_gt C.1 C.2.1 hd ht (fun q => kt q H locs ls a b c) (fun q => kf q H locs ls a b c)
theorem ab_if_le (C : aC X G cc nL d MC MS own) {x : Int32} {off : Int} (tgt : Nat) (hd : decode cc pc = .ok (.ifCond .le off, 3)) (ht : (pc : Int) + off = (tgt : Int)) (kt : x ≤ 0 → aV X G nL tgt lv st h nx k n) (kf : ¬ x ≤ 0 → aV X G nL (pc + 3) lv st h nx k n) : aV X G nL pc lv (.int x :: st) h nx k n := fun H locs ls a b c => lv_if_le C.1 C.2.1 hd ht (fun q => kt q H locs ls a b c) (fun q => kf q H locs ls a b c)
theorem ab_icmp_le (C : aC X G cc nL d MC MS own) {x y : Int32} {off : Int} (tgt : Nat) (hd : decode cc pc = .ok (.if_icmp .le off, 3)) (ht : (pc : Int) + off = (tgt : Int)) (kt : x ≤ y → aV X G nL tgt lv st h nx k n) (kf : ¬ x ≤ y → aV X G nL (pc + 3) lv st h nx k n) : aV X G nL pc lv (.int y :: .int x :: st) h nx k n := fun H locs ls a b c => lv_icmp_le C.1 C.2.1 hd ht (fun q => kt q H locs ls a b c) (fun q => kf q H locs ls a b c)
theorem ab_goto (C : aC X G cc nL d MC MS own) {off : Int} (tgt : Nat) (hd : decode cc pc = .ok (.goto off, 3)) (ht : (pc : Int) + off = (tgt : Int)) (kk : aV X G nL tgt lv st h nx k n) : aV X G nL pc lv st h nx k n := fun H locs ls a b c => lv_goto C.1 C.2.1 hd ht (kk H locs ls a b c)
theorem ab_tableOut (C : aC X G cc nL d MC MS own) {dflt lo hi : Int} {offs : Array Int} {len : Nat} {x : Int32} (tgt : Nat) (hd : decode cc pc = .ok (.tableswitch dflt lo hi offs, len)) (hx : x.toInt < lo ∨ hi < x.toInt) (ht : (pc : Int) + dflt = (tgt : Int)) (kk : aV X G nL tgt lv st h nx k n) : aV X G nL pc lv (.int x :: st) h nx k n := fun H locs ls a b c => lv_tableOut C.1 C.2.1 hd hx ht (kk H locs ls a b c)
theorem ab_tableIn (C : aC X G cc nL d MC MS own) {dflt lo hi : Int} {offs : Array Int} {len : Nat} {x : Int32} {off : Int} (tgt : Nat) (hd : decode cc pc = .ok (.tableswitch dflt lo hi offs, len)) (h1 : ¬ x.toInt < lo) (h2 : ¬ hi < x.toInt) (ho : offs[(x.toInt - lo).toNat]? = some off) (ht : (pc : Int) + off = (tgt : Int)) (kk : aV X G nL tgt lv st h nx k n) : aV X G nL pc lv (.int x :: st) h nx k n := fun H locs ls a b c => lv_tableIn C.1 C.2.1 hd h1 h2 ho ht (kk H locs ls a b c)
theorem ab_ifnonnull (C : aC X G cc nL d MC MS own) {x : Nat} {off : Int} (tgt : Nat) (hd : decode cc pc = .ok (.ifnonnull off, 3)) (ht : (pc : Int) + off = (tgt : Int)) (kk : aV X G nL tgt lv st h nx k n) : aV X G nL pc lv (.ref x :: st) h nx k n := fun H locs ls a b c => lv_ifnonnull C.1 C.2.1 hd ht (kk H locs ls a b c)
theorem ab_ifnull (C : aC X G cc nL d MC MS own) {x : Nat} {off : Int} (hd : decode cc pc = .ok (.ifnull off, 3)) (kk : aV X G nL (pc + 3) lv st h nx k n) : aV X G nL pc lv (.ref x :: st) h nx k n := fun H locs ls a b c => lv_ifnull C.1 C.2.1 hd (kk H locs ls a b c)
theorem ab_ifnullN (C : aC X G cc nL d MC MS own) {off : Int} (tgt : Nat) (hd : decode cc pc = .ok (.ifnull off, 3)) (ht : (pc : Int) + off = (tgt : Int)) (kk : aV X G nL tgt lv st h nx k n) : aV X G nL pc lv (.null :: st) h nx k n := fun H locs ls a b c => lv_ifnullN C.1 C.2.1 hd ht (kk H locs ls a b c)
theorem ab_ifnonnullN (C : aC X G cc nL d MC MS own) {off : Int} (hd : decode cc pc = .ok (.ifnonnull off, 3)) (kk : aV X G nL (pc + 3) lv st h nx k n) : aV X G nL pc lv (.null :: st) h nx k n := fun H locs ls a b c => lv_ifnonnullN C.1 C.2.1 hd (kk H locs ls a b c)
end AB
