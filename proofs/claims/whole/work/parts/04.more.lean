/-! rows of the abstract layer: new cells, copies, arrays of references, the table of kinds, loads and stores that may fail -/
section AD
variable {X : aX} {G : aG} {cc : ByteArray} {nL d MC MS pc : Nat} {own : String} {lv lv' : List (Nat × Value)} {st : List Value} {h : aH} {nx k n : Nat}
theorem ab_new (C : aC X G cc nL d MC MS own) {idx : Nat} {Cn : String} {T : u_T} {N ci : Nat} (ty : Nat → FieldType) (hty : ∀ k, k < N → parseFieldDescriptor (T k).2.2.1 = some (ty k)) (hc : vwCl[ci]? = some (Cn, T, N)) (hin : ∀ w ∈ u_ws Cn T N, w ∈ lw_gt) (hcl : Cond.classLink own idx Cn ∈ lw_gt) (hinst : Cond.instantiable Cn N ∈ lw_gt) (hini : Cond.initialized Cn ∈ lw_gt)
    {fs : List Value} (hfs : ∀ (G : aG) j, j < N → defaultValue (ty j) = vp_V (fs.map (a_ev G)) j) (h4 : 4 ≤ nx) (hk : k + 1 ≤ MC ∧ n + N ≤ MS) (hd : decode cc pc = .ok (.new idx, 3))
    (kk : ∀ h1 : aH, h1 nx = some (.inr (ci, fs)) → (∀ q, q ≠ nx → h1 q = h q) → aV X G nL (pc + 3) lv (.ref nx :: st) h1 (nx + 1) (k + 1) (n + N)) : aV X G nL pc lv st h nx k n := by
  intro H locs ls P S c
  have hts := C.2.2.2.2.1
  have hKn := C.2.2.2.2.2.1.1.1 ci _ hc
  refine W.newcK C.1 C.2.1 C.2.2.2.1 (hts _ hcl) (hts _ hinst) (hts _ hini) rfl hd (Nat.le_trans hk.1 C.2.2.2.2.2.2.2.2.1) (Nat.le_trans hk.2 C.2.2.2.2.2.2.2.2.2) hKn.2.1 rfl fun H1 kC hkC e1 z1 o1 => ?_
  have hw := kk (a_set h nx (.inr (ci, fs))) a_set_s (fun q hq => a_set_n hq) H1 locs ls
    (P.new h4 ⟨_, hc, by rw [P.1] at e1; exact (u_born ty hts hin hKn hkC e1 hty).to (hfs G)⟩ z1 o1)
    ⟨Nat.le_trans S.1 (by omega), fun x g1 g2 => (o1 x (Nat.lt_of_lt_of_le g1 S.1)).trans (S.2.1 x g1 g2), S.2.2⟩ c
  have e : a_ev G (.ref nx) = .ref H.size := by show Value.ref (a_ad G nx) = _; rw [a_ad_ge h4, P.1]
  rw [List.map_cons, e] at hw
  exact hw

theorem ab_newaI (C : aC X G cc nL d MC MS own) {z : Int32} {m : Nat} (hz : ¬ z < 0) (hm : z.toNatClampNeg = m) (hb : m * 4 ≤ 536870912) (harr : Cond.arrayClass .int ∈ lw_gt) (h4 : 4 ≤ nx) (hk : k + 1 ≤ MC ∧ n + m ≤ MS) (hd : decode cc pc = .ok (.newarray .int, 2))
    (kk : ∀ h1 : aH, h1 nx = some (.inl (0, m, .inl (fun _ => 0))) → (∀ q, q ≠ nx → h1 q = h q) → aV X G nL (pc + 2) lv (.ref nx :: st) h1 (nx + 1) (k + 1) (n + m)) : aV X G nL pc lv (.int z :: st) h nx k n := by
  intro H locs ls P S c
  have hts := C.2.2.2.2.1
  refine va_newaK (atype := .int) C.1 C.2.1 (hts _ harr) rfl hd rfl hz hm hb (Nat.le_trans hk.1 C.2.2.2.2.2.2.2.2.1) (Nat.le_trans hk.2 C.2.2.2.2.2.2.2.2.2) rfl fun H1 cA e1 z1 o1 hAr hNm => ?_
  have hcA : cA = G.2.1 0 := Option.some.inj (hNm.symm.trans (C.2.2.2.2.2.1.1.2 0 _ rfl).2)
  subst hcA
  have hw := kk (a_set h nx _) a_set_s (fun q hq => a_set_n hq) H1 locs ls
    (P.new h4 (by rw [P.1] at e1; exact e1) z1 o1)
    ⟨Nat.le_trans S.1 (by omega), fun x g1 g2 => (o1 x (Nat.lt_of_lt_of_le g1 S.1)).trans (S.2.1 x g1 g2), S.2.2⟩ c
  have e : a_ev G (.ref nx) = .ref H.size := by show Value.ref (a_ad G nx) = _; rw [a_ad_ge h4, P.1]
  rw [List.map_cons, e] at hw
  exact hw

theorem ab_newaJ (C : aC X G cc nL d MC MS own) {z : Int32} {m : Nat} (hz : ¬ z < 0) (hm : z.toNatClampNeg = m) (hb : m * 8 ≤ 536870912) (harr : Cond.arrayClass .long ∈ lw_gt) (h4 : 4 ≤ nx) (hk : k + 1 ≤ MC ∧ n + m ≤ MS) (hd : decode cc pc = .ok (.newarray .long, 2))
    (kk : ∀ h1 : aH, h1 nx = some (.inl (1, m, .inr (.inl (fun _ => 0)))) → (∀ q, q ≠ nx → h1 q = h q) → aV X G nL (pc + 2) lv (.ref nx :: st) h1 (nx + 1) (k + 1) (n + m)) : aV X G nL pc lv (.int z :: st) h nx k n := by
  intro H locs ls P S c
  have hts := C.2.2.2.2.1
  refine va_newaK (atype := .long) C.1 C.2.1 (hts _ harr) rfl hd rfl hz hm hb (Nat.le_trans hk.1 C.2.2.2.2.2.2.2.2.1) (Nat.le_trans hk.2 C.2.2.2.2.2.2.2.2.2) rfl fun H1 cA e1 z1 o1 hAr hNm => ?_
  have hcA : cA = G.2.1 1 := Option.some.inj (hNm.symm.trans (C.2.2.2.2.2.1.1.2 1 _ rfl).2)
  subst hcA
  have hw := kk (a_set h nx _) a_set_s (fun q hq => a_set_n hq) H1 locs ls
    (P.new h4 (by rw [P.1] at e1; exact e1) z1 o1)
    ⟨Nat.le_trans S.1 (by omega), fun x g1 g2 => (o1 x (Nat.lt_of_lt_of_le g1 S.1)).trans (S.2.1 x g1 g2), S.2.2⟩ c
  have e : a_ev G (.ref nx) = .ref H.size := by show Value.ref (a_ad G nx) = _; rw [a_ad_ge h4, P.1]
  rw [List.map_cons, e] at hw
  exact hw

theorem ab_newaZ (C : aC X G cc nL d MC MS own) {z : Int32} {m : Nat} (hz : ¬ z < 0) (hm : z.toNatClampNeg = m) (hb : m * 1 ≤ 536870912) (harr : Cond.arrayClass .boolean ∈ lw_gt) (h4 : 4 ≤ nx) (hk : k + 1 ≤ MC ∧ n + m ≤ MS) (hd : decode cc pc = .ok (.newarray .boolean, 2))
    (kk : ∀ h1 : aH, h1 nx = some (.inl (2, m, .inl (fun _ => 0))) → (∀ q, q ≠ nx → h1 q = h q) → aV X G nL (pc + 2) lv (.ref nx :: st) h1 (nx + 1) (k + 1) (n + m)) : aV X G nL pc lv (.int z :: st) h nx k n := by
  intro H locs ls P S c
  have hts := C.2.2.2.2.1
  refine va_newaK (atype := .boolean) C.1 C.2.1 (hts _ harr) rfl hd rfl hz hm hb (Nat.le_trans hk.1 C.2.2.2.2.2.2.2.2.1) (Nat.le_trans hk.2 C.2.2.2.2.2.2.2.2.2) rfl fun H1 cA e1 z1 o1 hAr hNm => ?_
  have hcA : cA = G.2.1 2 := Option.some.inj (hNm.symm.trans (C.2.2.2.2.2.1.1.2 2 _ rfl).2)
  subst hcA
  have hw := kk (a_set h nx _) a_set_s (fun q hq => a_set_n hq) H1 locs ls
    (P.new h4 (by rw [P.1] at e1; exact e1) z1 o1)
    ⟨Nat.le_trans S.1 (by omega), fun x g1 g2 => (o1 x (Nat.lt_of_lt_of_le g1 S.1)).trans (S.2.1 x g1 g2), S.2.2⟩ c
  have e : a_ev G (.ref nx) = .ref H.size := by show Value.ref (a_ad G nx) = _; rw [a_ad_ge h4, P.1]
  rw [List.map_cons, e] at hw
  exact hw

theorem ab_newq3 (C : aC X G cc nL d MC MS own) {idx : Nat} {z : Int32} {m : Nat} (hz : ¬ z < 0) (hm : z.toNatClampNeg = m) (hb : m * 4 ≤ 536870912) (hcl : Cond.classLink own idx "GlebeVowels$Land" ∈ lw_gt) (h4 : 4 ≤ nx) (hk : k + 1 ≤ MC ∧ n + m ≤ MS) (hd : decode cc pc = .ok (.anewarray idx, 3))
    (kk : ∀ h1 : aH, h1 nx = some (.inl (3, m, .inr (.inr (.inr (.inr (fun _ => none)))))) → (∀ q, q ≠ nx → h1 q = h q) → aV X G nL (pc + 3) lv (.ref nx :: st) h1 (nx + 1) (k + 1) (n + m)) : aV X G nL pc lv (.int z :: st) h nx k n := by
  intro H locs ls P S c
  have hts := C.2.2.2.2.1
  subst hm
  refine W.anew C.1 C.2.1 C.2.2.2.1 (hts _ hcl) (va_AO.use C.2.2.2.2.2.1.2.2.2.2.2.1) rfl hd rfl hz hb (Nat.le_trans hk.1 C.2.2.2.2.2.2.2.2.1) (Nat.le_trans hk.2 C.2.2.2.2.2.2.2.2.2) fun cA kA comp f1 f2 f3 f4 => ?_
  obtain ⟨-, -, -, -, -, f5⟩ := (C.2.2.2.2.2.1.1.2 3 _ rfl).2
  have hcA : cA = G.2.1 3 := Option.some.inj (f1.symm.trans f5)
  subst hcA
  generalize hH1 : H.push ({ cls := G.2.1 3, slots := Array.replicate z.toNatClampNeg .null, vm := .none } : Cell) = H1
  have z1 : H1.size = H.size + 1 := by rw [← hH1, Array.size_push]
  have e1 : H1[H.size]? = some (arrV (G.2.1 3) z.toNatClampNeg (fun _ => .null)) := by rw [← hH1, Array.getElem?_push_size, ← arrV_new]
  have o1 : ∀ q : Nat, q < H.size → H1[q]? = H[q]? := fun q hq => by rw [← hH1, Array.getElem?_push, if_neg (Nat.ne_of_lt hq)]
  have hw := kk (a_set h nx _) a_set_s (fun q hq => a_set_n hq) H1 locs ls
    (P.new h4 (by rw [P.1] at e1; exact e1) z1 o1)
    ⟨Nat.le_trans S.1 (by omega), fun x g1 g2 => (o1 x (Nat.lt_of_lt_of_le g1 S.1)).trans (S.2.1 x g1 g2), S.2.2⟩ c
  have e : a_ev G (.ref nx) = .ref H.size := by show Value.ref (a_ad G nx) = _; rw [a_ad_ge h4, P.1]
  rw [List.map_cons, e] at hw
  exact hw

theorem ab_aastore3 (C : aC X G cc nL d MC MS own) {a m v : Nat} {vs : List Value} {f : Nat → Option Nat} {i : Int32} (ha : h a = some (.inl (3, m, .inr (.inr (.inr (.inr f)))))) (hv : h v = some (.inr (2, vs))) (hi : vp_in i m) (hd : decode cc pc = .ok (.aastore, 1)) (kk : ∀ h1 : aH, h1 a = some (.inl (3, m, .inr (.inr (.inr (.inr (va_up f i.toNatClampNeg (some v))))))) → (∀ q, q ≠ a → h1 q = h q) → aV X G nL (pc + 1) lv st h1 nx k n) : aV X G nL pc lv (.ref v :: .int i :: .ref a :: st) h nx k n := by
  intro H locs ls P S c
  obtain ⟨h4, g1⟩ := P.2 a _ ha
  obtain ⟨h5, r', hr', cellV, v1, v2, v3, -⟩ := P.2 v _ hv
  have hK := C.2.2.2.2.2.1.1
  show W _ _ _ _ _ _ _ _ _ _ H locs k n _ (F0 _ pc ls (.ref (a_ad G v) :: .int i :: .ref (a_ad G a) :: st.map (a_ev G)))
  rw [a_ad_ge h4, a_ad_ge h5]
  have hlt : i.toNatClampNeg < m := Nat.not_le.mp fun q => hi (Or.inr q)
  have h0 : ¬ i < 0 := fun q => hi (Or.inl q)
  have hcls := (hK.1 2 _ rfl).2
  obtain ⟨kA, comp, k1, k2, k3, -⟩ := (hK.2 3 _ rfl).2
  have hcomp : comp = G.1.1 2 := Option.some.inj (k3.symm.trans hcls.1)
  subst hcomp
  obtain ⟨kC, hkC, -⟩ := hcls.2
  refine W.aast C.1 C.2.1 g1 (fun q h => by cases h) (fun h => by cases h) k1 k2 rfl hkC ⟨h0, by show _ < (arrV _ _ _).slots.size; rw [arrV_size]; exact hlt⟩ v1 (fun q h => by rw [v3] at h; cases h) (by rw [v2]; exact hkC) (by rw [v2]; exact va_assign hcls) rfl rfl hd fun H1 e z oq => ?_
  refine kk (a_set h a _) a_set_s (fun q hq => a_set_n hq) H1 _ ls (P.put h4 ?_ z oq) (S.put z oq (show G.2.2.1 + 4 ≤ _ by omega)) c
  show H1[G.2.2.1 + a]? = some (vp_cell _ _)
  rw [e]
  show some ((vp_cell _ (m, .inr (.inr (.inr (.inr (fun j => (f j).map (a_ad G))))))).setSlot _ _) = some (vp_cell _ (m, .inr (.inr (.inr (.inr (fun j => (va_up f i.toNatClampNeg (some v) j).map (a_ad G)))))))
  rw [vp_cell_q, vp_cell_q, arrV_store]
  congr 2
  funext q
  by_cases hq : q = i.toNatClampNeg
  · subst hq
    simp [updV, va_up, va_rf, a_ad_ge h5]
  · simp [updV, va_up, hq]

theorem ab_aastoreN3 (C : aC X G cc nL d MC MS own) {a m : Nat} {f : Nat → Option Nat} {i : Int32} (ha : h a = some (.inl (3, m, .inr (.inr (.inr (.inr f)))))) (hi : vp_in i m) (hd : decode cc pc = .ok (.aastore, 1)) (kk : ∀ h1 : aH, h1 a = some (.inl (3, m, .inr (.inr (.inr (.inr (va_up f i.toNatClampNeg none)))))) → (∀ q, q ≠ a → h1 q = h q) → aV X G nL (pc + 1) lv st h1 nx k n) : aV X G nL pc lv (.null :: .int i :: .ref a :: st) h nx k n := by
  intro H locs ls P S c
  obtain ⟨h4, g1⟩ := P.2 a _ ha
  have hK := C.2.2.2.2.2.1.1
  show W _ _ _ _ _ _ _ _ _ _ H locs k n _ (F0 _ pc ls (.null :: .int i :: .ref (a_ad G a) :: st.map (a_ev G)))
  rw [a_ad_ge h4]
  refine va_WaastN C.1 C.2.1 g1 ((hK.2 3 _ rfl).1 m (fun j => va_rf ((f j).map (a_ad G)))) (fun h => by cases h) (by show ¬ (i < 0 ∨ (arrV _ _ _).slots.size ≤ _); rw [arrV_size]; exact hi) rfl rfl hd fun H1 e z oq => ?_
  refine kk (a_set h a _) a_set_s (fun q hq => a_set_n hq) H1 _ ls (P.put h4 ?_ z oq) (S.put z oq (show G.2.2.1 + 4 ≤ _ by omega)) c
  show H1[G.2.2.1 + a]? = some (vp_cell _ _)
  rw [e]
  show some ((vp_cell _ (m, .inr (.inr (.inr (.inr (fun j => (f j).map (a_ad G))))))).setSlot _ _) = some (vp_cell _ (m, .inr (.inr (.inr (.inr (fun j => (va_up f i.toNatClampNeg none j).map (a_ad G)))))))
  rw [vp_cell_q, vp_cell_q, arrV_store]
  congr 2
  funext q
  by_cases hq : q = i.toNatClampNeg
  · subst hq
    simp [updV, va_up, va_rf]
  · simp [updV, va_up, hq]

theorem ab_newq4 (C : aC X G cc nL d MC MS own) {idx : Nat} {z : Int32} {m : Nat} (hz : ¬ z < 0) (hm : z.toNatClampNeg = m) (hb : m * 4 ≤ 536870912) (hcl : Cond.classLink own idx "GlebeVowels$Sheet" ∈ lw_gt) (h4 : 4 ≤ nx) (hk : k + 1 ≤ MC ∧ n + m ≤ MS) (hd : decode cc pc = .ok (.anewarray idx, 3))
    (kk : ∀ h1 : aH, h1 nx = some (.inl (4, m, .inr (.inr (.inr (.inr (fun _ => none)))))) → (∀ q, q ≠ nx → h1 q = h q) → aV X G nL (pc + 3) lv (.ref nx :: st) h1 (nx + 1) (k + 1) (n + m)) : aV X G nL pc lv (.int z :: st) h nx k n := by
  intro H locs ls P S c
  have hts := C.2.2.2.2.1
  subst hm
  refine W.anew C.1 C.2.1 C.2.2.2.1 (hts _ hcl) (va_AO.use C.2.2.2.2.2.1.2.2.2.2.2.2) rfl hd rfl hz hb (Nat.le_trans hk.1 C.2.2.2.2.2.2.2.2.1) (Nat.le_trans hk.2 C.2.2.2.2.2.2.2.2.2) fun cA kA comp f1 f2 f3 f4 => ?_
  obtain ⟨-, -, -, -, -, f5⟩ := (C.2.2.2.2.2.1.1.2 4 _ rfl).2
  have hcA : cA = G.2.1 4 := Option.some.inj (f1.symm.trans f5)
  subst hcA
  generalize hH1 : H.push ({ cls := G.2.1 4, slots := Array.replicate z.toNatClampNeg .null, vm := .none } : Cell) = H1
  have z1 : H1.size = H.size + 1 := by rw [← hH1, Array.size_push]
  have e1 : H1[H.size]? = some (arrV (G.2.1 4) z.toNatClampNeg (fun _ => .null)) := by rw [← hH1, Array.getElem?_push_size, ← arrV_new]
  have o1 : ∀ q : Nat, q < H.size → H1[q]? = H[q]? := fun q hq => by rw [← hH1, Array.getElem?_push, if_neg (Nat.ne_of_lt hq)]
  have hw := kk (a_set h nx _) a_set_s (fun q hq => a_set_n hq) H1 locs ls
    (P.new h4 (by rw [P.1] at e1; exact e1) z1 o1)
    ⟨Nat.le_trans S.1 (by omega), fun x g1 g2 => (o1 x (Nat.lt_of_lt_of_le g1 S.1)).trans (S.2.1 x g1 g2), S.2.2⟩ c
  have e : a_ev G (.ref nx) = .ref H.size := by show Value.ref (a_ad G nx) = _; rw [a_ad_ge h4, P.1]
  rw [List.map_cons, e] at hw
  exact hw

theorem ab_aastore4 (C : aC X G cc nL d MC MS own) {a m v : Nat} {vs : List Value} {f : Nat → Option Nat} {i : Int32} (ha : h a = some (.inl (4, m, .inr (.inr (.inr (.inr f)))))) (hv : h v = some (.inr (5, vs))) (hi : vp_in i m) (hd : decode cc pc = .ok (.aastore, 1)) (kk : ∀ h1 : aH, h1 a = some (.inl (4, m, .inr (.inr (.inr (.inr (va_up f i.toNatClampNeg (some v))))))) → (∀ q, q ≠ a → h1 q = h q) → aV X G nL (pc + 1) lv st h1 nx k n) : aV X G nL pc lv (.ref v :: .int i :: .ref a :: st) h nx k n := by
  intro H locs ls P S c
  obtain ⟨h4, g1⟩ := P.2 a _ ha
  obtain ⟨h5, r', hr', cellV, v1, v2, v3, -⟩ := P.2 v _ hv
  have hK := C.2.2.2.2.2.1.1
  show W _ _ _ _ _ _ _ _ _ _ H locs k n _ (F0 _ pc ls (.ref (a_ad G v) :: .int i :: .ref (a_ad G a) :: st.map (a_ev G)))
  rw [a_ad_ge h4, a_ad_ge h5]
  have hlt : i.toNatClampNeg < m := Nat.not_le.mp fun q => hi (Or.inr q)
  have h0 : ¬ i < 0 := fun q => hi (Or.inl q)
  have hcls := (hK.1 5 _ rfl).2
  obtain ⟨kA, comp, k1, k2, k3, -⟩ := (hK.2 4 _ rfl).2
  have hcomp : comp = G.1.1 5 := Option.some.inj (k3.symm.trans hcls.1)
  subst hcomp
  obtain ⟨kC, hkC, -⟩ := hcls.2
  refine W.aast C.1 C.2.1 g1 (fun q h => by cases h) (fun h => by cases h) k1 k2 rfl hkC ⟨h0, by show _ < (arrV _ _ _).slots.size; rw [arrV_size]; exact hlt⟩ v1 (fun q h => by rw [v3] at h; cases h) (by rw [v2]; exact hkC) (by rw [v2]; exact va_assign hcls) rfl rfl hd fun H1 e z oq => ?_
  refine kk (a_set h a _) a_set_s (fun q hq => a_set_n hq) H1 _ ls (P.put h4 ?_ z oq) (S.put z oq (show G.2.2.1 + 4 ≤ _ by omega)) c
  show H1[G.2.2.1 + a]? = some (vp_cell _ _)
  rw [e]
  show some ((vp_cell _ (m, .inr (.inr (.inr (.inr (fun j => (f j).map (a_ad G))))))).setSlot _ _) = some (vp_cell _ (m, .inr (.inr (.inr (.inr (fun j => (va_up f i.toNatClampNeg (some v) j).map (a_ad G)))))))
  rw [vp_cell_q, vp_cell_q, arrV_store]
  congr 2
  funext q
  by_cases hq : q = i.toNatClampNeg
  · subst hq
    simp [updV, va_up, va_rf, a_ad_ge h5]
  · simp [updV, va_up, hq]

theorem ab_aastoreN4 (C : aC X G cc nL d MC MS own) {a m : Nat} {f : Nat → Option Nat} {i : Int32} (ha : h a = some (.inl (4, m, .inr (.inr (.inr (.inr f)))))) (hi : vp_in i m) (hd : decode cc pc = .ok (.aastore, 1)) (kk : ∀ h1 : aH, h1 a = some (.inl (4, m, .inr (.inr (.inr (.inr (va_up f i.toNatClampNeg none)))))) → (∀ q, q ≠ a → h1 q = h q) → aV X G nL (pc + 1) lv st h1 nx k n) : aV X G nL pc lv (.null :: .int i :: .ref a :: st) h nx k n := by
  intro H locs ls P S c
  obtain ⟨h4, g1⟩ := P.2 a _ ha
  have hK := C.2.2.2.2.2.1.1
  show W _ _ _ _ _ _ _ _ _ _ H locs k n _ (F0 _ pc ls (.null :: .int i :: .ref (a_ad G a) :: st.map (a_ev G)))
  rw [a_ad_ge h4]
  refine va_WaastN C.1 C.2.1 g1 ((hK.2 4 _ rfl).1 m (fun j => va_rf ((f j).map (a_ad G)))) (fun h => by cases h) (by show ¬ (i < 0 ∨ (arrV _ _ _).slots.size ≤ _); rw [arrV_size]; exact hi) rfl rfl hd fun H1 e z oq => ?_
  refine kk (a_set h a _) a_set_s (fun q hq => a_set_n hq) H1 _ ls (P.put h4 ?_ z oq) (S.put z oq (show G.2.2.1 + 4 ≤ _ by omega)) c
  show H1[G.2.2.1 + a]? = some (vp_cell _ _)
  rw [e]
  show some ((vp_cell _ (m, .inr (.inr (.inr (.inr (fun j => (f j).map (a_ad G))))))).setSlot _ _) = some (vp_cell _ (m, .inr (.inr (.inr (.inr (fun j => (va_up f i.toNatClampNeg none j).map (a_ad G)))))))
  rw [vp_cell_q, vp_cell_q, arrV_store]
  congr 2
  funext q
  by_cases hq : q = i.toNatClampNeg
  · subst hq
    simp [updV, va_up, va_rf]
  · simp [updV, va_up, hq]

theorem ab_copyi (C : aC X G cc nL d MC MS own) {idx a0 a1 n0 n1 : Nat} {f g : Nat → Int32} (ha0 : h a0 = some (.inl (0, n0, .inl f))) (ha1 : h a1 = some (.inl (0, n1, .inl g)))
    (hlink : Cond.methodLink own idx arraycopyName ∈ lw_gt) (hnat : Cond.native arraycopyName ∈ lw_gt) (hstat : Cond.static arraycopyName ∈ lw_gt) (hini : Cond.initialized "java/lang/System" ∈ lw_gt)
    {sp dp z : Int32} (h1 : ¬ sp < 0) (h2 : ¬ dp < 0) (h3 : ¬ z < 0) (h4 : sp.toNatClampNeg + z.toNatClampNeg ≤ n0) (h5 : dp.toNatClampNeg + z.toNatClampNeg ≤ n1) (hdp : 1 ≤ d) (hcs : (st.map fun v => v.category).sum ≤ 8) (hd : decode cc pc = .ok (.invokestatic idx, 3))
    (kk : ∀ q1 : aH, q1 a1 = some (.inl (0, n1, .inl (va_cpy f g sp.toNatClampNeg dp.toNatClampNeg z.toNatClampNeg))) → (∀ q, q ≠ a1 → q1 q = h q) → aV X G nL (pc + 3) lv st q1 nx k n) : aV X G nL pc lv (.int z :: .int dp :: .ref a1 :: .int sp :: .ref a0 :: st) h nx k n := by
  intro H locs ls P S c
  obtain ⟨b0, hc0⟩ := P.2 a0 _ ha0
  obtain ⟨b1, hc1⟩ := P.2 a1 _ ha1
  have hts := C.2.2.2.2.1
  have hK := C.2.2.2.2.2.1.1
  show W _ _ _ _ _ _ _ _ _ _ H locs k n _ (F0 _ pc ls (.int z :: .int dp :: .ref (a_ad G a1) :: .int sp :: .ref (a_ad G a0) :: st.map (a_ev G)))
  rw [a_ad_ge b0, a_ad_ge b1]
  have nn : ∀ z : Int32, ¬ z < 0 → z.toInt = (z.toNatClampNeg : Int) := by
    intro z hz
    have hz0 : (0 : Int) ≤ z.toInt := by
      have := Int32.not_lt.mp hz
      simpa using Int32.le_iff_toInt_le.mp this
    show z.toInt = ((z.toInt.toNat : Nat) : Int)
    omega
  intro T hT Y
  have hc0 : H[G.2.2.1 + a0]? = some (vp_cell (G.2.1 0) (n0, .inl f)) := hc0
  have hc1 : H[G.2.2.1 + a1]? = some (vp_cell (G.2.1 0) (n1, .inl g)) := hc1
  obtain ⟨-, k0, hk0, cm0, hkk0⟩ := (hK.2 0 _ rfl).1 n0 (fun j => .int (f j))
  obtain ⟨-, k1, hk1, cm1, hkk1⟩ := (hK.2 0 _ rfl).1 n1 (fun j => .int (g j))
  have hlo := C.2.2.2.2.2.2.2.1
  have hfr := C.2.2.2.2.2.2.1
  obtain ⟨vm', Y', step⟩ := Y.arraycopy C.1 C.2.2.2.1 (hts _ hlink) (hts _ hnat) (hts _ hstat) (hts _ hini) (src := G.2.2.1 + a0) (dst := G.2.2.1 + a1) (cs := vp_cell (G.2.1 0) (n0, .inl f)) (cd := vp_cell (G.2.1 0) (n1, .inl g)) (srcPos := sp) (destPos := dp) (n := z) (by rw [hT]; exact hc0) (by rw [hT]; exact hc1)
    (fun _ h => by cases h) (fun _ h => by cases h) (fun h => by cases h) (fun h => by cases h) hk0 hk1 hkk0 hkk1 (by simp [refKind]) h1 h2 h3
    (by rw [nn sp h1, nn z h3]; show ¬ _ > ((arrV _ n0 (fun j => .int (f j))).slots.size : Int); rw [arrV_size]; omega)
    (by rw [nn dp h2, nn z h3]; show ¬ _ > ((arrV _ n1 (fun j => .int (g j))).slots.size : Int); rw [arrV_size]; omega)
    (fun vm₁ _ i hi => by
      have e : (vp_cell (G.2.1 0) (n0, .inl f)).slots.getD (sp.toNatClampNeg + i) .null = .int (f (sp.toNatClampNeg + i)) := by
        show (arrV (G.2.1 0) n0 (fun j => .int (f j))).slots.getD _ _ = _
        rw [Array.getD_eq_getD_getElem?, arrV_read _ _ (by omega)]
        rfl
      refine ⟨?_, ?_⟩
      · rw [e]
        first | rfl | exact fits_int _ | simp [fits]
      · rw [e]
        exact trivial)
    (g := F0 (xm X) pc ls (.int z :: .int dp :: .ref (G.2.2.1 + a1) :: .int sp :: .ref (G.2.2.1 + a0) :: st.map (a_ev G))) rfl (by rw [C.2.2.1]; exact c.1) (rest := st.map (a_ev G)) rfl (by rw [C.2.1]; exact hd) (Nat.le_trans hdp hfr) (by
      have e2 := a_cats (G := G) (st := st)
      have e3 : nativeFrameWords "java/lang/System" "arraycopy" 5 ≤ 40 := by decide +kernel
      show 2 * 0 + (((st.map (a_ev G)).map fun v => v.category).sum) + (nativeFrameWords "java/lang/System" "arraycopy" 5 + 11) ≤ _
      rw [e2]; omega)
  have e1 : copied (vp_cell (G.2.1 0) (n0, .inl f)) (vp_cell (G.2.1 0) (n1, .inl g)) sp dp z = vp_cell (G.2.1 0) (n1, .inl (va_cpy f g sp.toNatClampNeg dp.toNatClampNeg z.toNatClampNeg)) := va_copied (fun z => .int z) _ _ f g h4
  rw [e1] at Y' step
  have hl : G.2.2.1 + a1 < H.size := (Array.getElem?_eq_some_iff.mp hc1).1
  have oq : ∀ q : Nat, q ≠ G.2.2.1 + a1 → (H.setIfInBounds (G.2.2.1 + a1) (vp_cell (G.2.1 0) (n1, .inl (va_cpy f g sp.toNatClampNeg dp.toNatClampNeg z.toNatClampNeg))))[q]? = H[q]? := fun q hq => by simp [Array.getElem?_setIfInBounds, Ne.symm hq]
  obtain ⟨t, g1, g2⟩ := kk (a_set h a1 _) a_set_s (fun q hq => a_set_n hq) (H.setIfInBounds (G.2.2.1 + a1) (vp_cell (G.2.1 0) (n1, .inl (va_cpy f g sp.toNatClampNeg dp.toNatClampNeg z.toNatClampNeg)))) _ ls
    (P.put b1 (show (H.setIfInBounds (G.2.2.1 + a1) _)[G.2.2.1 + a1]? = some _ by simp [Array.getElem?_setIfInBounds, hl]; rfl) (by simp) oq)
    ⟨by simp; exact S.1, fun q g1 g2 => by
      rw [oq q (fun e => g2 (by rw [e]; show G.2.2.1 + 4 ≤ _; omega))]
      exact S.2.1 q g1 g2, fun q hq => by
      rcases List.mem_append.mp hq with h | h
      · exact S.2.2 q h
      · obtain ⟨z, -, hz⟩ := List.mem_map.mp h
        rw [← hz]
        show G.2.2.1 + 4 ≤ _; dsimp only; omega⟩ c _ (by rw [← hT]; rfl) Y'
  exact ⟨t, step t g1, g2⟩

theorem ab_copyl (C : aC X G cc nL d MC MS own) {idx a0 a1 n0 n1 : Nat} {f g : Nat → Int64} (ha0 : h a0 = some (.inl (1, n0, .inr (.inl f)))) (ha1 : h a1 = some (.inl (1, n1, .inr (.inl g))))
    (hlink : Cond.methodLink own idx arraycopyName ∈ lw_gt) (hnat : Cond.native arraycopyName ∈ lw_gt) (hstat : Cond.static arraycopyName ∈ lw_gt) (hini : Cond.initialized "java/lang/System" ∈ lw_gt)
    {sp dp z : Int32} (h1 : ¬ sp < 0) (h2 : ¬ dp < 0) (h3 : ¬ z < 0) (h4 : sp.toNatClampNeg + z.toNatClampNeg ≤ n0) (h5 : dp.toNatClampNeg + z.toNatClampNeg ≤ n1) (hdp : 1 ≤ d) (hcs : (st.map fun v => v.category).sum ≤ 8) (hd : decode cc pc = .ok (.invokestatic idx, 3))
    (kk : ∀ q1 : aH, q1 a1 = some (.inl (1, n1, .inr (.inl (va_cpy f g sp.toNatClampNeg dp.toNatClampNeg z.toNatClampNeg)))) → (∀ q, q ≠ a1 → q1 q = h q) → aV X G nL (pc + 3) lv st q1 nx k n) : aV X G nL pc lv (.int z :: .int dp :: .ref a1 :: .int sp :: .ref a0 :: st) h nx k n := by
  intro H locs ls P S c
  obtain ⟨b0, hc0⟩ := P.2 a0 _ ha0
  obtain ⟨b1, hc1⟩ := P.2 a1 _ ha1
  have hts := C.2.2.2.2.1
  have hK := C.2.2.2.2.2.1.1
  show W _ _ _ _ _ _ _ _ _ _ H locs k n _ (F0 _ pc ls (.int z :: .int dp :: .ref (a_ad G a1) :: .int sp :: .ref (a_ad G a0) :: st.map (a_ev G)))
  rw [a_ad_ge b0, a_ad_ge b1]
  have nn : ∀ z : Int32, ¬ z < 0 → z.toInt = (z.toNatClampNeg : Int) := by
    intro z hz
    have hz0 : (0 : Int) ≤ z.toInt := by
      have := Int32.not_lt.mp hz
      simpa using Int32.le_iff_toInt_le.mp this
    show z.toInt = ((z.toInt.toNat : Nat) : Int)
    omega
  intro T hT Y
  have hc0 : H[G.2.2.1 + a0]? = some (vp_cell (G.2.1 1) (n0, .inr (.inl f))) := hc0
  have hc1 : H[G.2.2.1 + a1]? = some (vp_cell (G.2.1 1) (n1, .inr (.inl g))) := hc1
  obtain ⟨-, k0, hk0, cm0, hkk0⟩ := (hK.2 1 _ rfl).1 n0 (fun j => .long (f j))
  obtain ⟨-, k1, hk1, cm1, hkk1⟩ := (hK.2 1 _ rfl).1 n1 (fun j => .long (g j))
  have hlo := C.2.2.2.2.2.2.2.1
  have hfr := C.2.2.2.2.2.2.1
  obtain ⟨vm', Y', step⟩ := Y.arraycopy C.1 C.2.2.2.1 (hts _ hlink) (hts _ hnat) (hts _ hstat) (hts _ hini) (src := G.2.2.1 + a0) (dst := G.2.2.1 + a1) (cs := vp_cell (G.2.1 1) (n0, .inr (.inl f))) (cd := vp_cell (G.2.1 1) (n1, .inr (.inl g))) (srcPos := sp) (destPos := dp) (n := z) (by rw [hT]; exact hc0) (by rw [hT]; exact hc1)
    (fun _ h => by cases h) (fun _ h => by cases h) (fun h => by cases h) (fun h => by cases h) hk0 hk1 hkk0 hkk1 (by simp [refKind]) h1 h2 h3
    (by rw [nn sp h1, nn z h3]; show ¬ _ > ((arrV _ n0 (fun j => .long (f j))).slots.size : Int); rw [arrV_size]; omega)
    (by rw [nn dp h2, nn z h3]; show ¬ _ > ((arrV _ n1 (fun j => .long (g j))).slots.size : Int); rw [arrV_size]; omega)
    (fun vm₁ _ i hi => by
      have e : (vp_cell (G.2.1 1) (n0, .inr (.inl f))).slots.getD (sp.toNatClampNeg + i) .null = .long (f (sp.toNatClampNeg + i)) := by
        show (arrV (G.2.1 1) n0 (fun j => .long (f j))).slots.getD _ _ = _
        rw [Array.getD_eq_getD_getElem?, arrV_read _ _ (by omega)]
        rfl
      refine ⟨?_, ?_⟩
      · rw [e]
        first | rfl | exact fits_int _ | simp [fits]
      · rw [e]
        exact trivial)
    (g := F0 (xm X) pc ls (.int z :: .int dp :: .ref (G.2.2.1 + a1) :: .int sp :: .ref (G.2.2.1 + a0) :: st.map (a_ev G))) rfl (by rw [C.2.2.1]; exact c.1) (rest := st.map (a_ev G)) rfl (by rw [C.2.1]; exact hd) (Nat.le_trans hdp hfr) (by
      have e2 := a_cats (G := G) (st := st)
      have e3 : nativeFrameWords "java/lang/System" "arraycopy" 5 ≤ 40 := by decide +kernel
      show 2 * 0 + (((st.map (a_ev G)).map fun v => v.category).sum) + (nativeFrameWords "java/lang/System" "arraycopy" 5 + 11) ≤ _
      rw [e2]; omega)
  have e1 : copied (vp_cell (G.2.1 1) (n0, .inr (.inl f))) (vp_cell (G.2.1 1) (n1, .inr (.inl g))) sp dp z = vp_cell (G.2.1 1) (n1, .inr (.inl (va_cpy f g sp.toNatClampNeg dp.toNatClampNeg z.toNatClampNeg))) := va_copied (fun z => .long z) _ _ f g h4
  rw [e1] at Y' step
  have hl : G.2.2.1 + a1 < H.size := (Array.getElem?_eq_some_iff.mp hc1).1
  have oq : ∀ q : Nat, q ≠ G.2.2.1 + a1 → (H.setIfInBounds (G.2.2.1 + a1) (vp_cell (G.2.1 1) (n1, .inr (.inl (va_cpy f g sp.toNatClampNeg dp.toNatClampNeg z.toNatClampNeg)))))[q]? = H[q]? := fun q hq => by simp [Array.getElem?_setIfInBounds, Ne.symm hq]
  obtain ⟨t, g1, g2⟩ := kk (a_set h a1 _) a_set_s (fun q hq => a_set_n hq) (H.setIfInBounds (G.2.2.1 + a1) (vp_cell (G.2.1 1) (n1, .inr (.inl (va_cpy f g sp.toNatClampNeg dp.toNatClampNeg z.toNatClampNeg))))) _ ls
    (P.put b1 (show (H.setIfInBounds (G.2.2.1 + a1) _)[G.2.2.1 + a1]? = some _ by simp [Array.getElem?_setIfInBounds, hl]; rfl) (by simp) oq)
    ⟨by simp; exact S.1, fun q g1 g2 => by
      rw [oq q (fun e => g2 (by rw [e]; show G.2.2.1 + 4 ≤ _; omega))]
      exact S.2.1 q g1 g2, fun q hq => by
      rcases List.mem_append.mp hq with h | h
      · exact S.2.2 q h
      · obtain ⟨z, -, hz⟩ := List.mem_map.mp h
        rw [← hz]
        show G.2.2.1 + 4 ≤ _; dsimp only; omega⟩ c _ (by rw [← hT]; rfl) Y'
  exact ⟨t, step t g1, g2⟩

theorem ab_kinds (C : aC X G cc nL d MC MS own) {idx : Nat} {ref : String} (hlink : Cond.fieldLink own idx ref "KIND_ABOVE" "[I" ∈ lw_gt) (href : ref = "GlebeVowels") (hd : decode cc pc = .ok (.getstatic idx, 3)) (kk : aV X G nL (pc + 3) lv (.ref 2 :: st) h nx k n) : aV X G nL pc lv st h nx k n := by
  intro H locs ls P S c
  subst href
  exact va_gets C.1 C.2.1 C.2.2.2.2.2.1.2.2.1.1 S C.2.2.2.1 (C.2.2.2.2.1 _ hlink) (fun _ h9 => h9) hd (kk H locs ls P S c)
theorem ab_kindlen (C : aC X G cc nL d MC MS own) (hd : decode cc pc = .ok (.arraylength, 1)) (kk : aV X G nL (pc + 1) lv (.int 6 :: st) h nx k n) : aV X G nL pc lv (.ref 2 :: st) h nx k n := by
  intro H locs ls P S c
  exact va_tlen C.1 C.2.1 C.2.2.2.2.2.1.2.2.1.2.1 S rfl hd (kk H locs ls P S c)
theorem ab_kindld (C : aC X G cc nL d MC MS own) {i : Int32} (hi : vp_in i 6) (hd : decode cc pc = .ok (.iaload, 1)) (kk : aV X G nL (pc + 1) lv (.int (a_kinds i.toNatClampNeg) :: st) h nx k n) : aV X G nL pc lv (.int i :: .ref 2 :: st) h nx k n := by
  intro H locs ls P S c
  exact va_ti C.1 C.2.1 C.2.2.2.2.2.1.2.2.1.2.1 S hi rfl hd (kk H locs ls P S c)
theorem ab_topi {pc : Nat} {x : Int32} (kk : ∀ y : Int32, y = x → aV X G nL pc lv (.int y :: st) h nx k n) : aV X G nL pc lv (.int x :: st) h nx k n := kk x rfl
theorem ab_topl {pc : Nat} {x : Int64} (kk : ∀ y : Int64, y = x → aV X G nL pc lv (.long y :: st) h nx k n) : aV X G nL pc lv (.long x :: st) h nx k n := kk x rfl
end AD
/-! what may fail, as numbers -/
def rdI (f : Nat → Int32) (m : Nat) (i : Int32) : Option Int32 := if i < 0 ∨ m ≤ i.toNatClampNeg then none else some (f i.toNatClampNeg)
def rdL (f : Nat → Int64) (m : Nat) (i : Int32) : Option Int64 := if i < 0 ∨ m ≤ i.toNatClampNeg then none else some (f i.toNatClampNeg)
def wrI (f : Nat → Int32) (m : Nat) (i x : Int32) : Option (Nat → Int32) := if i < 0 ∨ m ≤ i.toNatClampNeg then none else some (upd f i.toNatClampNeg x)
def wrL (f : Nat → Int64) (m : Nat) (i : Int32) (x : Int64) : Option (Nat → Int64) := if i < 0 ∨ m ≤ i.toNatClampNeg then none else some (vp_updL f i.toNatClampNeg x)
theorem rdI_s {f : Nat → Int32} {m : Nat} {i x : Int32} (h : rdI f m i = some x) : vp_in i m ∧ f i.toNatClampNeg = x := by
  unfold rdI at h
  split at h
  · cases h
  · next q => exact ⟨q, Option.some.inj h⟩
theorem rdL_s {f : Nat → Int64} {m : Nat} {i : Int32} {x : Int64} (h : rdL f m i = some x) : vp_in i m ∧ f i.toNatClampNeg = x := by
  unfold rdL at h
  split at h
  · cases h
  · next q => exact ⟨q, Option.some.inj h⟩
theorem wrI_s {f g : Nat → Int32} {m : Nat} {i x : Int32} (h : wrI f m i x = some g) : vp_in i m ∧ upd f i.toNatClampNeg x = g := by
  unfold wrI at h
  split at h
  · cases h
  · next q => exact ⟨q, Option.some.inj h⟩
theorem wrL_s {f g : Nat → Int64} {m : Nat} {i : Int32} {x : Int64} (h : wrL f m i x = some g) : vp_in i m ∧ vp_updL f i.toNatClampNeg x = g := by
  unfold wrL at h
  split at h
  · cases h
  · next q => exact ⟨q, Option.some.inj h⟩
def aLet {α β : Type} (x : α) (f : α → β) : β := f x
theorem aLet_e {α β : Type} {x : α} {f : α → β} {r : β} (h : aLet x f = r) (y : α) (hy : y = x) : f y = r := by rw [hy]; exact h
section AE
variable {X : aX} {G : aG} {cc : ByteArray} {nL d MC MS pc : Nat} {own : String} {lv lv' : List (Nat × Value)} {st : List Value} {h : aH} {nx k n : Nat}
theorem ab_iald (C : aC X G cc nL d MC MS own) {a m : Nat} {f : Nat → Int32} {i x : Int32} (ha : h a = some (.inl (0, m, .inl f))) (hx : rdI f m i = some x) (hd : decode cc pc = .ok (.iaload, 1)) (kk : aV X G nL (pc + 1) lv (.int x :: st) h nx k n) : aV X G nL pc lv (.int i :: .ref a :: st) h nx k n := by
  obtain ⟨hi, rfl⟩ := rdI_s hx
  exact ab_iaload C ha hi hd kk
theorem ab_zald (C : aC X G cc nL d MC MS own) {a m : Nat} {f : Nat → Int32} {i x : Int32} (ha : h a = some (.inl (2, m, .inl f))) (hx : rdI f m i = some x) (hd : decode cc pc = .ok (.baload, 1)) (kk : aV X G nL (pc + 1) lv (.int x :: st) h nx k n) : aV X G nL pc lv (.int i :: .ref a :: st) h nx k n := by
  obtain ⟨hi, rfl⟩ := rdI_s hx
  exact ab_zaload C ha hi hd kk
theorem ab_lald (C : aC X G cc nL d MC MS own) {a m : Nat} {f : Nat → Int64} {i : Int32} {x : Int64} (ha : h a = some (.inl (1, m, .inr (.inl f)))) (hx : rdL f m i = some x) (hd : decode cc pc = .ok (.laload, 1)) (kk : aV X G nL (pc + 1) lv (.long x :: st) h nx k n) : aV X G nL pc lv (.int i :: .ref a :: st) h nx k n := by
  obtain ⟨hi, rfl⟩ := rdL_s hx
  exact ab_laload C ha hi hd kk
theorem ab_iast (C : aC X G cc nL d MC MS own) {a m : Nat} {f g : Nat → Int32} {i x : Int32} (ha : h a = some (.inl (0, m, .inl f))) (hx : wrI f m i x = some g) (hd : decode cc pc = .ok (.iastore, 1)) (kk : ∀ h1 : aH, h1 a = some (.inl (0, m, .inl g)) → (∀ q, q ≠ a → h1 q = h q) → aV X G nL (pc + 1) lv st h1 nx k n) : aV X G nL pc lv (.int x :: .int i :: .ref a :: st) h nx k n := by
  obtain ⟨hi, rfl⟩ := wrI_s hx
  exact ab_iastore C ha hi hd kk
theorem ab_zast (C : aC X G cc nL d MC MS own) {a m : Nat} {f g : Nat → Int32} {i x : Int32} (ha : h a = some (.inl (2, m, .inl f))) (hx : wrI f m i x = some g) (hz : vp_nar .boolean x = x) (hd : decode cc pc = .ok (.bastore, 1)) (kk : ∀ h1 : aH, h1 a = some (.inl (2, m, .inl g)) → (∀ q, q ≠ a → h1 q = h q) → aV X G nL (pc + 1) lv st h1 nx k n) : aV X G nL pc lv (.int x :: .int i :: .ref a :: st) h nx k n := by
  obtain ⟨hi, rfl⟩ := wrI_s hx
  refine ab_zastore C ha hi hd ?_
  rw [hz]
  exact kk
theorem ab_last (C : aC X G cc nL d MC MS own) {a m : Nat} {f g : Nat → Int64} {i : Int32} {x : Int64} (ha : h a = some (.inl (1, m, .inr (.inl f)))) (hx : wrL f m i x = some g) (hd : decode cc pc = .ok (.lastore, 1)) (kk : ∀ h1 : aH, h1 a = some (.inl (1, m, .inr (.inl g))) → (∀ q, q ≠ a → h1 q = h q) → aV X G nL (pc + 1) lv st h1 nx k n) : aV X G nL pc lv (.long x :: .int i :: .ref a :: st) h nx k n := by
  obtain ⟨hi, rfl⟩ := wrL_s hx
  exact ab_lastore C ha hi hd kk
end AE
/-! what methods leave -/
def aRd (v : Value) (h : aH) (nx : Nat) : Option Value → aH → Nat → Prop := fun v1 h1 nx1 => v1 = some v ∧ h1 = h ∧ nx1 = nx
def aMt (v : Option Value) (nx : Nat) (Pm : aH → Prop) : Option Value → aH → Nat → Prop := fun v1 h1 nx1 => v1 = v ∧ nx1 = nx ∧ Pm h1
def aCs {R S T : Type} (e : R ⊕ S) (f : R → T) (g : S → T) : T := match e with
  | .inl r => f r
  | .inr s => g s
/-- a block's numbers: whole numbers by slot, int arrays by slot, long arrays by slot -/
abbrev Rec : Type := (Nat → Int32) × (Nat → Nat → Int32) × (Nat → Nat → Int64)
def sI (S : Rec) (j : Nat) (v : Int32) : Rec := (upd S.1 j v, S.2)
def sA (S : Rec) (j : Nat) (f : Nat → Int32) : Rec := (S.1, fun i => if i = j then f else S.2.1 i, S.2.2)
def sL (S : Rec) (j : Nat) (f : Nat → Int64) : Rec := (S.1, S.2.1, fun i => if i = j then f else S.2.2 i)

