/-! rows of the abstract layer: fields, arrays, new cells, calls, ends -/
theorem a_ad_ge {G : aG} {k : Nat} (h : 4 ≤ k) : a_ad G k = G.2.2.1 + k := if_neg (by omega)
theorem a_P1 {G : aG} {h : aH} {nx : Nat} {H : Heap} (P : a_P G h nx H) {k : Nat} {e : va_E} (hk : h k = some e) : va_P G.1 vwCl [(G.2.2.1 + k, a_ee G e)] H := by
  intro j q hj
  cases j with
  | zero => cases hj; exact (P.2 k e hk).2
  | succ j => simp at hj
section AC
variable {X : aX} {G : aG} {cc : ByteArray} {nL d MC MS pc : Nat} {own : String} {lv lv' : List (Nat × Value)} {st : List Value} {h : aH} {nx k n : Nat}
theorem ab_get (C : aC X G cc nL d MC MS own) {idx : Nat} {Cn ref : String} {T : u_T} {N ci kf : Nat} (hc : vwCl[ci]? = some (Cn, T, N)) (hin : ∀ w ∈ u_ws Cn T N, w ∈ lw_gt) (hkf : kf < N) (hlink : Cond.fieldLink own idx ref (T kf).2.1 (T kf).2.2.1 ∈ lw_gt) (hsame : ref = (T kf).1)
    {a : Nat} {fs : List Value} {v : Value} (ha : h a = some (.inr (ci, fs))) (hv : fs[kf]? = some v) (hd : decode cc pc = .ok (.getfield idx, 3)) (kk : aV X G nL (pc + 3) lv (v :: st) h nx k n) : aV X G nL pc lv (.ref a :: st) h nx k n := by
  intro H locs ls P S c
  have h4 := (P.2 a _ ha).1
  show W _ _ _ _ _ _ _ _ _ _ H locs k n _ (F0 _ pc ls (.ref (a_ad G a) :: st.map (a_ev G)))
  rw [a_ad_ge h4]
  subst hsame
  exact va_get C.1 C.2.1 C.2.2.2.2.1 hin C.2.2.2.1 C.2.2.2.2.2.1.1 (a_P1 P ha) 0 rfl hc kf hkf (C.2.2.2.2.1 _ hlink) (fun _ h9 => h9) (by rw [List.getElem?_map, hv]; rfl) hd (kk H locs ls P S c)
theorem ab_getN (C : aC X G cc nL d MC MS own) {idx : Nat} {Cn ref host : String} {T : u_T} {N ci kf : Nat} (hc : vwCl[ci]? = some (Cn, T, N)) (hin : ∀ w ∈ u_ws Cn T N, w ∈ lw_gt) (hkf : kf < N) (hlink : (own, idx, ref, (T kf).2.1, (T kf).2.2.1, host) ∈ a_nF) (hsame : ref = (T kf).1)
    {a : Nat} {fs : List Value} {v : Value} (ha : h a = some (.inr (ci, fs))) (hv : fs[kf]? = some v) (hd : decode cc pc = .ok (.getfield idx, 3)) (kk : aV X G nL (pc + 3) lv (v :: st) h nx k n) : aV X G nL pc lv (.ref a :: st) h nx k n := by
  intro H locs ls P S c
  have h4 := (P.2 a _ ha).1
  show W _ _ _ _ _ _ _ _ _ _ H locs k n _ (F0 _ pc ls (.ref (a_ad G a) :: st.map (a_ev G)))
  rw [a_ad_ge h4]
  subst hsame
  exact va_getN C.1 C.2.1 C.2.2.2.2.1 hin C.2.2.2.1 C.2.2.2.2.2.1.1 (a_P1 P ha) 0 rfl hc kf hkf (va_Nw.use rfl (C.2.2.2.2.2.1.2.1.1 _ hlink)) (fun _ h9 => h9) (by rw [List.getElem?_map, hv]; rfl) hd (kk H locs ls P S c)

theorem ab_put (C : aC X G cc nL d MC MS own) {idx : Nat} {Cn ref : String} {T : u_T} {N ci kf : Nat} (hc : vwCl[ci]? = some (Cn, T, N)) (hin : ∀ w ∈ u_ws Cn T N, w ∈ lw_gt) (ty0 : Nat → FieldType) (hty : ∀ k, k < N → parseFieldDescriptor (T k).2.2.1 = some (ty0 k)) (hnm : ∀ a, a < N → ∀ b, b < N → a ≠ b → (T a).2.1 ≠ (T b).2.1) (hkf : kf < N) (hlink : Cond.fieldLink own idx ref (T kf).2.1 (T kf).2.2.1 ∈ lw_gt) (hsame : ref = (T kf).1) (hfin : (T kf).2.2.2 = false)
    {ty : FieldType} {a : Nat} {fs : List Value} {v : Value} (hdsc : parseFieldDescriptor (T kf).2.2.1 = some ty) (hn : narrow ty (a_ev G v) = a_ev G v) (hfit : fits ty (a_ev G v) = true) (hl : kf < fs.length) (ha : h a = some (.inr (ci, fs))) (hd : decode cc pc = .ok (.putfield idx, 3))
    (kk : ∀ h1 : aH, h1 a = some (.inr (ci, fs.set kf v)) → (∀ q, q ≠ a → h1 q = h q) → aV X G nL (pc + 3) lv st h1 nx k n) : aV X G nL pc lv (v :: .ref a :: st) h nx k n := by
  intro H locs ls P S c
  obtain ⟨h4, h1⟩ := P.2 a _ ha
  have hts := C.2.2.2.2.1
  have hK := C.2.2.2.2.2.1.1
  have hown := C.2.2.2.1
  have hap := va_apart (own := own) hts hin ty0 hty hnm hK hc
  obtain ⟨r, g1, cell, q1, q2, q3, q4⟩ := h1
  have hr : r = (Cn, T, N) := Option.some.inj (g1.symm.trans hc)
  subst hr
  obtain ⟨hS, hfc, kC, hkC, hkind⟩ := hK.1 ci _ hc
  obtain ⟨cf, kf', fi, f, hi, hsl⟩ := hS kf hkf
  have hlay := hts _ (hin _ (u_in_lay hkf))
  unfold u_lay at hlay
  rw [if_neg (by rw [hfin]; decide)] at hlay
  have hst := (u_facts hfc hkC (u_lays hts hin hkf) hi).1
  have h6 := u_store hfc hkC hkind hlay hi hdsc hn hfit
  show W _ _ _ _ _ _ _ _ _ _ H locs k n _ (F0 _ pc ls (a_ev G v :: .ref (a_ad G a) :: st.map (a_ev G)))
  rw [a_ad_ge h4]
  subst hsame
  refine W.putK C.1 C.2.1 (f := f) ⟨hown, hts _ hlink, ⟨_, _, _, hi⟩, hst⟩ (by rw [q2]; exact h6) q1 q3 (by rw [hsl]; exact k2_hasslot (q4 kf hkf)) rfl rfl hd fun H1 e1 e2 e3 => ?_
  rw [hsl] at e1
  refine kk (a_set h a (.inr (ci, fs.set kf v))) a_set_s (fun q hq => a_set_n hq) H1 _ ls (P.put h4 ?_ e2 e3) (S.put e2 e3 (show G.2.2.1 + 4 ≤ _ by omega)) c
  refine ⟨_, hc, t_OB.to (V := updV (vp_V (fs.map (a_ev G))) kf (a_ev G v)) ⟨_, e1, q2, q3, t_set q4 hap hkf _⟩ (fun j _ => ?_)⟩
  rw [List.map_set]
  exact vp_updV_set (by rw [List.length_map]; exact hl) _ j
theorem ab_putN (C : aC X G cc nL d MC MS own) {idx : Nat} {Cn ref host : String} {T : u_T} {N ci kf : Nat} (hc : vwCl[ci]? = some (Cn, T, N)) (hin : ∀ w ∈ u_ws Cn T N, w ∈ lw_gt) (ty0 : Nat → FieldType) (hty : ∀ k, k < N → parseFieldDescriptor (T k).2.2.1 = some (ty0 k)) (hnm : ∀ a, a < N → ∀ b, b < N → a ≠ b → (T a).2.1 ≠ (T b).2.1) (hkf : kf < N) (hlink : (own, idx, ref, (T kf).2.1, (T kf).2.2.1, host) ∈ a_nF) (hsame : ref = (T kf).1) (hfin : (T kf).2.2.2 = false)
    {ty : FieldType} {a : Nat} {fs : List Value} {v : Value} (hdsc : parseFieldDescriptor (T kf).2.2.1 = some ty) (hn : narrow ty (a_ev G v) = a_ev G v) (hfit : fits ty (a_ev G v) = true) (hl : kf < fs.length) (ha : h a = some (.inr (ci, fs))) (hd : decode cc pc = .ok (.putfield idx, 3))
    (kk : ∀ h1 : aH, h1 a = some (.inr (ci, fs.set kf v)) → (∀ q, q ≠ a → h1 q = h q) → aV X G nL (pc + 3) lv st h1 nx k n) : aV X G nL pc lv (v :: .ref a :: st) h nx k n := by
  intro H locs ls P S c
  obtain ⟨h4, h1⟩ := P.2 a _ ha
  have hts := C.2.2.2.2.1
  have hK := C.2.2.2.2.2.1.1
  have hown := C.2.2.2.1
  have hap := va_apart (own := own) hts hin ty0 hty hnm hK hc
  obtain ⟨r, g1, cell, q1, q2, q3, q4⟩ := h1
  have hr : r = (Cn, T, N) := Option.some.inj (g1.symm.trans hc)
  subst hr
  obtain ⟨hS, hfc, kC, hkC, hkind⟩ := hK.1 ci _ hc
  obtain ⟨cf, kf', fi, f, hi, hsl⟩ := hS kf hkf
  have hlay := hts _ (hin _ (u_in_lay hkf))
  unfold u_lay at hlay
  rw [if_neg (by rw [hfin]; decide)] at hlay
  have hst := (u_facts hfc hkC (u_lays hts hin hkf) hi).1
  have h6 := u_store hfc hkC hkind hlay hi hdsc hn hfit
  show W _ _ _ _ _ _ _ _ _ _ H locs k n _ (F0 _ pc ls (a_ev G v :: .ref (a_ad G a) :: st.map (a_ev G)))
  rw [a_ad_ge h4]
  subst hsame
  refine va_WputK C.1 C.2.1 (f := f) hown (va_Nw.use rfl (C.2.2.2.2.2.1.2.1.1 _ hlink)) hi hst (by rw [q2]; exact h6) q1 q3 (by rw [hsl]; exact k2_hasslot (q4 kf hkf)) rfl rfl hd fun H1 e1 e2 e3 => ?_
  rw [hsl] at e1
  refine kk (a_set h a (.inr (ci, fs.set kf v))) a_set_s (fun q hq => a_set_n hq) H1 _ ls (P.put h4 ?_ e2 e3) (S.put e2 e3 (show G.2.2.1 + 4 ≤ _ by omega)) c
  refine ⟨_, hc, t_OB.to (V := updV (vp_V (fs.map (a_ev G))) kf (a_ev G v)) ⟨_, e1, q2, q3, t_set q4 hap hkf _⟩ (fun j _ => ?_)⟩
  rw [List.map_set]
  exact vp_updV_set (by rw [List.length_map]; exact hl) _ j
theorem ab_putF (C : aC X G cc nL d MC MS own) {idx : Nat} {Cn ref : String} {T : u_T} {N ci kf : Nat} (hc : vwCl[ci]? = some (Cn, T, N)) (hin : ∀ w ∈ u_ws Cn T N, w ∈ lw_gt) (ty0 : Nat → FieldType) (hty : ∀ k, k < N → parseFieldDescriptor (T k).2.2.1 = some (ty0 k)) (hnm : ∀ a, a < N → ∀ b, b < N → a ≠ b → (T a).2.1 ≠ (T b).2.1) (hkf : kf < N) (hlink : Cond.fieldLink own idx ref (T kf).2.1 (T kf).2.2.1 ∈ lw_gt) (hsame : ref = (T kf).1) (hfin : (T kf).2.2.2 = true) (hi0 : (xt X).name = "<init>") (hdecl : (T kf).1 = own)
    {ty : FieldType} {a : Nat} {fs : List Value} {v : Value} (hdsc : parseFieldDescriptor (T kf).2.2.1 = some ty) (hn : narrow ty (a_ev G v) = a_ev G v) (hfit : fits ty (a_ev G v) = true) (hl : kf < fs.length) (ha : h a = some (.inr (ci, fs))) (hd : decode cc pc = .ok (.putfield idx, 3))
    (kk : ∀ h1 : aH, h1 a = some (.inr (ci, fs.set kf v)) → (∀ q, q ≠ a → h1 q = h q) → aV X G nL (pc + 3) lv st h1 nx k n) : aV X G nL pc lv (v :: .ref a :: st) h nx k n := by
  intro H locs ls P S c
  obtain ⟨h4, h1⟩ := P.2 a _ ha
  have hts := C.2.2.2.2.1
  have hK := C.2.2.2.2.2.1.1
  have hown := C.2.2.2.1
  have hap := va_apart (own := own) hts hin ty0 hty hnm hK hc
  obtain ⟨r, g1, cell, q1, q2, q3, q4⟩ := h1
  have hr : r = (Cn, T, N) := Option.some.inj (g1.symm.trans hc)
  subst hr
  obtain ⟨hS, hfc, kC, hkC, hkind⟩ := hK.1 ci _ hc
  obtain ⟨cf, kf', fi, f, hi, hsl⟩ := hS kf hkf
  have hlay := hts _ (hin _ (u_in_lay hkf))
  unfold u_lay at hlay
  rw [if_pos hfin] at hlay
  have hst := (u_facts hfc hkC (u_lays hts hin hkf) hi).1
  have hcf : (xm X).cls = cf := by
    obtain ⟨_, _, c', _, _, _, -, -, hf', -, -, -, hown2, -⟩ := Cond.laysFinal_spec hlay
    have e1 : c' = cf := by have := hi.symm.trans hf'; simp at this; exact this.1.symm
    rw [hdecl] at hown2
    rw [← e1]; exact Option.some.inj (hown.symm.trans hown2)
  have h6 := u_fits hfc hkC hkind (Or.inr hlay) hi hdsc hn hfit
  show W _ _ _ _ _ _ _ _ _ _ H locs k n _ (F0 _ pc ls (a_ev G v :: .ref (a_ad G a) :: st.map (a_ev G)))
  rw [a_ad_ge h4]
  subst hsame
  refine W.putFinK C.1 C.2.1 hown (hts _ hlink) hi hst hcf hi0 (by rw [q2]; exact h6) q1 q3 (by rw [hsl]; exact k2_hasslot (q4 kf hkf)) rfl rfl hd fun H1 e1 e2 e3 => ?_
  rw [hsl] at e1
  refine kk (a_set h a (.inr (ci, fs.set kf v))) a_set_s (fun q hq => a_set_n hq) H1 _ ls (P.put h4 ?_ e2 e3) (S.put e2 e3 (show G.2.2.1 + 4 ≤ _ by omega)) c
  refine ⟨_, hc, t_OB.to (V := updV (vp_V (fs.map (a_ev G))) kf (a_ev G v)) ⟨_, e1, q2, q3, t_set q4 hap hkf _⟩ (fun j _ => ?_)⟩
  rw [List.map_set]
  exact vp_updV_set (by rw [List.length_map]; exact hl) _ j
theorem ab_iaload (C : aC X G cc nL d MC MS own) {a m : Nat} {f : Nat → Int32} {i : Int32} (ha : h a = some (.inl (0, m, .inl f))) (hi : vp_in i m) (hd : decode cc pc = .ok (.iaload, 1)) (kk : aV X G nL (pc + 1) lv (.int (f i.toNatClampNeg) :: st) h nx k n) : aV X G nL pc lv (.int i :: .ref a :: st) h nx k n := by
  intro H locs ls P S c
  have h4 := (P.2 a _ ha).1
  show W _ _ _ _ _ _ _ _ _ _ H locs k n _ (F0 _ pc ls (.int i :: .ref (a_ad G a) :: st.map (a_ev G)))
  rw [a_ad_ge h4]
  exact va_iald C.1 C.2.1 C.2.2.2.2.2.1.1 (a_P1 P ha) 0 0 rfl rfl hi hd (kk H locs ls P S c)
theorem ab_laload (C : aC X G cc nL d MC MS own) {a m : Nat} {f : Nat → Int64} {i : Int32} (ha : h a = some (.inl (1, m, .inr (.inl f)))) (hi : vp_in i m) (hd : decode cc pc = .ok (.laload, 1)) (kk : aV X G nL (pc + 1) lv (.long (f i.toNatClampNeg) :: st) h nx k n) : aV X G nL pc lv (.int i :: .ref a :: st) h nx k n := by
  intro H locs ls P S c
  have h4 := (P.2 a _ ha).1
  show W _ _ _ _ _ _ _ _ _ _ H locs k n _ (F0 _ pc ls (.int i :: .ref (a_ad G a) :: st.map (a_ev G)))
  rw [a_ad_ge h4]
  exact va_lald C.1 C.2.1 C.2.2.2.2.2.1.1 (a_P1 P ha) 0 1 rfl rfl hi hd (kk H locs ls P S c)
theorem ab_zaload (C : aC X G cc nL d MC MS own) {a m : Nat} {f : Nat → Int32} {i : Int32} (ha : h a = some (.inl (2, m, .inl f))) (hi : vp_in i m) (hd : decode cc pc = .ok (.baload, 1)) (kk : aV X G nL (pc + 1) lv (.int (f i.toNatClampNeg) :: st) h nx k n) : aV X G nL pc lv (.int i :: .ref a :: st) h nx k n := by
  intro H locs ls P S c
  have h4 := (P.2 a _ ha).1
  show W _ _ _ _ _ _ _ _ _ _ H locs k n _ (F0 _ pc ls (.int i :: .ref (a_ad G a) :: st.map (a_ev G)))
  rw [a_ad_ge h4]
  exact va_zald C.1 C.2.1 C.2.2.2.2.2.1.1 (a_P1 P ha) 0 2 rfl rfl hi hd (kk H locs ls P S c)
theorem ab_aaload3 (C : aC X G cc nL d MC MS own) {a m : Nat} {f : Nat → Option Nat} {i : Int32} (ha : h a = some (.inl (3, m, .inr (.inr (.inr (.inr f)))))) (hi : vp_in i m) (hd : decode cc pc = .ok (.aaload, 1)) (kk : aV X G nL (pc + 1) lv (va_rf (f i.toNatClampNeg) :: st) h nx k n) : aV X G nL pc lv (.int i :: .ref a :: st) h nx k n := by
  intro H locs ls P S c
  have h4 := (P.2 a _ ha).1
  show W _ _ _ _ _ _ _ _ _ _ H locs k n _ (F0 _ pc ls (.int i :: .ref (a_ad G a) :: st.map (a_ev G)))
  rw [a_ad_ge h4]
  refine va_aldq C.1 C.2.1 C.2.2.2.2.2.1.1 (a_P1 P ha) 0 3 rfl rfl hi hd ?_
  have e : va_rf ((f i.toNatClampNeg).map (a_ad G)) = a_ev G (va_rf (f i.toNatClampNeg)) := by cases f i.toNatClampNeg <;> rfl
  rw [e]
  exact kk H locs ls P S c
theorem ab_aaload4 (C : aC X G cc nL d MC MS own) {a m : Nat} {f : Nat → Option Nat} {i : Int32} (ha : h a = some (.inl (4, m, .inr (.inr (.inr (.inr f)))))) (hi : vp_in i m) (hd : decode cc pc = .ok (.aaload, 1)) (kk : aV X G nL (pc + 1) lv (va_rf (f i.toNatClampNeg) :: st) h nx k n) : aV X G nL pc lv (.int i :: .ref a :: st) h nx k n := by
  intro H locs ls P S c
  have h4 := (P.2 a _ ha).1
  show W _ _ _ _ _ _ _ _ _ _ H locs k n _ (F0 _ pc ls (.int i :: .ref (a_ad G a) :: st.map (a_ev G)))
  rw [a_ad_ge h4]
  refine va_aldq C.1 C.2.1 C.2.2.2.2.2.1.1 (a_P1 P ha) 0 4 rfl rfl hi hd ?_
  have e : va_rf ((f i.toNatClampNeg).map (a_ad G)) = a_ev G (va_rf (f i.toNatClampNeg)) := by cases f i.toNatClampNeg <;> rfl
  rw [e]
  exact kk H locs ls P S c
theorem ab_iastore (C : aC X G cc nL d MC MS own) {a m : Nat} {f : Nat → Int32} {i : Int32} {x : Int32} (ha : h a = some (.inl (0, m, .inl f))) (hi : vp_in i m) (hd : decode cc pc = .ok (.iastore, 1)) (kk : ∀ h1 : aH, h1 a = some (.inl (0, m, .inl (upd f i.toNatClampNeg x))) → (∀ q, q ≠ a → h1 q = h q) → aV X G nL (pc + 1) lv st h1 nx k n) : aV X G nL pc lv (.int x :: .int i :: .ref a :: st) h nx k n := by
  intro H locs ls P S c
  obtain ⟨h4, g1⟩ := P.2 a _ ha
  show W _ _ _ _ _ _ _ _ _ _ H locs k n _ (F0 _ pc ls (.int x :: .int i :: .ref (a_ad G a) :: st.map (a_ev G)))
  rw [a_ad_ge h4]
  refine W.iast C.1 C.2.1 g1 ((C.2.2.2.2.2.1.1.2 0 _ rfl).1 m (fun j => .int (f j))) (fun q => by cases q) (by show ¬ (i < 0 ∨ (arrV _ _ _).slots.size ≤ _); rw [arrV_size]; exact hi) rfl rfl hd fun H1 e z oq => ?_
  refine kk (a_set h a _) a_set_s (fun q hq => a_set_n hq) H1 _ ls (P.put h4 ?_ z oq) (S.put z oq (show G.2.2.1 + 4 ≤ _ by omega)) c
  show H1[G.2.2.1 + a]? = some (vp_cell _ _)
  rw [e]
  show some ((vp_cell _ (m, .inl f)).setSlot _ _) = some (vp_cell _ (m, .inl (upd f i.toNatClampNeg x)))
  rw [vp_cell_i, vp_cell_i, arrV_store]
  congr 2
  funext q
  by_cases hq : q = i.toNatClampNeg
  · subst hq
    simp [updV, upd]
    try rfl
  · simp [updV, upd, hq]
theorem ab_lastore (C : aC X G cc nL d MC MS own) {a m : Nat} {f : Nat → Int64} {i : Int32} {x : Int64} (ha : h a = some (.inl (1, m, .inr (.inl f)))) (hi : vp_in i m) (hd : decode cc pc = .ok (.lastore, 1)) (kk : ∀ h1 : aH, h1 a = some (.inl (1, m, .inr (.inl (vp_updL f i.toNatClampNeg x)))) → (∀ q, q ≠ a → h1 q = h q) → aV X G nL (pc + 1) lv st h1 nx k n) : aV X G nL pc lv (.long x :: .int i :: .ref a :: st) h nx k n := by
  intro H locs ls P S c
  obtain ⟨h4, g1⟩ := P.2 a _ ha
  show W _ _ _ _ _ _ _ _ _ _ H locs k n _ (F0 _ pc ls (.long x :: .int i :: .ref (a_ad G a) :: st.map (a_ev G)))
  rw [a_ad_ge h4]
  refine W.last C.1 C.2.1 g1 ((C.2.2.2.2.2.1.1.2 1 _ rfl).1 m (fun j => .long (f j))) (fun q => by cases q) (by show ¬ (i < 0 ∨ (arrV _ _ _).slots.size ≤ _); rw [arrV_size]; exact hi) rfl rfl hd fun H1 e z oq => ?_
  refine kk (a_set h a _) a_set_s (fun q hq => a_set_n hq) H1 _ ls (P.put h4 ?_ z oq) (S.put z oq (show G.2.2.1 + 4 ≤ _ by omega)) c
  show H1[G.2.2.1 + a]? = some (vp_cell _ _)
  rw [e]
  show some ((vp_cell _ (m, .inr (.inl f))).setSlot _ _) = some (vp_cell _ (m, .inr (.inl (vp_updL f i.toNatClampNeg x))))
  rw [vp_cell_l, vp_cell_l, arrV_store]
  congr 2
  funext q
  by_cases hq : q = i.toNatClampNeg
  · subst hq
    simp [updV, vp_updL]
    try rfl
  · simp [updV, vp_updL, hq]
theorem ab_zastore (C : aC X G cc nL d MC MS own) {a m : Nat} {f : Nat → Int32} {i : Int32} {x : Int32} (ha : h a = some (.inl (2, m, .inl f))) (hi : vp_in i m) (hd : decode cc pc = .ok (.bastore, 1)) (kk : ∀ h1 : aH, h1 a = some (.inl (2, m, .inl (upd f i.toNatClampNeg (vp_nar .boolean x)))) → (∀ q, q ≠ a → h1 q = h q) → aV X G nL (pc + 1) lv st h1 nx k n) : aV X G nL pc lv (.int x :: .int i :: .ref a :: st) h nx k n := by
  intro H locs ls P S c
  obtain ⟨h4, g1⟩ := P.2 a _ ha
  show W _ _ _ _ _ _ _ _ _ _ H locs k n _ (F0 _ pc ls (.int x :: .int i :: .ref (a_ad G a) :: st.map (a_ev G)))
  rw [a_ad_ge h4]
  refine W.zast C.1 C.2.1 g1 ((C.2.2.2.2.2.1.1.2 2 _ rfl).1 m (fun j => .int (f j))) (fun q => by cases q) (by show ¬ (i < 0 ∨ (arrV _ _ _).slots.size ≤ _); rw [arrV_size]; exact hi) rfl rfl hd fun H1 e z oq => ?_
  refine kk (a_set h a _) a_set_s (fun q hq => a_set_n hq) H1 _ ls (P.put h4 ?_ z oq) (S.put z oq (show G.2.2.1 + 4 ≤ _ by omega)) c
  show H1[G.2.2.1 + a]? = some (vp_cell _ _)
  rw [e]
  show some ((vp_cell _ (m, .inl f)).setSlot _ _) = some (vp_cell _ (m, .inl (upd f i.toNatClampNeg (vp_nar .boolean x))))
  rw [vp_cell_i, vp_cell_i, arrV_store]
  congr 2
  funext q
  by_cases hq : q = i.toNatClampNeg
  · subst hq
    simp [updV, upd, vp_nar]
    try rfl
  · simp [updV, upd, vp_nar, hq]
theorem ab_alen0 (C : aC X G cc nL d MC MS own) {a m : Nat} {f : Nat → Int32} (ha : h a = some (.inl (0, m, .inl f))) (hd : decode cc pc = .ok (.arraylength, 1)) (kk : aV X G nL (pc + 1) lv (.int (Int32.ofNat m) :: st) h nx k n) : aV X G nL pc lv (.ref a :: st) h nx k n := by
  intro H locs ls P S c
  obtain ⟨h4, g1⟩ := P.2 a _ ha
  show W _ _ _ _ _ _ _ _ _ _ H locs k n _ (F0 _ pc ls (.ref (a_ad G a) :: st.map (a_ev G)))
  rw [a_ad_ge h4]
  exact W.alen C.1 C.2.1 g1 ((C.2.2.2.2.2.1.1.2 0 _ rfl).1 m (fun j => .int (f j))) (by show (arrV _ m _).slots.size.toInt32 = Int32.ofNat m; rw [arrV_size]) rfl rfl hd (kk H locs ls P S c)
theorem ab_alen1 (C : aC X G cc nL d MC MS own) {a m : Nat} {f : Nat → Int64} (ha : h a = some (.inl (1, m, .inr (.inl f)))) (hd : decode cc pc = .ok (.arraylength, 1)) (kk : aV X G nL (pc + 1) lv (.int (Int32.ofNat m) :: st) h nx k n) : aV X G nL pc lv (.ref a :: st) h nx k n := by
  intro H locs ls P S c
  obtain ⟨h4, g1⟩ := P.2 a _ ha
  show W _ _ _ _ _ _ _ _ _ _ H locs k n _ (F0 _ pc ls (.ref (a_ad G a) :: st.map (a_ev G)))
  rw [a_ad_ge h4]
  exact W.alen C.1 C.2.1 g1 ((C.2.2.2.2.2.1.1.2 1 _ rfl).1 m (fun j => .long (f j))) (by show (arrV _ m _).slots.size.toInt32 = Int32.ofNat m; rw [arrV_size]) rfl rfl hd (kk H locs ls P S c)
theorem a_calling {G : aG} {as : List Value} {nx0 : Nat} : FrameBlind (fun v U => v = (as.map (a_ev G)).toArray ∧ a_P G h nx0 U.heap ∧ a_K G U) := by
  intro a U g mk q
  obtain ⟨q0, qP, qK, qN, qL, q1, q2, q3, q4⟩ := q
  refine ⟨q0, qP, va_K.moved (u := U) (U := U.calling g mk a) (Vm.Alike.refl U.vm) qK, ⟨fun w hw => va_Nw.same rfl (u := U) rfl (qN.1 w hw), fun w hw => va_Nw.same rfl (u := U) rfl (qN.2 w hw)⟩, ?_, q1, q2, q3.moved (Vm.Alike.refl U.vm), q4.moved (Vm.Alike.refl U.vm)⟩
  obtain ⟨h1, h2, h3, h4, ⟨adV, h5⟩, h6⟩ := qL
  exact ⟨h1.moved (Vm.Alike.refl U.vm), h2.moved (Vm.Alike.refl U.vm), vk_R.same (u := U) rfl h3, vk_R.same (u := U) rfl h4, ⟨adV, h5.moved (Vm.Alike.refl U.vm)⟩, h6.moved (Vm.Alike.refl U.vm)⟩
theorem a_start (C : aC X G cc nL d MC MS own) {as : List Value} {H : Heap} {locs : List Loc} (P : a_P G h nx H) (S : va_S (a_low G) (xs X).heap H locs) : ∀ U : State, U.heap = H → (xs X).WarmedH U.vm → (as.map (a_ev G)).toArray = (as.map (a_ev G)).toArray ∧ a_P G h nx U.heap ∧ a_K G U :=
  fun U hU hW => ⟨rfl, by rw [hU]; exact P, a_K.call C.2.2.2.2.2.1 S hU hW⟩
theorem ab_back {mc ms : Nat} {a : Array Value} {st0 : List Value} {P' : Option Value → aH → Nat → Prop} {H : Heap} {locs : List Loc} {ls : Array Slot}
    (hr : va_Run (xp X) (xl X) (xe X) (xR X) (xs X) (xm X) (xa X) (xb X) (xt X) (xc X) H locs k n mc ms (F0 (xm X) pc ls st0) (st.map (a_ev G)) (a_Q G P' a) (a_low G)) (S : va_S (a_low G) (xs X).heap H locs) (c : lv_has ls nL (lv.map (a_el G)))
    (kk : ∀ (v : Option Value) (h1 : aH) (nx1 : Nat), P' v h1 nx1 → aV X G nL (pc + 3) lv (v.toList ++ st) h1 nx1 (k + mc) (n + ms)) :
    W (xp X) (xl X) (xe X) (xR X) (xs X) (xm X) (xa X) (xb X) (xt X) (xc X) H locs k n (xQ X) (F0 (xm X) pc ls st0) := by
  intro T hT Y
  obtain ⟨v, st₀, t, T', L, h0, X', hL, e1, e2, ⟨⟨v', h1, nx1, hv, hp, hPt⟩, hz, hk⟩, go⟩ := hr T hT Y
  cases hv
  rw [h0] at hz hk
  rw [← e1] at hz hk hPt
  have hw := kk v' h1 nx1 hp T'.heap (locs ++ L) ls hPt
    ⟨Nat.le_trans S.1 hz, fun q g1 g2 => by rw [hk q (Nat.lt_of_lt_of_le g1 S.1) g2]; exact S.2.1 q g1 g2, fun q hq => by
      rcases List.mem_append.mp hq with g | g
      · exact S.2.2 q g
      · exact hL q g⟩ c
  have es : ((v'.toList ++ st).map (a_ev G)) = (v'.map (a_ev G)).toList ++ st.map (a_ev G) := by cases v' <;> rfl
  rw [es] at hw
  obtain ⟨t2, a1, b1⟩ := hw T' rfl X'
  exact ⟨t2, go t2 a1, b1⟩

theorem a_cats {st : List Value} : ((st.map (a_ev G)).map fun v => v.category) = (st.map fun v => v.category) := by
  rw [List.map_map]; exact List.map_congr_left (fun v _ => a_cat G v)
theorem a_recv (C : aC X G cc nL d MC MS own) {a ci : Nat} {q : vw_C} {fs : List Value} {H : Heap} (P : a_P G h nx H) (hc : vwCl[ci]? = some q) (ha : h a = some (.inr (ci, fs))) : ∃ cell : Cell, H[G.2.2.1 + a]? = some cell ∧ cell.vm.isStatics = false ∧ (xs X).vm.findClass q.1 = some cell.cls := va_recv C.2.2.2.2.2.1.1 (a_P1 P ha) hc (q0 := 0) rfl

theorem ab_callV (C : aC X G cc nL d MC MS own) {dc mc ms mxL : Nat} {y : MethodName} {yc : ByteArray} {ret : Option FieldType} {as : List Value} {st0 : List Value} {idx : Nat} {P' : Option Value → aH → Nat → Prop} (ok : aOk (xl X) dc mc ms y yc mxL ret as h nx P') {Cn : String} {ci a nA : Nat} {Tq : u_T} {Nq : Nat} {fs : List Value} (as1 : List Value) (has : as = .ref a :: as1) (hc : vwCl[ci]? = some (Cn, Tq, Nq)) (hcy : y.cls = Cn) (ha : h a = some (.inr (ci, fs))) (hst : st0 = as1.reverse ++ .ref a :: st) (hnA : as1.length = nA) (hl : Cond.methodLink own idx y ∈ lw_gt) (hi : Cond.instanceMethod y ∈ lw_gt) (hs : Cond.selects Cn y y ∈ lw_gt) (hin : Cond.initialized Cn ∈ lw_gt) (hcode : Cond.code y yc mxL ret ∈ lw_gt) (hd2 : y.cls ≠ "java/lang/invoke/MethodHandle" ∧ y.cls ≠ "java/lang/invoke/VarHandle" ∧ (parseMethodDescriptor y.desc).map (fun d => d.parameters.length) = some nA) (hm : mxL ≤ 41) (hdep : dc + 1 ≤ d) (hmc : k + mc ≤ MC ∧ n + ms ≤ MS) (hw : (st.map fun v => v.category).sum ≤ 8) (hd : decode cc pc = .ok (.invokevirtual idx, 3)) (kk : ∀ (v : Option Value) (h1 : aH) (nx1 : Nat), P' v h1 nx1 → aV X G nL (pc + 3) lv (v.toList ++ st) h1 nx1 (k + mc) (n + ms)) : aV X G nL pc lv st0 h nx k n := by
  intro H locs ls P S c
  have hts := C.2.2.2.2.1
  have h4 := (P.2 a _ ha).1
  subst has; subst hst; subst hcy
  have e1 : ((as1.reverse ++ Value.ref a :: st).map (a_ev G)) = (as1.map (a_ev G)).reverse ++ Value.ref (G.2.2.1 + a) :: st.map (a_ev G) := by rw [List.map_append, List.map_reverse, List.map_cons]; show _ ++ Value.ref (a_ad G a) :: _ = _; rw [a_ad_ge h4]
  have e2 : ((Value.ref a :: as1 : List Value).map (a_ev G)) = Value.ref (G.2.2.1 + a) :: as1.map (a_ev G) := by rw [List.map_cons]; show Value.ref (a_ad G a) :: _ = _; rw [a_ad_ge h4]
  rw [e1]
  have ok := ok G
  rw [e2] at ok
  have blind : FrameBlind (fun v U => v = (Value.ref (G.2.2.1 + a) :: as1.map (a_ev G)).toArray ∧ a_P G h nx U.heap ∧ a_K G U) := by rw [← e2]; exact a_calling
  exact ab_back (va_runV (As := as1.map (a_ev G)) ⟨C.1, C.2.1, C.2.2.1, C.2.2.2.1, hts⟩ ok (cwV nA hts (a_goodc hl (a_goodc hi (a_goodc hs (a_goodc hin (a_goodc hcode a_good))))) rfl rfl rfl ⟨rfl, hd2⟩ ⟨by show dc + 1 ≤ _; exact Nat.le_trans hdep C.2.2.2.2.2.2.1, by show 8 + (mxL + 11) + 60 * dc ≤ _; have := C.2.2.2.2.2.2.2.1; omega⟩) ⟨blind, a_recv C P hc ha, fun U hU hW => ⟨rfl, by rw [hU]; exact P, a_K.call C.2.2.2.2.2.1 S hU hW⟩⟩ rfl (by rw [List.length_map]; exact hnA) c.1 rfl (lv_room (by rw [a_cats]; exact hw)) hd ⟨Nat.le_trans hmc.1 C.2.2.2.2.2.2.2.2.1, Nat.le_trans hmc.2 C.2.2.2.2.2.2.2.2.2⟩) S c kk
theorem ab_callS (C : aC X G cc nL d MC MS own) {dc mc ms mxL : Nat} {y : MethodName} {yc : ByteArray} {ret : Option FieldType} {as : List Value} {st0 : List Value} {idx : Nat} {P' : Option Value → aH → Nat → Prop} (ok : aOk (xl X) dc mc ms y yc mxL ret as h nx P') {nA : Nat} (hst : st0 = as.reverse ++ st) (hnA : as.length = nA) (hl : Cond.methodLink own idx y ∈ lw_gt) (hs : Cond.static y ∈ lw_gt) (hin : Cond.initialized y.cls ∈ lw_gt) (hcode : Cond.code y yc mxL ret ∈ lw_gt) (hd2 : y.cls ≠ "java/lang/invoke/MethodHandle" ∧ y.cls ≠ "java/lang/invoke/VarHandle" ∧ (parseMethodDescriptor y.desc).map (fun d => d.parameters.length) = some nA) (hm : mxL ≤ 41) (hdep : dc + 1 ≤ d) (hmc : k + mc ≤ MC ∧ n + ms ≤ MS) (hw : (st.map fun v => v.category).sum ≤ 8) (hd : decode cc pc = .ok (.invokestatic idx, 3)) (kk : ∀ (v : Option Value) (h1 : aH) (nx1 : Nat), P' v h1 nx1 → aV X G nL (pc + 3) lv (v.toList ++ st) h1 nx1 (k + mc) (n + ms)) : aV X G nL pc lv st0 h nx k n := by
  intro H locs ls P S c
  have hts := C.2.2.2.2.1
  subst hst
  have e1 : ((as.reverse ++ st).map (a_ev G)) = (as.map (a_ev G)).reverse ++ st.map (a_ev G) := by rw [List.map_append, List.map_reverse]
  rw [e1]
  have ok := ok G
  exact ab_back (va_runS (As := as.map (a_ev G)) ⟨C.1, C.2.1, C.2.2.1, C.2.2.2.1, hts⟩ ok (va_cwS nA hts (a_goodc hl (a_goodc hs (a_goodc hin (a_goodc hcode a_good)))) rfl rfl rfl hd2 ⟨by show dc + 1 ≤ _; exact Nat.le_trans hdep C.2.2.2.2.2.2.1, by show 8 + (mxL + 11) + 60 * dc ≤ _; have := C.2.2.2.2.2.2.2.1; omega⟩) ⟨a_calling, fun U hU hW => ⟨rfl, by rw [hU]; exact P, a_K.call C.2.2.2.2.2.1 S hU hW⟩⟩ rfl (by rw [List.length_map]; exact hnA) c.1 rfl (lv_room (by rw [a_cats]; exact hw)) hd ⟨Nat.le_trans hmc.1 C.2.2.2.2.2.2.2.2.1, Nat.le_trans hmc.2 C.2.2.2.2.2.2.2.2.2⟩) S c kk
theorem ab_callI (C : aC X G cc nL d MC MS own) {dc mc ms mxL : Nat} {y : MethodName} {yc : ByteArray} {as : List Value} {st0 : List Value} {idx : Nat} {P' : Option Value → aH → Nat → Prop} (ok : aOk (xl X) dc mc ms y yc mxL none as h nx P') {a nA : Nat} (as1 : List Value) (has : as = .ref a :: as1) (h4 : 4 ≤ a) (hst : st0 = as1.reverse ++ .ref a :: st) (hnA : as1.length = nA) (hy1 : y.name = "<init>") (hl : Cond.methodLink own idx y ∈ lw_gt) (hi : Cond.instanceMethod y ∈ lw_gt) (hin : Cond.initialized y.cls ∈ lw_gt) (hcode : Cond.code y yc mxL none ∈ lw_gt) (hd2 : y.cls ≠ "java/lang/invoke/MethodHandle" ∧ y.cls ≠ "java/lang/invoke/VarHandle" ∧ (parseMethodDescriptor y.desc).map (fun d => d.parameters.length) = some nA) (hm : mxL ≤ 41) (hdep : dc + 1 ≤ d) (hmc : k + mc ≤ MC ∧ n + ms ≤ MS) (hw : (st.map fun v => v.category).sum ≤ 8) (hd : decode cc pc = .ok (.invokespecial idx, 3)) (kk : ∀ (v : Option Value) (h1 : aH) (nx1 : Nat), P' v h1 nx1 → aV X G nL (pc + 3) lv (v.toList ++ st) h1 nx1 (k + mc) (n + ms)) : aV X G nL pc lv st0 h nx k n := by
  intro H locs ls P S c
  have hts := C.2.2.2.2.1
  subst has; subst hst
  have e1 : ((as1.reverse ++ Value.ref a :: st).map (a_ev G)) = (as1.map (a_ev G)).reverse ++ Value.ref (G.2.2.1 + a) :: st.map (a_ev G) := by rw [List.map_append, List.map_reverse, List.map_cons]; show _ ++ Value.ref (a_ad G a) :: _ = _; rw [a_ad_ge h4]
  have e2 : ((Value.ref a :: as1 : List Value).map (a_ev G)) = Value.ref (G.2.2.1 + a) :: as1.map (a_ev G) := by rw [List.map_cons]; show Value.ref (a_ad G a) :: _ = _; rw [a_ad_ge h4]
  rw [e1]
  have ok := ok G
  rw [e2] at ok
  have blind : FrameBlind (fun v U => v = (Value.ref (G.2.2.1 + a) :: as1.map (a_ev G)).toArray ∧ a_P G h nx U.heap ∧ a_K G U) := by rw [← e2]; exact a_calling
  exact ab_back (va_runI (As := as1.map (a_ev G)) ⟨C.1, C.2.1, C.2.2.1, C.2.2.2.1, hts⟩ ok (cwI nA hts (a_goodc hcode a_good) rfl rfl rfl (hts _ hin) (hts _ hl) (hts _ hi) hy1 hd2 ⟨by show dc + 1 ≤ _; exact Nat.le_trans hdep C.2.2.2.2.2.2.1, by show 8 + (mxL + 11) + 60 * dc ≤ _; have := C.2.2.2.2.2.2.2.1; omega⟩) ⟨blind, fun U hU hW => ⟨rfl, by rw [hU]; exact P, a_K.call C.2.2.2.2.2.1 S hU hW⟩⟩ rfl (by rw [List.length_map]; exact hnA) c.1 rfl (lv_room (by rw [a_cats]; exact hw)) hd ⟨Nat.le_trans hmc.1 C.2.2.2.2.2.2.2.2.1, Nat.le_trans hmc.2 C.2.2.2.2.2.2.2.2.2⟩) S c kk
theorem ab_callVN (C : aC X G cc nL d MC MS own) {dc mc ms mxL : Nat} {y : MethodName} {yc : ByteArray} {ret : Option FieldType} {as : List Value} {st0 : List Value} {idx : Nat} {P' : Option Value → aH → Nat → Prop} (ok : aOk (xl X) dc mc ms y yc mxL ret as h nx P') {Cn : String} {ci a nA : Nat} {Tq : u_T} {Nq : Nat} {fs : List Value} (as1 : List Value) (has : as = .ref a :: as1) (hc : vwCl[ci]? = some (Cn, Tq, Nq)) (hcy : y.cls = Cn) (ha : h a = some (.inr (ci, fs))) (hst : st0 = as1.reverse ++ .ref a :: st) (hnA : as1.length = nA) {host : String} (hl : (own, idx, y, host) ∈ a_nM) (hi : Cond.instanceMethod y ∈ lw_gt) (hs : Cond.selects Cn y y ∈ lw_gt) (hin : Cond.initialized Cn ∈ lw_gt) (hcode : Cond.code y yc mxL ret ∈ lw_gt) (hd2 : y.cls ≠ "java/lang/invoke/MethodHandle" ∧ y.cls ≠ "java/lang/invoke/VarHandle" ∧ (parseMethodDescriptor y.desc).map (fun d => d.parameters.length) = some nA) (hm : mxL ≤ 41) (hdep : dc + 1 ≤ d) (hmc : k + mc ≤ MC ∧ n + ms ≤ MS) (hw : (st.map fun v => v.category).sum ≤ 8) (hd : decode cc pc = .ok (.invokevirtual idx, 3)) (kk : ∀ (v : Option Value) (h1 : aH) (nx1 : Nat), P' v h1 nx1 → aV X G nL (pc + 3) lv (v.toList ++ st) h1 nx1 (k + mc) (n + ms)) : aV X G nL pc lv st0 h nx k n := by
  intro H locs ls P S c
  have hts := C.2.2.2.2.1
  have h4 := (P.2 a _ ha).1
  subst has; subst hst; subst hcy
  have e1 : ((as1.reverse ++ Value.ref a :: st).map (a_ev G)) = (as1.map (a_ev G)).reverse ++ Value.ref (G.2.2.1 + a) :: st.map (a_ev G) := by rw [List.map_append, List.map_reverse, List.map_cons]; show _ ++ Value.ref (a_ad G a) :: _ = _; rw [a_ad_ge h4]
  have e2 : ((Value.ref a :: as1 : List Value).map (a_ev G)) = Value.ref (G.2.2.1 + a) :: as1.map (a_ev G) := by rw [List.map_cons]; show Value.ref (a_ad G a) :: _ = _; rw [a_ad_ge h4]
  rw [e1]
  have ok := ok G
  rw [e2] at ok
  have blind : FrameBlind (fun v U => v = (Value.ref (G.2.2.1 + a) :: as1.map (a_ev G)).toArray ∧ a_P G h nx U.heap ∧ a_K G U) := by rw [← e2]; exact a_calling
  exact ab_back (va_runVN (As := as1.map (a_ev G)) ⟨C.1, C.2.1, C.2.2.1, C.2.2.2.1, hts⟩ ok (⟨va_cnB nA hts (a_goodc hcode a_good) rfl rfl rfl (C.2.2.2.2.2.1.2.1.2 _ hl) (hts _ hin) hd2 ⟨by show dc + 1 ≤ _; exact Nat.le_trans hdep C.2.2.2.2.2.2.1, by show 8 + (mxL + 11) + 60 * dc ≤ _; have := C.2.2.2.2.2.2.2.1; omega⟩, hts _ hi, hts _ hs⟩) ⟨blind, a_recv C P hc ha, fun U hU hW => ⟨rfl, by rw [hU]; exact P, a_K.call C.2.2.2.2.2.1 S hU hW⟩⟩ rfl (by rw [List.length_map]; exact hnA) c.1 rfl (lv_room (by rw [a_cats]; exact hw)) hd ⟨Nat.le_trans hmc.1 C.2.2.2.2.2.2.2.2.1, Nat.le_trans hmc.2 C.2.2.2.2.2.2.2.2.2⟩) S c kk
theorem ab_callSN (C : aC X G cc nL d MC MS own) {dc mc ms mxL : Nat} {y : MethodName} {yc : ByteArray} {ret : Option FieldType} {as : List Value} {st0 : List Value} {idx : Nat} {P' : Option Value → aH → Nat → Prop} (ok : aOk (xl X) dc mc ms y yc mxL ret as h nx P') {nA : Nat} (hst : st0 = as.reverse ++ st) (hnA : as.length = nA) {host : String} (hl : (own, idx, y, host) ∈ a_nM) (hs : Cond.static y ∈ lw_gt) (hin : Cond.initialized y.cls ∈ lw_gt) (hcode : Cond.code y yc mxL ret ∈ lw_gt) (hd2 : y.cls ≠ "java/lang/invoke/MethodHandle" ∧ y.cls ≠ "java/lang/invoke/VarHandle" ∧ (parseMethodDescriptor y.desc).map (fun d => d.parameters.length) = some nA) (hm : mxL ≤ 41) (hdep : dc + 1 ≤ d) (hmc : k + mc ≤ MC ∧ n + ms ≤ MS) (hw : (st.map fun v => v.category).sum ≤ 8) (hd : decode cc pc = .ok (.invokestatic idx, 3)) (kk : ∀ (v : Option Value) (h1 : aH) (nx1 : Nat), P' v h1 nx1 → aV X G nL (pc + 3) lv (v.toList ++ st) h1 nx1 (k + mc) (n + ms)) : aV X G nL pc lv st0 h nx k n := by
  intro H locs ls P S c
  have hts := C.2.2.2.2.1
  subst hst
  have e1 : ((as.reverse ++ st).map (a_ev G)) = (as.map (a_ev G)).reverse ++ st.map (a_ev G) := by rw [List.map_append, List.map_reverse]
  rw [e1]
  have ok := ok G
  exact ab_back (va_runSN (As := as.map (a_ev G)) ⟨C.1, C.2.1, C.2.2.1, C.2.2.2.1, hts⟩ ok (⟨va_cnB nA hts (a_goodc hcode a_good) rfl rfl rfl (C.2.2.2.2.2.1.2.1.2 _ hl) (hts _ hin) hd2 ⟨by show dc + 1 ≤ _; exact Nat.le_trans hdep C.2.2.2.2.2.2.1, by show 8 + (mxL + 11) + 60 * dc ≤ _; have := C.2.2.2.2.2.2.2.1; omega⟩, hts _ hs, trivial⟩) ⟨a_calling, fun U hU hW => ⟨rfl, by rw [hU]; exact P, a_K.call C.2.2.2.2.2.1 S hU hW⟩⟩ rfl (by rw [List.length_map]; exact hnA) c.1 rfl (lv_room (by rw [a_cats]; exact hw)) hd ⟨Nat.le_trans hmc.1 C.2.2.2.2.2.2.2.2.1, Nat.le_trans hmc.2 C.2.2.2.2.2.2.2.2.2⟩) S c kk
theorem ab_callIN (C : aC X G cc nL d MC MS own) {dc mc ms mxL : Nat} {y : MethodName} {yc : ByteArray} {as : List Value} {st0 : List Value} {idx : Nat} {P' : Option Value → aH → Nat → Prop} (ok : aOk (xl X) dc mc ms y yc mxL none as h nx P') {a nA : Nat} (as1 : List Value) (has : as = .ref a :: as1) (h4 : 4 ≤ a) (hst : st0 = as1.reverse ++ .ref a :: st) (hnA : as1.length = nA) (hy1 : y.name = "<init>") {host : String} (hl : (own, idx, y, host) ∈ a_nM) (hi : Cond.instanceMethod y ∈ lw_gt) (hin : Cond.initialized y.cls ∈ lw_gt) (hcode : Cond.code y yc mxL none ∈ lw_gt) (hd2 : y.cls ≠ "java/lang/invoke/MethodHandle" ∧ y.cls ≠ "java/lang/invoke/VarHandle" ∧ (parseMethodDescriptor y.desc).map (fun d => d.parameters.length) = some nA) (hm : mxL ≤ 41) (hdep : dc + 1 ≤ d) (hmc : k + mc ≤ MC ∧ n + ms ≤ MS) (hw : (st.map fun v => v.category).sum ≤ 8) (hd : decode cc pc = .ok (.invokespecial idx, 3)) (kk : ∀ (v : Option Value) (h1 : aH) (nx1 : Nat), P' v h1 nx1 → aV X G nL (pc + 3) lv (v.toList ++ st) h1 nx1 (k + mc) (n + ms)) : aV X G nL pc lv st0 h nx k n := by
  intro H locs ls P S c
  have hts := C.2.2.2.2.1
  subst has; subst hst
  have e1 : ((as1.reverse ++ Value.ref a :: st).map (a_ev G)) = (as1.map (a_ev G)).reverse ++ Value.ref (G.2.2.1 + a) :: st.map (a_ev G) := by rw [List.map_append, List.map_reverse, List.map_cons]; show _ ++ Value.ref (a_ad G a) :: _ = _; rw [a_ad_ge h4]
  have e2 : ((Value.ref a :: as1 : List Value).map (a_ev G)) = Value.ref (G.2.2.1 + a) :: as1.map (a_ev G) := by rw [List.map_cons]; show Value.ref (a_ad G a) :: _ = _; rw [a_ad_ge h4]
  rw [e1]
  have ok := ok G
  rw [e2] at ok
  have blind : FrameBlind (fun v U => v = (Value.ref (G.2.2.1 + a) :: as1.map (a_ev G)).toArray ∧ a_P G h nx U.heap ∧ a_K G U) := by rw [← e2]; exact a_calling
  exact ab_back (va_runIN (As := as1.map (a_ev G)) ⟨C.1, C.2.1, C.2.2.1, C.2.2.2.1, hts⟩ ok (⟨va_cnB nA hts (a_goodc hcode a_good) rfl rfl rfl (C.2.2.2.2.2.1.2.1.2 _ hl) (hts _ hin) hd2 ⟨by show dc + 1 ≤ _; exact Nat.le_trans hdep C.2.2.2.2.2.2.1, by show 8 + (mxL + 11) + 60 * dc ≤ _; have := C.2.2.2.2.2.2.2.1; omega⟩, hy1, hts _ hi⟩) ⟨blind, fun U hU hW => ⟨rfl, by rw [hU]; exact P, a_K.call C.2.2.2.2.2.1 S hU hW⟩⟩ rfl (by rw [List.length_map]; exact hnA) c.1 rfl (lv_room (by rw [a_cats]; exact hw)) hd ⟨Nat.le_trans hmc.1 C.2.2.2.2.2.2.2.2.1, Nat.le_trans hmc.2 C.2.2.2.2.2.2.2.2.2⟩) S c kk
theorem ab_iret (C : aC X G cc nL d MC MS own) {mc ms : Nat} {ty : FieldType} {P : Option Value → aH → Nat → Prop} {x : Int32} (r : aR X G mc ms (some ty) P) (hn : narrow ty (.int x) = .int x) (hd : decode cc pc = .ok (.ireturn, 1)) (hp : P (some (.int x)) h nx) : aV X G nL pc lv [.int x] h nx mc ms := by
  intro H locs ls Pw S c
  rw [r.2.2]
  exact W.zret C.1 C.2.1 r.1 hn (fun t ht _ => ⟨⟨some (.int x), h, nx, rfl, hp, by rw [ht]; exact Pw⟩, S.F ht⟩) S.2.2 hd r.2.1
theorem ab_lret (C : aC X G cc nL d MC MS own) {mc ms : Nat} {P : Option Value → aH → Nat → Prop} {x : Int64} (r : aR X G mc ms (some .long) P) (hd : decode cc pc = .ok (.lreturn, 1)) (hp : P (some (.long x)) h nx) : aV X G nL pc lv [.long x] h nx mc ms := by
  intro H locs ls Pw S c
  rw [r.2.2]
  exact W.lret C.1 C.2.1 r.1 (fun t ht _ => ⟨⟨some (.long x), h, nx, rfl, hp, by rw [ht]; exact Pw⟩, S.F ht⟩) S.2.2 hd r.2.1
theorem ab_vret (C : aC X G cc nL d MC MS own) {mc ms : Nat} {P : Option Value → aH → Nat → Prop} (r : aR X G mc ms none P) (hd : decode cc pc = .ok (.return_, 1)) (hp : P none h nx) : aV X G nL pc lv [] h nx mc ms := by
  intro H locs ls Pw S c
  rw [r.2.2]
  exact W.vret C.1 C.2.1 r.1 (fun t ht _ => ⟨⟨none, h, nx, rfl, hp, by rw [ht]; exact Pw⟩, S.F ht⟩) S.2.2 hd r.2.1
theorem ab_objInit (C : aC X G cc nL d MC MS own) {idx a : Nat} (hl : Cond.methodLink own idx Lib.objectInit ∈ lw_gt) (hi : Cond.instanceMethod Lib.objectInit ∈ lw_gt) (hco : Cond.code Lib.objectInit ⟨#[0xb1]⟩ 1 none ∈ lw_gt) (hdp : 1 ≤ d) (hd : decode cc pc = .ok (.invokespecial idx, 3)) (kk : aV X G nL (pc + 3) lv [] h nx k n) : aV X G nL pc lv [.ref a] h nx k n := by
  intro H locs ls P S c
  exact W.objInit C.1 C.2.1 C.2.2.2.1 (C.2.2.2.2.1 _ hl) (C.2.2.2.2.1 _ hi) (C.2.2.2.2.1 _ hco) (rest := []) rfl (by rw [C.2.2.1]; exact c.1) rfl hd (Nat.le_trans hdp C.2.2.2.2.2.2.1) (by have := C.2.2.2.2.2.2.2.1; show 0 + 0 + 12 ≤ _; omega) (kk H locs ls P S c)

end AC
