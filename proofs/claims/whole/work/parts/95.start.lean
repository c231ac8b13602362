/-! the start of the law, and the claim -/
theorem s_four {n a b c d : Nat} (ha : a < n) (hb : b < n) (hc : c < n) (hd : d < n) (h1 : a ≠ b) (h2 : a ≠ c) (h3 : a ≠ d) (h4 : b ≠ c) (h5 : b ≠ d) (h6 : c ≠ d) : 4 ≤ n := by omega
theorem s_ty {U : State} {c : Cell} {t u : FieldType} (h1 : U.isArrayOf c t) (h2 : U.isArrayOf c u) : t = u := by
  obtain ⟨-, k, hk, comp, hc⟩ := h1
  obtain ⟨-, k', hk', comp', hc'⟩ := h2
  cases hk.symm.trans hk'
  rw [hc] at hc'
  cases hc'
  rfl
theorem s_arr {args : Array Value} {s : State} {type : FieldType} (h : (Cond.arrayClass type).before args s = true) : ∃ c, s.vm.findClass ("[" ++ type.toString) = some c ∧ ArrOfT s c type := by
  obtain ⟨c, k, comp, h1, h2, h3⟩ := Cond.arrayClass_spec h
  exact ⟨c, h1, fun n z => ⟨fun k => nofun, k, h2, comp, h3⟩⟩
theorem s_ref {args : Array Value} {s : State} {n : String} (h : (Cond.arrayOver (.object n)).before args s = true) : ∃ c, ArrOfT s c (.object n) ∧ va_RA s c (.object n) := by
  obtain ⟨comp, c, k, h1, h2, h3, h4, h5⟩ := Cond.arrayOver_spec h
  exact ⟨c, fun n z => ⟨fun k => nofun, k, h3, comp, h4⟩, k, comp, h3, h4, h1, h5⟩
def s_tm (i : Nat) : Term := if i = 0 then .string "GlebeVowels$Tape" 57 else .string "GlebeVowels$Tape" 79
set_option maxRecDepth 100000 in
set_option maxHeartbeats 4000000 in
theorem s_K {p : Program} {s : State} {m : MethodId} {meth : Method} {c : Code} {b L : Nat} {xs : Nat → Int32} (C0 : lw_At p s m meth c b L xs) : ∃ G : aG, G.2.2.2 3 = b ∧ G.2.2.1 + 4 = s.heap.size ∧ a_K G s := by
  obtain ⟨hx, hb, hr, hml, hown, hts, hX, hbl, hlocks, hgv⟩ := C0
  have hg : ∀ w ∈ lw_gt, w.before #[Value.ref b] s = true := fun w hw => hts w (List.mem_filter.mp hw).1
  have hs := flat_of_before _ hgv
  obtain ⟨c0, i0, k0⟩ := u_known (C := RX0) (T := TX0) (N := 4) (n := 4) hg inX0 (hts (.instantiable RX0 4) (by decide +kernel))
  obtain ⟨c1, i1, k1⟩ := u_known (C := RX1) (T := TX1) (N := 2) (n := 2) hg inX1 (hts (.instantiable RX1 2) (by decide +kernel))
  obtain ⟨c2, i2, k2⟩ := u_known (C := RX2) (T := TX2) (N := 12) (n := 12) hg inX2 (hts (.instantiable RX2 12) (by decide +kernel))
  obtain ⟨c3, i3, k3⟩ := u_known (C := RX3) (T := TX3) (N := 4) (n := 4) hg inX3 (hts (.instantiable RX3 4) (by decide +kernel))
  obtain ⟨c4, i4, k4⟩ := u_known (C := RX4) (T := TX4) (N := 3) (n := 3) hg inX4 (hts (.instantiable RX4 3) (by decide +kernel))
  obtain ⟨c5, i5, k5⟩ := u_known (C := RX5) (T := TX5) (N := 2) (n := 2) hg inX5 (hts (.instantiable RX5 2) (by decide +kernel))
  obtain ⟨c6, i6, k6⟩ := u_known (C := RX6) (T := TX6) (N := 3) (n := 3) hg inX6 (hts (.instantiable RX6 3) (by decide +kernel))
  obtain ⟨c7, i7, k7⟩ := u_known (C := RX7) (T := TX7) (N := 3) (n := 3) hg inX7 (hts (.instantiable RX7 3) (by decide +kernel))
  obtain ⟨c8, i8, k8⟩ := u_known (C := RX8) (T := TX8) (N := 11) (n := 11) hg inX8 (hts (.instantiable RX8 11) (by decide +kernel))
  obtain ⟨c9, i9, k9⟩ := u_known (C := RX9) (T := TX9) (N := 30) (n := 30) hg inX9 (hts (.instantiable RX9 30) (by decide +kernel))
  obtain ⟨dC, dI, hKc⟩ : ∃ (dC : Nat → ClassId) (dI : Nat → Nat → Nat), ∀ (k : Nat) (q : vw_C), vwCl[k]? = some q → u_Kn s q.1 q.2.1 q.2.2 (dC k) (dI k) := by
    refine ⟨fun k => if k = 0 then c0 else if k = 1 then c1 else if k = 2 then c2 else if k = 3 then c3 else if k = 4 then c4 else if k = 5 then c5 else if k = 6 then c6 else if k = 7 then c7 else if k = 8 then c8 else c9, fun k => if k = 0 then i0 else if k = 1 then i1 else if k = 2 then i2 else if k = 3 then i3 else if k = 4 then i4 else if k = 5 then i5 else if k = 6 then i6 else if k = 7 then i7 else if k = 8 then i8 else i9, ?_⟩
    intro k q hq
    match k, hq with
    | 0, hq => cases hq; exact k0
    | 1, hq => cases hq; exact k1
    | 2, hq => cases hq; exact k2
    | 3, hq => cases hq; exact k3
    | 4, hq => cases hq; exact k4
    | 5, hq => cases hq; exact k5
    | 6, hq => cases hq; exact k6
    | 7, hq => cases hq; exact k7
    | 8, hq => cases hq; exact k8
    | 9, hq => cases hq; exact k9
    | k + 10, hq => simp [vwCl] at hq
  obtain ⟨aI, rI, oI⟩ := s_arr (hts (.arrayClass .int) (by decide +kernel))
  obtain ⟨aJ, rJ, oJ⟩ := s_arr (hts (.arrayClass .long) (by decide +kernel))
  obtain ⟨aZ, rZ, oZ⟩ := s_arr (hts (.arrayClass .boolean) (by decide +kernel))
  have hoL : (Cond.arrayOver (.object "GlebeVowels$Land")).before #[Value.ref b] s = true := hts _ (by decide +kernel)
  have hoS : (Cond.arrayOver (.object "GlebeVowels$Sheet")).before #[Value.ref b] s = true := hts _ (by decide +kernel)
  obtain ⟨aL, oL, rL⟩ := s_ref hoL
  obtain ⟨aS, oS, rS⟩ := s_ref hoS
  obtain ⟨tc, htc⟩ : ∃ tc : Nat → ClassId, tc 0 = aI ∧ tc 1 = aJ ∧ tc 2 = aZ ∧ tc 3 = aL ∧ tc 4 = aS := ⟨fun k => if k = 0 then aI else if k = 1 then aJ else if k = 2 then aZ else if k = 3 then aL else aS, rfl, rfl, rfl, rfl, rfl⟩
  obtain ⟨t0, t1, t2, t3, t4⟩ := htc
  subst t0 t1 t2 t3 t4
  have hnA : ∀ (Z : Nat) (_ : s.heap.size ≤ Z), ∀ a : Nat, a < s.heap.size → ¬ (fun q : Nat => Z ≤ q) a := fun Z hZ a ha hq => absurd ha (Nat.not_lt.mpr (Nat.le_trans hZ hq))
  have hA := hnA s.heap.size (Nat.le_refl _)
  obtain ⟨kd, hkd, hkT⟩ := va_Tof (args := #[Value.ref b]) (s := s) (tm := .static "GlebeVowels" "KIND_ABOVE" "[I") (ty := .int) (N := 6) (f := fun j => .int (a_kinds j)) (A := fun q : Nat => s.heap.size ≤ q) (by decide) (hs _ (by decide +kernel)) (va_eqt (hs _ (by decide +kernel))) (fun j hj => va_eqt (hs _ (by rcases (show j = 0 ∨ j = 1 ∨ j = 2 ∨ j = 3 ∨ j = 4 ∨ j = 5 by omega) with rfl | rfl | rfl | rfl | rfl | rfl <;> decide +kernel))) hA
  obtain ⟨adK, adV, hS, hSe⟩ := vk_Sof (args := #[Value.ref b]) (s := s) (N := 2) (tm := s_tm) (len := [5, 6]) (byt := a_byt) (A := fun q : Nat => s.heap.size ≤ q) (fun i hi => by rcases (show i = 0 ∨ i = 1 by omega) with rfl | rfl <;> decide)
    (fun i hi => hs _ (by rcases (show i = 0 ∨ i = 1 by omega) with rfl | rfl <;> decide +kernel))
    (fun i hi => hs _ (by rcases (show i = 0 ∨ i = 1 by omega) with rfl | rfl <;> decide +kernel))
    (fun i hi => hs _ (by rcases (show i = 0 ∨ i = 1 by omega) with rfl | rfl <;> decide +kernel))
    (fun i hi => hs _ (by rcases (show i = 0 ∨ i = 1 by omega) with rfl | rfl <;> decide +kernel))
    (fun i hi j hj => hs _ (by
      rcases (show i = 0 ∨ i = 1 by omega) with rfl | rfl
      · have hj : j < 5 := hj
        rcases (show j = 0 ∨ j = 1 ∨ j = 2 ∨ j = 3 ∨ j = 4 by omega) with rfl | rfl | rfl | rfl | rfl <;> decide +kernel
      · have hj : j < 6 := hj
        rcases (show j = 0 ∨ j = 1 ∨ j = 2 ∨ j = 3 ∨ j = 4 ∨ j = 5 by omega) with rfl | rfl | rfl | rfl | rfl | rfl <;> decide +kernel))
    (fun i j hi hj hij => by
      rcases (show (i = 0 ∧ j = 1) ∨ (i = 1 ∧ j = 0) by omega) with ⟨rfl, rfl⟩ | ⟨rfl, rfl⟩
      · exact Or.inl (hs _ (by decide +kernel))
      · exact Or.inr (hs _ (by decide +kernel))) hA
  have hbk : b ≠ kd := va_neR (hs (Cond.not (Cond.eq (.arg 0) (.static "GlebeVowels" "KIND_ABOVE" "[I"))) (by decide +kernel)) (show (Term.arg 0).eval #[Value.ref b] s none [] s = some (.ref b) from rfl) hkd
  have h4 : 4 ≤ s.heap.size := by
    obtain ⟨x0, u0, v0, -, w0, z0, -⟩ := (hS.1 0 (by omega)).2.2.2
    obtain ⟨x1, u1, v1, -, w1, z1, -⟩ := (hS.1 1 (by omega)).2.2.2
    obtain ⟨x2, u2, v2, -, -, -, -⟩ := hkT
    obtain ⟨x3, u3, v3, -⟩ := hX
    refine s_four (Array.getElem?_eq_some_iff.mp u0).1 (Array.getElem?_eq_some_iff.mp u1).1 (Array.getElem?_eq_some_iff.mp u2).1 hbl ?_ ?_ ?_ ?_ ?_ (Ne.symm hbk)
    · intro e
      rw [e] at u0
      cases u0.symm.trans u1
      exact absurd (z0.symm.trans z1) (by decide)
    · intro e
      rw [e] at u0
      cases u0.symm.trans u2
      exact absurd (s_ty v0 v2) (by decide)
    · intro e
      rw [e] at u0
      cases u0.symm.trans u3
      exact absurd (s_ty v0 v3) (by decide)
    · intro e
      rw [e] at u1
      cases u1.symm.trans u2
      exact absurd (s_ty v1 v2) (by decide)
    · intro e
      rw [e] at u1
      cases u1.symm.trans u3
      exact absurd (s_ty v1 v3) (by decide)
  have e4 : s.heap.size - 4 + 4 = s.heap.size := by omega
  refine ⟨((dC, dI), tc, s.heap.size - 4, fun j => if j = 0 then adK 0 else if j = 1 then adK 1 else if j = 2 then kd else b), rfl, e4, ⟨hKc, ?_⟩, ⟨?_, ?_⟩, ⟨?_, ?_, ?_, ?_, ⟨adV, ?_⟩, ?_⟩, ?_, Nat.le_of_eq e4, va_AO.of (A := #[Value.ref b]) ?_, va_AO.of (A := #[Value.ref b]) ?_⟩
  · intro k q hq
    match k, hq with
    | 0, hq => cases hq; exact ⟨oI, rI⟩
    | 1, hq => cases hq; exact ⟨oJ, rJ⟩
    | 2, hq => cases hq; exact ⟨oZ, rZ⟩
    | 3, hq => cases hq; exact ⟨oL, rL⟩
    | 4, hq => cases hq; exact ⟨oS, rS⟩
    | k + 5, hq => simp [a_tys] at hq
  · intro q hq
    exact va_Nw.of rfl (A := #[Value.ref b]) (hts _ ((show ∀ q ∈ a_nF, a_wF q ∈ lw_tbl by decide +kernel) q hq))
  · intro q hq
    exact va_Nw.of rfl (A := #[Value.ref b]) (hts _ ((show ∀ q ∈ a_nM, a_wM q ∈ lw_tbl by decide +kernel) q hq))
  · exact va_Zref (hts _ (by decide +kernel)) (hts _ (by decide +kernel)) hkd (hnA _ (Nat.le_of_eq e4.symm))
  · exact hkT.narrow (fun q hq => by have hq : s.heap.size - 4 + 4 ≤ q := hq; show s.heap.size ≤ q; omega)
  · exact vk_R.of (hts _ (by decide +kernel)) (hSe 0 (by omega))
  · exact vk_R.of (hts _ (by decide +kernel)) (hSe 1 (by omega))
  · have h5 := hS.narrow (B := fun q : Nat => s.heap.size - 4 + 4 ≤ q) (fun q hq => by have hq : s.heap.size - 4 + 4 ≤ q := hq; show s.heap.size ≤ q; omega)
    refine ⟨fun i hi => ?_, fun i j hi hj e => ?_⟩
    · have h6 := h5.1 i hi
      rcases (show i = 0 ∨ i = 1 by omega) with rfl | rfl
      · exact h6
      · exact h6
    · refine h5.2 i j hi hj ?_
      rcases (show i = 0 ∨ i = 1 by omega) with rfl | rfl <;> rcases (show j = 0 ∨ j = 1 by omega) with rfl | rfl <;> exact e
  · exact va_Zof (hts _ (by decide +kernel)) (hts _ (by decide +kernel)) (va_eqi (hs _ (by decide +kernel))) (hnA _ (Nat.le_of_eq e4.symm))
  · intro j hj
    rcases (show j = 0 ∨ j = 1 ∨ j = 2 ∨ j = 3 by omega) with rfl | rfl | rfl | rfl
    · show adK 0 < s.heap.size - 4 + 4
      obtain ⟨x, hx, -⟩ := (hS.1 0 (by omega)).1
      rw [e4]; exact (Array.getElem?_eq_some_iff.mp hx).1
    · show adK 1 < s.heap.size - 4 + 4
      obtain ⟨x, hx, -⟩ := (hS.1 1 (by omega)).1
      rw [e4]; exact (Array.getElem?_eq_some_iff.mp hx).1
    · show kd < s.heap.size - 4 + 4
      obtain ⟨x, hx, -⟩ := hkT
      rw [e4]; exact (Array.getElem?_eq_some_iff.mp hx).1
    · show b < s.heap.size - 4 + 4
      rw [e4]; exact hbl
  · exact hoL
  · exact hoS
set_option maxHeartbeats 4000000 in
set_option maxRecDepth 100000 in
theorem whole_start {p : Program} {e : Env} {s : State} {m : MethodId} {below : List Frame} {meth : Method} {c : Code} (l : Launch) (hflags : l.flags = flags0) {b L : Nat} {xs : Nat → Int32} (hL : L ≤ 3072) (C0 : lw_At p s m meth c b L xs) : W p l e room_1 s m #[Value.ref b] below meth c s.heap [] 0 0 (lw_Z below #[Value.ref b] s) (entryFrame m ([Value.ref b] : List Value).toArray 4) := by
  obtain ⟨G, h3, hlow, hK⟩ := s_K C0
  obtain ⟨hx, hb, hr, hml, hown, hts, hX, hbl, hlocks, hgv⟩ := C0
  have hg : ∀ w ∈ lw_gt, w.before #[Value.ref b] s = true := fun w hw => hts w (List.mem_filter.mp hw).1
  have F := law_first (p := p) (l := l) (e := e) (m := m) (below := below) (c := c) hL hr hlocks hbl hX h3 hlow ⟨hx, hb, hml, hown, hg, hK, Nat.le_of_ble_eq_true rfl, Nat.le_of_ble_eq_true rfl, Nat.le_of_ble_eq_true rfl, Nat.le_of_ble_eq_true rfl⟩ inv_first
  have hl := lv_entry ([.ref b]) (n := 4) (Nat.le_of_ble_eq_true rfl)
  rw [lg_entry_eq]
  generalize (lg_sl ([.ref b]) ++ List.replicate (4 - (lg_sl ([.ref b])).length) Slot.unset).toArray = ls at hl ⊢
  have hl : lv_has ls 4 [(0, .ref b)] := hl
  refine F s.heap [] ls ⟨hlow.symm, fun k e he => by cases he⟩ va_S.rf ?_
  have e3 : a_ad G 3 = b := h3
  show lv_has ls 4 [(0, .ref (a_ad G 3))]
  rw [e3]
  exact hl
set_option maxHeartbeats 4000000 in
theorem lw_walk (l : Launch) (hflags : l.flags = flags0) (b : Addr) (xs : List Int32) : MetFree l x (headSpec (Jvm.Cond.code x code maxLocals ret :: tables_1) room_1) (lw_P b xs) (fun _ _ _ _ _ => True) lw_Q := by
  refine MetFree.of_bodyS (code := code) (maxLocals := maxLocals) (ret := ret) (by decide) ?_ ?_
  · intro args s m h hn
    obtain ⟨meth, c, h1, h2, h3, h4, h5, h6, -, -⟩ := Cond.code_spec hn (atoms_spec (ws := Jvm.Cond.code x code maxLocals ret :: tables_1) h _ List.mem_cons_self)
    exact ⟨meth, c, h1, h2, h3, h4, h5, h6⟩
  · intro p e s m args below meth c s₁ B hml0 hP _
    obtain ⟨rfl, hx, hbd, hgv⟩ := hP
    obtain ⟨scr, harrAt, hlist, hof, hsmall⟩ := hx
    obtain ⟨hcb, hkn, -, -⟩ := State.arrayAt?_spec harrAt
    have hown : s.vm.findClass R_law = some m.cls := findClass_of_methodNamed B.named
    have hts0 : ∀ c ∈ (Jvm.Cond.code x code maxLocals ret :: tables_1), c.before #[Value.ref b] s = true := atoms_spec (ws := Jvm.Cond.code x code maxLocals ret :: tables_1) B.pre
    have hts : ∀ w ∈ lw_tbl, w.before #[Value.ref b] s = true := k2_hts_sels lw_privs (fun w hw => hts0 w (List.mem_cons_of_mem _ hw)) lw_privs_ok
    have hml : c.maxLocals = 4 := B.maxLocals_eq (hts0 _ List.mem_cons_self)
    have X₀ : Stand p l e room_1 s m #[Value.ref b] below meth c s₁ [] 0 0 := Stand.of_body B
    have hh0 : s₁.heap = s.heap := by rw [B.state]; rfl
    have hsz : scr.slots.size = xs.length := by rw [← Array.length_toList, hlist, List.length_map]
    have hval : ∀ j : Nat, j < xs.length → scr.slots[j]? = some (.int (xs.getD j 0)) := fun j hj => by
      rw [← Array.getElem?_toList, hlist]
      simp [hj]
    have hbl : b < s.heap.size := (Array.getElem?_eq_some_iff.mp hcb).1
    have hX : va_X b xs.length (fun j => xs.getD j 0) s s.heap := ⟨scr, hcb, hof, hkn, hsz, hval⟩
    have K : W p l e room_1 s m #[Value.ref b] below meth c s₁.heap [] 0 0 (lw_Z below #[Value.ref b] s) (entryFrame m ([Value.ref b] : List Value).toArray 4) := by
      rw [hh0]
      exact whole_start l hflags hbd ⟨B.exec, B.bytes, B.returns, hml, hown, hts, hX, hbl, B.notSynchronized, hgv⟩
    obtain ⟨t, a1, o, b1, b2, b3⟩ := K s₁ rfl X₀
    exact ⟨t, o, a1, b1, b2, b3⟩
theorem lw_pre_spec {args : Array Value} {s : State} (h : (Jvm.Cond.and given_1 narrow_1).before args s = true) (hr : rest_1_c.before args s = true) : ∃ (b : Addr) (xs : List Int32), lw_P b xs args s := by
  have hs := flat_of_before _ h
  have hq := flat_of_before _ hr
  have hc : (Cond.count 1).before args s = true := hs _ (by decide +kernel)
  have harr : (Cond.arrayOf (.arg 0) .int).before args s = true := hs _ (by decide +kernel)
  have hle : (Cond.le (.length (.arg 0)) (.int 3072)).before args s = true := hs _ (by decide +kernel)
  have hlen : (Cond.isInt (.length (.arg 0))).before args s = true := hq _ (by decide +kernel)
  have hall : (Cond.all (.arg 0) (.isInt (.elem (.arg 0) (.index 0)))).before args s = true := hq _ (by decide +kernel)
  obtain ⟨b, xs, hb, hx⟩ := State.ints_of_pre rfl harr hlen hall
  have hsm : xs.length < 2 ^ 31 := hx.choose_spec.2.2.2
  have hev : (Term.length (.arg 0)).eval args s none [] s = some (.int xs.length.toInt32) := hx.length_eval hb
  have hv := Cond.le_ints hev (show (Term.int 3072).eval args s none [] s = some (.int 3072) from rfl)
  have hd : xs.length.toInt32 ≤ 3072 := by
    simpa [Cond.before, Cond.holds, hv] using hle
  have hN : xs.length ≤ 3072 := (Int32.ofNat_le_ofNat hsm (by decide)).mp (show Int32.ofNat xs.length ≤ Int32.ofNat 3072 from hd)
  exact ⟨b, xs, Cond.one_arg hc (show args[0]? = some (.ref b) from hb), hx, hN, h⟩
theorem lw_comes (l : Launch) (hflags : l.flags = flags0) : Comes l x (Jvm.Cond.code x code maxLocals ret :: tables_1) room_1 (fun tb e args s => Calls_1 tb e args s ∧ rest_1 tb e args s ∧ Pre_1 tb e args s)
    (fun _ _ args s o t => lw_Q args s o t) := by
  intro p e ha hc hk s m args below hf hfit hheap happ hpre
  obtain ⟨b, xs, hP⟩ := lw_pre_spec hpre.2.2 hpre.2.1
  obtain ⟨k, o, h1, h2, h3, hQ⟩ := lw_walk l hflags b xs p e ha hc hk s m args below hf ((Spec.applies_iff_loose hf).mp happ).1 hP trivial
  exact ⟨k, o, h1, h2, h3, hQ⟩
theorem lw_frame {s t : State} {o : Outcome} {args : Array Value} (h : Framed s o t [] room_1.cells room_1.slots) :
    Framed s o t (fieldLocs frame_1_writes args s ++ arrayLocs frame_1_arrays args s ++ staticLocs frame_1_statics s) room_1.cells room_1.slots := h
theorem lw_limb (L : Cond) (hL : ∀ (args : Array Value) (s t : State), L.after args s (.returned (some (.int 1))) t = true) :
    ArmFor flags0 classFile x code maxLocals ret World_1 tables_1 room_1 Calls_1 rest_1 Pre_1
      (fun tb e a s o t => postC L tb e a s o t ∧ Framed s o t (fieldLocs frame_1_writes a s ++ arrayLocs frame_1_arrays a s ++ staticLocs frame_1_statics s) room_1.cells room_1.slots) := by
  intro l hflags _ _ p e ha hc hk s m args below hf hfit hheap happ hpre
  obtain ⟨k, o, h1, h2, h3, rfl, hF⟩ := lw_comes l hflags p e ha hc hk s m args below hf hfit hheap happ hpre
  exact ⟨k, _, h1, h2, h3, hL args s _, lw_frame hF⟩
theorem i_vc : Claimed_1_1 ∧ Claimed_1_2 := ⟨lw_limb limb_1_1 (fun args s t => by simp [limb_1_1, Cond.after, Cond.holds, Cond.value]), lw_limb limb_1_2 (fun args s t => Cond.after_iff.mpr (by
  first | (rw [show limb_1_2 = Cond.eq .result (.int 1) from rfl, Cond.eq_ints (x := 1) (y := 1) rfl rfl]; simp; done) | (simp [limb_1_2, Cond.value, Term.eval]; done)))⟩
