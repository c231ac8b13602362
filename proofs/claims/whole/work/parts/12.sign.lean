/-! the place of a sign in one of the two texts: the JDK's own methods, over the two texts alone -/
theorem dJ1_canEncode_9a6ad_0 : decode cJ1_canEncode_9a6ad 0 = .ok (.iload_n 0, 1) := by decide +kernel
theorem dJ1_canEncode_9a6ad_1 : decode cJ1_canEncode_9a6ad 1 = .ok (.ifCond .lt 14, 3) := by decide +kernel
theorem dJ1_canEncode_9a6ad_4 : decode cJ1_canEncode_9a6ad 4 = .ok (.iload_n 0, 1) := by decide +kernel
theorem dJ1_canEncode_9a6ad_5 : decode cJ1_canEncode_9a6ad 5 = .ok (.sipush 255, 3) := by decide +kernel
theorem dJ1_canEncode_9a6ad_8 : decode cJ1_canEncode_9a6ad 8 = .ok (.if_icmp .gt 7, 3) := by decide +kernel
theorem dJ1_canEncode_9a6ad_11 : decode cJ1_canEncode_9a6ad 11 = .ok (.iconst 1, 1) := by decide +kernel
theorem dJ1_canEncode_9a6ad_12 : decode cJ1_canEncode_9a6ad 12 = .ok (.goto 4, 3) := by decide +kernel
theorem dJ1_canEncode_9a6ad_15 : decode cJ1_canEncode_9a6ad 15 = .ok (.iconst 0, 1) := by decide +kernel
theorem dJ1_canEncode_9a6ad_16 : decode cJ1_canEncode_9a6ad 16 = .ok (.ireturn, 1) := by decide +kernel
def J1_canEncode_9a6ad (x0 : Int32) : Int32 :=
  if x0 < 0 then
    (0 : Int32)
  else
    if (255 : Int32) < x0 then
      (0 : Int32)
    else
      (1 : Int32)
set_option maxRecDepth 100000 in
set_option maxHeartbeats 4000000 in
theorem J1_canEncode_9a6ad_ok (l : Launch) {h : aH} {nx : Nat} {x0 : Int32} {r : Int32} (hF : J1_canEncode_9a6ad x0 = r) : aOk l 0 0 0 yJ1_canEncode_9a6ad cJ1_canEncode_9a6ad 1 (some .boolean) [.int x0] h nx (aRd (.int r) h nx) := by
  refine aOk.of (by decide +kernel) (Nat.le_of_ble_eq_true rfl) (fun X G hX C R0 _ => ?_)
  subst hX
  show aV X G 1 0 [(0, .int x0)] [] h nx 0 0
  rw [J1_canEncode_9a6ad] at hF
  refine ab_iload_n C 0 rfl rfl dJ1_canEncode_9a6ad_0 ?_
  refine ab_if_lt C 15 dJ1_canEncode_9a6ad_1 (by decide) (fun c1 => ?_) (fun c1 => ?_)
  · replace hF := (if_pos c1).symm.trans hF
    refine ab_iconst (v := (0 : Int32)) C dJ1_canEncode_9a6ad_15 (by decide) ?_
    obtain rfl := hF
    exact ab_iret C R0 rfl dJ1_canEncode_9a6ad_16 ⟨rfl, rfl, rfl⟩
  · replace hF := (if_neg c1).symm.trans hF
    refine ab_iload_n C 0 rfl rfl dJ1_canEncode_9a6ad_4 ?_
    refine ab_sipush (v := (255 : Int32)) C dJ1_canEncode_9a6ad_5 (by decide) ?_
    refine ab_icmp_gt C 15 dJ1_canEncode_9a6ad_8 (by decide) (fun c2 => ?_) (fun c2 => ?_)
    · replace hF := (if_pos c2).symm.trans hF
      refine ab_iconst (v := (0 : Int32)) C dJ1_canEncode_9a6ad_15 (by decide) ?_
      obtain rfl := hF
      exact ab_iret C R0 rfl dJ1_canEncode_9a6ad_16 ⟨rfl, rfl, rfl⟩
    · replace hF := (if_neg c2).symm.trans hF
      refine ab_iconst (v := (1 : Int32)) C dJ1_canEncode_9a6ad_11 (by decide) ?_
      refine ab_goto C 16 dJ1_canEncode_9a6ad_12 (by decide) ?_
      obtain rfl := hF
      exact ab_iret C R0 rfl dJ1_canEncode_9a6ad_16 ⟨rfl, rfl, rfl⟩
def a_idx (c : Int32) : List Int32 → Int32 → Int32
  | [], _ => -1
  | x :: l, i => if x = c then i else a_idx c l (i + 1)
def a_bt (t : Nat) : List Int32 := a_byt.getD t []
def tIx (t : Nat) (c : Int32) : Int32 := if J1_canEncode_9a6ad c = 0 then -1 else a_idx c.toInt8.toInt32 (a_bt t) 0
def a_sgn (t : Nat) (S0 : Rec) : Option Int32 := (X7_sign S0).bind fun v => if v < 0 then some (-1) else some (tIx t (v.toUInt32 % 65536).toInt32)
def X7_signAmong_0 (S0 : Rec) : Option Int32 := a_sgn 0 S0
def X7_signAmong_1 (S0 : Rec) : Option Int32 := a_sgn 1 S0
def aE : aH := fun _ => none
def aTx (G : aG) (t : Nat) (U : State) : Prop := va_OF "java/lang/String" "coder" "B" (.int 0) (G.2.2.2 t) (a_low G) U U.heap ∧ va_OF "java/lang/String" "value" "[B" (.ref (G.2.2.2 3)) (G.2.2.2 t) (a_low G) U U.heap ∧ va_T .byte (G.2.2.2 3) (a_bt t).length (fun j => .int ((a_bt t).getD j 0)) (a_low G) U U.heap ∧ va_O "java/lang/String" (G.2.2.2 t) (a_low G) U U.heap
theorem aTx.call {G : aG} {t : Nat} {s U : State} {H : Heap} {locs : List Loc} (h : aTx G t s) (hS : va_S (a_low G) s.heap H locs) (hU : U.heap = H) (hW : s.WarmedH U.vm) : aTx G t U := by
  have hk : ∀ a : Nat, a < s.heap.size → ¬ a_low G a → U.heap[a]? = s.heap[a]? := fun a g1 g2 => by rw [hU]; exact hS.2.1 a g1 g2
  exact ⟨(h.1.moved hW.alike).kept hk, (h.2.1.moved hW.alike).kept hk, (h.2.2.1.moved hW.alike).kept hk, (h.2.2.2.moved hW.alike).kept hk⟩
def aOkT (l : Launch) (G : aG) (t d : Nat) (y : MethodName) (cc : ByteArray) (nL : Nat) (ret : Option FieldType) (as : List Value) (v : Value) : Prop :=
  Met l y (.code y cc nL ret :: lw_gt) ({ frames := d, cells := 0, slots := 0, locals := 60 * d } : Room) (fun w U => w = (as.map (a_ev G)).toArray ∧ a_P G aE 4 U.heap ∧ a_K G U ∧ aTx G t U) (a_Q G (aRd v aE 4)) 0 0 (a_low G)
theorem aOkT.of {l : Launch} {G : aG} {t d : Nat} {y : MethodName} {cc : ByteArray} {nL : Nat} {ret : Option FieldType} {as : List Value} {v : Value}
    (hy : plainName y.cls = true) (hn : (lg_sl as).length ≤ nL)
    (body : ∀ (X : aX), xl X = l → aC X G cc nL d 0 0 y.cls → aR X G 0 0 ret (aRd v aE 4) → aTx G t (xs X) → aV X G nL 0 (lv_args 0 as) [] aE 4 0 0) : aOkT l G t d y cc nL ret as v := by
  refine Met.ofW (cc := cc) (maxL := nL) (ret := ret) hy rfl ?_
  intro p e s m args below meth c s₁ B hml hv
  obtain ⟨rfl, hP, hK, hT⟩ := hv
  have hts := atoms_spec (ws := .code y cc nL ret :: lw_gt) B.pre
  have hown : s.vm.findClass y.cls = some m.cls := findClass_of_methodNamed B.named
  have b := body (p, l, e, (headSpec (.code y cc nL ret :: lw_gt) ({ frames := d, cells := 0, slots := 0, locals := 60 * d } : Room)).room, s, m, (as.map (a_ev G)).toArray, below, meth, c, MQ below (a_Q G (aRd v aE 4)) (as.map (a_ev G)).toArray s 0 0 (a_low G)) rfl
    ⟨B.exec, B.bytes, hml, hown, fun w hw => hts w (List.mem_cons_of_mem _ hw), hK, Nat.le_refl _, Nat.le_refl _, Nat.le_refl _, Nat.le_refl _⟩ ⟨B.returns, B.notSynchronized, rfl⟩ hT
  have hl := lv_entry (as.map (a_ev G)) (n := nL) (by rw [a_map_sl]; exact hn)
  rw [lg_entry_eq]
  rw [a_args] at hl
  exact b s.heap [] _ hP va_S.rf hl
section AT
variable {X : aX} {G : aG} {cc : ByteArray} {nL d MC MS pc t : Nat} {own : String} {lv lv' : List (Nat × Value)} {st : List Value} {k n : Nat}
theorem a_low4 {t : Nat} (ht : t < 4) : a_ev G (.ref t) = .ref (G.2.2.2 t) := by show Value.ref (a_ad G t) = _; unfold a_ad; rw [if_pos ht]
theorem ab_tcoder (C : aC X G cc nL d MC MS own) (hT : aTx G t (xs X)) (ht : t < 4) {idx : Nat} (hlink : Cond.fieldLink own idx "java/lang/String" "coder" "B" ∈ lw_gt) (hd : decode cc pc = .ok (.getfield idx, 3)) (kk : aV X G nL (pc + 3) lv (.int 0 :: st) aE 4 k n) : aV X G nL pc lv (.ref t :: st) aE 4 k n := by
  intro H locs ls P S c
  rw [List.map_cons, a_low4 ht]
  exact vk_getf C.1 C.2.1 hT.1 S C.2.2.2.1 (C.2.2.2.2.1 _ hlink) (fun _ h => h) hd (kk H locs ls P S c)
theorem ab_tvalue (C : aC X G cc nL d MC MS own) (hT : aTx G t (xs X)) (ht : t < 4) {idx : Nat} (hlink : Cond.fieldLink own idx "java/lang/String" "value" "[B" ∈ lw_gt) (hd : decode cc pc = .ok (.getfield idx, 3)) (kk : aV X G nL (pc + 3) lv (.ref 3 :: st) aE 4 k n) : aV X G nL pc lv (.ref t :: st) aE 4 k n := by
  intro H locs ls P S c
  rw [List.map_cons, a_low4 ht]
  exact vk_getf C.1 C.2.1 hT.2.1 S C.2.2.2.1 (C.2.2.2.2.1 _ hlink) (fun _ h => h) hd (kk H locs ls P S c)
theorem ab_tcomp (C : aC X G cc nL d MC MS own) {idx : Nat} (hlink : Cond.fieldLink own idx "java/lang/String" "COMPACT_STRINGS" "Z" ∈ lw_gt) (hd : decode cc pc = .ok (.getstatic idx, 3)) (kk : aV X G nL (pc + 3) lv (.int 1 :: st) aE 4 k n) : aV X G nL pc lv st aE 4 k n := by
  intro H locs ls P S c
  exact va_gets C.1 C.2.1 C.2.2.2.2.2.1.2.2.1.2.2.2.2.2 S C.2.2.2.1 (C.2.2.2.2.1 _ hlink) (fun _ h9 => h9) hd (kk H locs ls P S c)
theorem ab_tlen (C : aC X G cc nL d MC MS own) (hT : aTx G t (xs X)) (hd : decode cc pc = .ok (.arraylength, 1)) (kk : aV X G nL (pc + 1) lv (.int (Int32.ofNat (a_bt t).length) :: st) aE 4 k n) : aV X G nL pc lv (.ref 3 :: st) aE 4 k n := by
  intro H locs ls P S c
  rw [List.map_cons, a_low4 (by omega)]
  exact va_tlen C.1 C.2.1 hT.2.2.1 S rfl hd (kk H locs ls P S c)
theorem ab_tld (C : aC X G cc nL d MC MS own) (hT : aTx G t (xs X)) {i x : Int32} (hi : vp_in i (a_bt t).length) (hx : (a_bt t).getD i.toNatClampNeg 0 = x) (hd : decode cc pc = .ok (.baload, 1)) (kk : aV X G nL (pc + 1) lv (.int x :: st) aE 4 k n) : aV X G nL pc lv (.int i :: .ref 3 :: st) aE 4 k n := by
  intro H locs ls P S c
  rw [List.map_cons, List.map_cons, a_low4 (by omega)]
  exact va_tb C.1 C.2.1 hT.2.2.1 S hi (v := .int x) (by rw [hx]) hd (kk H locs ls P S c)
theorem ab_tS (C : aC X G cc nL d MC MS own) (hT : aTx G t (xs X)) {dc mxL idx nA : Nat} {y : MethodName} {yc : ByteArray} {ret : Option FieldType} {as st0 : List Value} {v : Value} (ok : aOkT (xl X) G t dc y yc mxL ret as v) (hst : st0 = as.reverse ++ st) (hnA : as.length = nA) (hl : Cond.methodLink own idx y ∈ lw_gt) (hs : Cond.static y ∈ lw_gt) (lk : lkC y yc mxL ret nA) (hdep : dc + 1 ≤ d) (hmc : k ≤ MC ∧ n ≤ MS) (hw : (st.map fun v => v.category).sum ≤ 8) (hd : decode cc pc = .ok (.invokestatic idx, 3)) (kk : aV X G nL (pc + 3) lv (v :: st) aE 4 k n) : aV X G nL pc lv st0 aE 4 k n := by
  intro H locs ls P S c
  obtain ⟨l1, l2, l3, l4⟩ := lk
  have hts := C.2.2.2.2.1
  subst hst
  have e1 : ((as.reverse ++ st).map (a_ev G)) = (as.map (a_ev G)).reverse ++ st.map (a_ev G) := by rw [List.map_append, List.map_reverse]
  rw [e1]
  have blind : FrameBlind (fun w U => w = (as.map (a_ev G)).toArray ∧ a_P G aE 4 U.heap ∧ a_K G U ∧ aTx G t U) := by
    intro a U g mk q
    obtain ⟨q0, q1, q2, q3⟩ := q
    obtain ⟨z0, z1, z2⟩ := a_calling (G := G) (as := as) (h := aE) (nx0 := 4) a U g mk ⟨q0, q1, q2⟩
    exact ⟨z0, z1, z2, q3.1.moved (Vm.Alike.refl U.vm), q3.2.1.moved (Vm.Alike.refl U.vm), q3.2.2.1.moved (Vm.Alike.refl U.vm), q3.2.2.2.moved (Vm.Alike.refl U.vm)⟩
  exact ab_back (va_runS (As := as.map (a_ev G)) ⟨C.1, C.2.1, C.2.2.1, C.2.2.2.1, hts⟩ ok (va_cwS nA hts (a_goodc hl (a_goodc hs (a_goodc l4 (a_goodc l1 a_good)))) rfl rfl rfl l2 ⟨by show dc + 1 ≤ _; exact Nat.le_trans hdep C.2.2.2.2.2.2.1, by show 8 + (mxL + 11) + 60 * dc ≤ _; have := C.2.2.2.2.2.2.2.1; omega⟩) ⟨blind, fun U hU hW => ⟨rfl, by rw [hU]; exact P, a_K.call C.2.2.2.2.2.1 S hU hW, hT.call S hU hW⟩⟩ rfl (by rw [List.length_map]; exact hnA) c.1 rfl (lv_room (by rw [a_cats]; exact hw)) hd ⟨Nat.le_trans hmc.1 C.2.2.2.2.2.2.2.2.1, Nat.le_trans hmc.2 C.2.2.2.2.2.2.2.2.2⟩) S c
    (fun v1 h1 nx1 q => by obtain ⟨rfl, rfl, rfl⟩ := q; exact kk)
theorem ab_tV (C : aC X G cc nL d MC MS own) (hT : aTx G t (xs X)) (ht : t < 4) {dc mxL idx nA : Nat} {y : MethodName} {yc : ByteArray} {ret : Option FieldType} {st0 : List Value} {v : Value} (as1 : List Value) (ok : aOkT (xl X) G t dc y yc mxL ret (.ref t :: as1) v) (hst : st0 = as1.reverse ++ .ref t :: st) (hnA : as1.length = nA) (hcy : y.cls = "java/lang/String") (hl : Cond.methodLink own idx y ∈ lw_gt) (hi : Cond.instanceMethod y ∈ lw_gt) (hs : Cond.selects y.cls y y ∈ lw_gt) (lk : lkC y yc mxL ret nA) (hdep : dc + 1 ≤ d) (hmc : k ≤ MC ∧ n ≤ MS) (hw : (st.map fun v => v.category).sum ≤ 8) (hd : decode cc pc = .ok (.invokevirtual idx, 3)) (kk : aV X G nL (pc + 3) lv (v :: st) aE 4 k n) : aV X G nL pc lv st0 aE 4 k n := by
  intro H locs ls P S c
  obtain ⟨l1, l2, l3, l4⟩ := lk
  have hts := C.2.2.2.2.1
  subst hst
  have e1 : ((as1.reverse ++ Value.ref t :: st).map (a_ev G)) = (as1.map (a_ev G)).reverse ++ Value.ref (G.2.2.2 t) :: st.map (a_ev G) := by rw [List.map_append, List.map_reverse, List.map_cons, a_low4 ht]
  have e2 : ((Value.ref t :: as1 : List Value).map (a_ev G)) = Value.ref (G.2.2.2 t) :: as1.map (a_ev G) := by rw [List.map_cons, a_low4 ht]
  rw [e1]
  have blind : FrameBlind (fun w U => w = ((Value.ref t :: as1).map (a_ev G)).toArray ∧ a_P G aE 4 U.heap ∧ a_K G U ∧ aTx G t U) := by
    intro a U g mk q
    obtain ⟨q0, q1, q2, q3⟩ := q
    obtain ⟨z0, z1, z2⟩ := a_calling (G := G) (as := Value.ref t :: as1) (h := aE) (nx0 := 4) a U g mk ⟨q0, q1, q2⟩
    exact ⟨z0, z1, z2, q3.1.moved (Vm.Alike.refl U.vm), q3.2.1.moved (Vm.Alike.refl U.vm), q3.2.2.1.moved (Vm.Alike.refl U.vm), q3.2.2.2.moved (Vm.Alike.refl U.vm)⟩
  unfold aOkT at ok
  rw [e2] at ok blind
  have rc : ∃ cell : Cell, H[G.2.2.2 t]? = some cell ∧ cell.vm.isStatics = false ∧ (xs X).vm.findClass y.cls = some cell.cls := by
    obtain ⟨cell, h1, h2, h3, -⟩ := hT.2.2.2.kept S.2.1
    exact ⟨cell, h1, h2, by rw [hcy]; exact h3⟩
  exact ab_back (va_runV (As := as1.map (a_ev G)) ⟨C.1, C.2.1, C.2.2.1, C.2.2.2.1, hts⟩ ok (cwV nA hts (a_goodc hl (a_goodc hi (a_goodc hs (a_goodc l4 (a_goodc l1 a_good))))) rfl rfl rfl ⟨rfl, l2⟩ ⟨by show dc + 1 ≤ _; exact Nat.le_trans hdep C.2.2.2.2.2.2.1, by show 8 + (mxL + 11) + 60 * dc ≤ _; have := C.2.2.2.2.2.2.2.1; omega⟩) ⟨blind, rc, fun U hU hW => ⟨rfl, by rw [hU]; exact P, a_K.call C.2.2.2.2.2.1 S hU hW, hT.call S hU hW⟩⟩ rfl (by rw [List.length_map]; exact hnA) c.1 rfl (lv_room (by rw [a_cats]; exact hw)) hd ⟨Nat.le_trans hmc.1 C.2.2.2.2.2.2.2.2.1, Nat.le_trans hmc.2 C.2.2.2.2.2.2.2.2.2⟩) S c
    (fun v1 h1 nx1 q => by obtain ⟨rfl, rfl, rfl⟩ := q; exact kk)
end AT
theorem lc_J0_coder_7d493 : lkC yJ0_coder_7d493 cJ0_coder_7d493 1 (some .byte) 0 := ⟨(a_mem 350 (by decide +kernel) (by decide +kernel)), ⟨by decide +kernel, by decide +kernel, by decide +kernel⟩, by decide, (a_mem 64 (by decide +kernel) (by decide +kernel))⟩
theorem dJ0_coder_7d493_0 : decode cJ0_coder_7d493 0 = .ok (.getstatic 38, 3) := by decide +kernel
theorem dJ0_coder_7d493_3 : decode cJ0_coder_7d493 3 = .ok (.ifCond .eq 10, 3) := by decide +kernel
theorem dJ0_coder_7d493_6 : decode cJ0_coder_7d493 6 = .ok (.aload_n 0, 1) := by decide +kernel
theorem dJ0_coder_7d493_7 : decode cJ0_coder_7d493 7 = .ok (.getfield 15, 3) := by decide +kernel
theorem dJ0_coder_7d493_10 : decode cJ0_coder_7d493 10 = .ok (.goto 4, 3) := by decide +kernel
theorem dJ0_coder_7d493_13 : decode cJ0_coder_7d493 13 = .ok (.iconst 1, 1) := by decide +kernel
theorem dJ0_coder_7d493_14 : decode cJ0_coder_7d493 14 = .ok (.ireturn, 1) := by decide +kernel
theorem lc_J0_isLatin1_aae02 : lkC yJ0_isLatin1_aae02 cJ0_isLatin1_aae02 1 (some .boolean) 0 := ⟨(a_mem 340 (by decide +kernel) (by decide +kernel)), ⟨by decide +kernel, by decide +kernel, by decide +kernel⟩, by decide, (a_mem 64 (by decide +kernel) (by decide +kernel))⟩
theorem dJ0_isLatin1_aae02_0 : decode cJ0_isLatin1_aae02 0 = .ok (.getstatic 38, 3) := by decide +kernel
theorem dJ0_isLatin1_aae02_3 : decode cJ0_isLatin1_aae02 3 = .ok (.ifCond .eq 14, 3) := by decide +kernel
theorem dJ0_isLatin1_aae02_6 : decode cJ0_isLatin1_aae02 6 = .ok (.aload_n 0, 1) := by decide +kernel
theorem dJ0_isLatin1_aae02_7 : decode cJ0_isLatin1_aae02 7 = .ok (.getfield 15, 3) := by decide +kernel
theorem dJ0_isLatin1_aae02_10 : decode cJ0_isLatin1_aae02 10 = .ok (.ifCond .ne 7, 3) := by decide +kernel
theorem dJ0_isLatin1_aae02_13 : decode cJ0_isLatin1_aae02 13 = .ok (.iconst 1, 1) := by decide +kernel
theorem dJ0_isLatin1_aae02_14 : decode cJ0_isLatin1_aae02 14 = .ok (.goto 4, 3) := by decide +kernel
theorem dJ0_isLatin1_aae02_17 : decode cJ0_isLatin1_aae02 17 = .ok (.iconst 0, 1) := by decide +kernel
theorem dJ0_isLatin1_aae02_18 : decode cJ0_isLatin1_aae02 18 = .ok (.ireturn, 1) := by decide +kernel
theorem lc_J0_length_8abf5 : lkC yJ0_length_8abf5 cJ0_length_8abf5 1 (some .int) 0 := ⟨(a_mem 346 (by decide +kernel) (by decide +kernel)), ⟨by decide +kernel, by decide +kernel, by decide +kernel⟩, by decide, (a_mem 64 (by decide +kernel) (by decide +kernel))⟩
theorem dJ0_length_8abf5_0 : decode cJ0_length_8abf5 0 = .ok (.aload_n 0, 1) := by decide +kernel
theorem dJ0_length_8abf5_1 : decode cJ0_length_8abf5 1 = .ok (.getfield 9, 3) := by decide +kernel
theorem dJ0_length_8abf5_4 : decode cJ0_length_8abf5 4 = .ok (.arraylength, 1) := by decide +kernel
theorem dJ0_length_8abf5_5 : decode cJ0_length_8abf5 5 = .ok (.aload_n 0, 1) := by decide +kernel
theorem dJ0_length_8abf5_6 : decode cJ0_length_8abf5 6 = .ok (.invokevirtual 335, 3) := by decide +kernel
theorem dJ0_length_8abf5_9 : decode cJ0_length_8abf5 9 = .ok (.ishr, 1) := by decide +kernel
theorem dJ0_length_8abf5_10 : decode cJ0_length_8abf5 10 = .ok (.ireturn, 1) := by decide +kernel
theorem lc_J0_indexOf_7cf53 : lkC yJ0_indexOf_7cf53 cJ0_indexOf_7cf53 3 (some .int) 2 := ⟨(a_mem 336 (by decide +kernel) (by decide +kernel)), ⟨by decide +kernel, by decide +kernel, by decide +kernel⟩, by decide, (a_mem 64 (by decide +kernel) (by decide +kernel))⟩
theorem dJ0_indexOf_7cf53_0 : decode cJ0_indexOf_7cf53 0 = .ok (.aload_n 0, 1) := by decide +kernel
theorem dJ0_indexOf_7cf53_1 : decode cJ0_indexOf_7cf53 1 = .ok (.invokevirtual 492, 3) := by decide +kernel
theorem dJ0_indexOf_7cf53_4 : decode cJ0_indexOf_7cf53 4 = .ok (.ifCond .eq 19, 3) := by decide +kernel
theorem dJ0_indexOf_7cf53_7 : decode cJ0_indexOf_7cf53 7 = .ok (.aload_n 0, 1) := by decide +kernel
theorem dJ0_indexOf_7cf53_8 : decode cJ0_indexOf_7cf53 8 = .ok (.getfield 9, 3) := by decide +kernel
theorem dJ0_indexOf_7cf53_11 : decode cJ0_indexOf_7cf53 11 = .ok (.iload_n 1, 1) := by decide +kernel
theorem dJ0_indexOf_7cf53_12 : decode cJ0_indexOf_7cf53 12 = .ok (.iload_n 2, 1) := by decide +kernel
theorem dJ0_indexOf_7cf53_13 : decode cJ0_indexOf_7cf53 13 = .ok (.aload_n 0, 1) := by decide +kernel
theorem dJ0_indexOf_7cf53_14 : decode cJ0_indexOf_7cf53 14 = .ok (.invokevirtual 505, 3) := by decide +kernel
theorem dJ0_indexOf_7cf53_17 : decode cJ0_indexOf_7cf53 17 = .ok (.invokestatic 637, 3) := by decide +kernel
theorem dJ0_indexOf_7cf53_20 : decode cJ0_indexOf_7cf53 20 = .ok (.goto 16, 3) := by decide +kernel
theorem dJ0_indexOf_7cf53_23 : decode cJ0_indexOf_7cf53 23 = .ok (.aload_n 0, 1) := by decide +kernel
theorem dJ0_indexOf_7cf53_24 : decode cJ0_indexOf_7cf53 24 = .ok (.getfield 9, 3) := by decide +kernel
theorem dJ0_indexOf_7cf53_27 : decode cJ0_indexOf_7cf53 27 = .ok (.iload_n 1, 1) := by decide +kernel
theorem dJ0_indexOf_7cf53_28 : decode cJ0_indexOf_7cf53 28 = .ok (.iload_n 2, 1) := by decide +kernel
theorem dJ0_indexOf_7cf53_29 : decode cJ0_indexOf_7cf53 29 = .ok (.aload_n 0, 1) := by decide +kernel
theorem dJ0_indexOf_7cf53_30 : decode cJ0_indexOf_7cf53 30 = .ok (.invokevirtual 505, 3) := by decide +kernel
theorem dJ0_indexOf_7cf53_33 : decode cJ0_indexOf_7cf53 33 = .ok (.invokestatic 640, 3) := by decide +kernel
theorem dJ0_indexOf_7cf53_36 : decode cJ0_indexOf_7cf53 36 = .ok (.ireturn, 1) := by decide +kernel
theorem dJ0_indexOf_0f7a4_0 : decode cJ0_indexOf_0f7a4 0 = .ok (.aload_n 0, 1) := by decide +kernel
theorem dJ0_indexOf_0f7a4_1 : decode cJ0_indexOf_0f7a4 1 = .ok (.iload_n 1, 1) := by decide +kernel
theorem dJ0_indexOf_0f7a4_2 : decode cJ0_indexOf_0f7a4 2 = .ok (.iconst 0, 1) := by decide +kernel
theorem dJ0_indexOf_0f7a4_3 : decode cJ0_indexOf_0f7a4 3 = .ok (.invokevirtual 633, 3) := by decide +kernel
theorem dJ0_indexOf_0f7a4_6 : decode cJ0_indexOf_0f7a4 6 = .ok (.ireturn, 1) := by decide +kernel
theorem lc_J1_indexOf_4cfef : lkC yJ1_indexOf_4cfef cJ1_indexOf_4cfef 4 (some .int) 4 := ⟨(a_mem 353 (by decide +kernel) (by decide +kernel)), ⟨by decide +kernel, by decide +kernel, by decide +kernel⟩, by decide, (a_mem 65 (by decide +kernel) (by decide +kernel))⟩
theorem dJ1_indexOf_4cfef_0 : decode cJ1_indexOf_4cfef 0 = .ok (.iload_n 1, 1) := by decide +kernel
theorem dJ1_indexOf_4cfef_1 : decode cJ1_indexOf_4cfef 1 = .ok (.invokestatic 88, 3) := by decide +kernel
theorem dJ1_indexOf_4cfef_4 : decode cJ1_indexOf_4cfef 4 = .ok (.ifCond .ne 5, 3) := by decide +kernel
theorem dJ1_indexOf_4cfef_7 : decode cJ1_indexOf_4cfef 7 = .ok (.iconst (-1), 1) := by decide +kernel
theorem dJ1_indexOf_4cfef_8 : decode cJ1_indexOf_4cfef 8 = .ok (.ireturn, 1) := by decide +kernel
theorem dJ1_indexOf_4cfef_9 : decode cJ1_indexOf_4cfef 9 = .ok (.iload_n 2, 1) := by decide +kernel
theorem dJ1_indexOf_4cfef_10 : decode cJ1_indexOf_4cfef 10 = .ok (.iconst 0, 1) := by decide +kernel
theorem dJ1_indexOf_4cfef_11 : decode cJ1_indexOf_4cfef 11 = .ok (.invokestatic 92, 3) := by decide +kernel
theorem dJ1_indexOf_4cfef_14 : decode cJ1_indexOf_4cfef 14 = .ok (.istore_n 2, 1) := by decide +kernel
theorem dJ1_indexOf_4cfef_15 : decode cJ1_indexOf_4cfef 15 = .ok (.iload_n 3, 1) := by decide +kernel
theorem dJ1_indexOf_4cfef_16 : decode cJ1_indexOf_4cfef 16 = .ok (.aload_n 0, 1) := by decide +kernel
theorem dJ1_indexOf_4cfef_17 : decode cJ1_indexOf_4cfef 17 = .ok (.arraylength, 1) := by decide +kernel
theorem dJ1_indexOf_4cfef_18 : decode cJ1_indexOf_4cfef 18 = .ok (.invokestatic 38, 3) := by decide +kernel
theorem dJ1_indexOf_4cfef_21 : decode cJ1_indexOf_4cfef 21 = .ok (.istore_n 3, 1) := by decide +kernel
theorem dJ1_indexOf_4cfef_22 : decode cJ1_indexOf_4cfef 22 = .ok (.iload_n 2, 1) := by decide +kernel
theorem dJ1_indexOf_4cfef_23 : decode cJ1_indexOf_4cfef 23 = .ok (.iload_n 3, 1) := by decide +kernel
theorem dJ1_indexOf_4cfef_24 : decode cJ1_indexOf_4cfef 24 = .ok (.if_icmp .lt 5, 3) := by decide +kernel
theorem dJ1_indexOf_4cfef_27 : decode cJ1_indexOf_4cfef 27 = .ok (.iconst (-1), 1) := by decide +kernel
theorem dJ1_indexOf_4cfef_28 : decode cJ1_indexOf_4cfef 28 = .ok (.ireturn, 1) := by decide +kernel
theorem dJ1_indexOf_4cfef_29 : decode cJ1_indexOf_4cfef 29 = .ok (.aload_n 0, 1) := by decide +kernel
theorem dJ1_indexOf_4cfef_30 : decode cJ1_indexOf_4cfef 30 = .ok (.iload_n 1, 1) := by decide +kernel
theorem dJ1_indexOf_4cfef_31 : decode cJ1_indexOf_4cfef 31 = .ok (.iload_n 2, 1) := by decide +kernel
theorem dJ1_indexOf_4cfef_32 : decode cJ1_indexOf_4cfef 32 = .ok (.iload_n 3, 1) := by decide +kernel
theorem dJ1_indexOf_4cfef_33 : decode cJ1_indexOf_4cfef 33 = .ok (.invokestatic 95, 3) := by decide +kernel
theorem dJ1_indexOf_4cfef_36 : decode cJ1_indexOf_4cfef 36 = .ok (.ireturn, 1) := by decide +kernel
theorem lc_J1_indexOfChar_4cfef : lkC yJ1_indexOfChar_4cfef cJ1_indexOfChar_4cfef 6 (some .int) 4 := ⟨(a_mem 363 (by decide +kernel) (by decide +kernel)), ⟨by decide +kernel, by decide +kernel, by decide +kernel⟩, by decide, (a_mem 65 (by decide +kernel) (by decide +kernel))⟩
theorem dJ1_indexOfChar_4cfef_0 : decode cJ1_indexOfChar_4cfef 0 = .ok (.iload_n 1, 1) := by decide +kernel
theorem dJ1_indexOfChar_4cfef_1 : decode cJ1_indexOfChar_4cfef 1 = .ok (.i2b, 1) := by decide +kernel
theorem dJ1_indexOfChar_4cfef_2 : decode cJ1_indexOfChar_4cfef 2 = .ok (.istore 4, 2) := by decide +kernel
theorem dJ1_indexOfChar_4cfef_4 : decode cJ1_indexOfChar_4cfef 4 = .ok (.iload_n 2, 1) := by decide +kernel
theorem dJ1_indexOfChar_4cfef_5 : decode cJ1_indexOfChar_4cfef 5 = .ok (.istore 5, 2) := by decide +kernel
theorem dJ1_indexOfChar_4cfef_7 : decode cJ1_indexOfChar_4cfef 7 = .ok (.iload 5, 2) := by decide +kernel
theorem dJ1_indexOfChar_4cfef_9 : decode cJ1_indexOfChar_4cfef 9 = .ok (.iload_n 3, 1) := by decide +kernel
theorem dJ1_indexOfChar_4cfef_10 : decode cJ1_indexOfChar_4cfef 10 = .ok (.if_icmp .ge 21, 3) := by decide +kernel
theorem dJ1_indexOfChar_4cfef_13 : decode cJ1_indexOfChar_4cfef 13 = .ok (.aload_n 0, 1) := by decide +kernel
theorem dJ1_indexOfChar_4cfef_14 : decode cJ1_indexOfChar_4cfef 14 = .ok (.iload 5, 2) := by decide +kernel
theorem dJ1_indexOfChar_4cfef_16 : decode cJ1_indexOfChar_4cfef 16 = .ok (.baload, 1) := by decide +kernel
theorem dJ1_indexOfChar_4cfef_17 : decode cJ1_indexOfChar_4cfef 17 = .ok (.iload 4, 2) := by decide +kernel
theorem dJ1_indexOfChar_4cfef_19 : decode cJ1_indexOfChar_4cfef 19 = .ok (.if_icmp .ne 6, 3) := by decide +kernel
theorem dJ1_indexOfChar_4cfef_22 : decode cJ1_indexOfChar_4cfef 22 = .ok (.iload 5, 2) := by decide +kernel
theorem dJ1_indexOfChar_4cfef_24 : decode cJ1_indexOfChar_4cfef 24 = .ok (.ireturn, 1) := by decide +kernel
theorem dJ1_indexOfChar_4cfef_25 : decode cJ1_indexOfChar_4cfef 25 = .ok (.iinc 5 1, 3) := by decide +kernel
theorem dJ1_indexOfChar_4cfef_28 : decode cJ1_indexOfChar_4cfef 28 = .ok (.goto (-21), 3) := by decide +kernel
theorem dJ1_indexOfChar_4cfef_31 : decode cJ1_indexOfChar_4cfef 31 = .ok (.iconst (-1), 1) := by decide +kernel
theorem dJ1_indexOfChar_4cfef_32 : decode cJ1_indexOfChar_4cfef 32 = .ok (.ireturn, 1) := by decide +kernel
theorem lc_J1_canEncode_9a6ad : lkC yJ1_canEncode_9a6ad cJ1_canEncode_9a6ad 1 (some .boolean) 1 := ⟨(a_mem 356 (by decide +kernel) (by decide +kernel)), ⟨by decide +kernel, by decide +kernel, by decide +kernel⟩, by decide, (a_mem 65 (by decide +kernel) (by decide +kernel))⟩
set_option maxRecDepth 100000 in
set_option maxHeartbeats 4000000 in
theorem J0_coder_7d493_ok (l : Launch) (G : aG) {t : Nat} (ht : t < 2) : aOkT l G t 0 yJ0_coder_7d493 cJ0_coder_7d493 1 (some .byte) [.ref t] (.int 0) := by
  refine aOkT.of (by decide +kernel) (Nat.le_of_ble_eq_true rfl) (fun X hX C R0 hT => ?_)
  subst hX
  show aV X G 1 0 [(0, .ref t)] [] aE 4 0 0
  refine ab_tcomp C (a_mem 341 (by decide +kernel) (by decide +kernel)) dJ0_coder_7d493_0 ?_
  refine ab_if_eq C 13 dJ0_coder_7d493_3 (by decide) (fun c => absurd c (by decide)) (fun _ => ?_)
  refine ab_aload_n C 0 rfl rfl dJ0_coder_7d493_6 ?_
  refine ab_tcoder C hT (by omega) (a_mem 1340 (by decide +kernel) (by decide +kernel)) dJ0_coder_7d493_7 ?_
  refine ab_goto C 14 dJ0_coder_7d493_10 (by decide) ?_
  exact ab_iret C R0 rfl dJ0_coder_7d493_14 ⟨rfl, rfl, rfl⟩
set_option maxRecDepth 100000 in
set_option maxHeartbeats 4000000 in
theorem J0_isLatin1_aae02_ok (l : Launch) (G : aG) {t : Nat} (ht : t < 2) : aOkT l G t 0 yJ0_isLatin1_aae02 cJ0_isLatin1_aae02 1 (some .boolean) [.ref t] (.int 1) := by
  refine aOkT.of (by decide +kernel) (Nat.le_of_ble_eq_true rfl) (fun X hX C R0 hT => ?_)
  subst hX
  show aV X G 1 0 [(0, .ref t)] [] aE 4 0 0
  refine ab_tcomp C (a_mem 341 (by decide +kernel) (by decide +kernel)) dJ0_isLatin1_aae02_0 ?_
  refine ab_if_eq C 17 dJ0_isLatin1_aae02_3 (by decide) (fun c => absurd c (by decide)) (fun _ => ?_)
  refine ab_aload_n C 0 rfl rfl dJ0_isLatin1_aae02_6 ?_
  refine ab_tcoder C hT (by omega) (a_mem 1340 (by decide +kernel) (by decide +kernel)) dJ0_isLatin1_aae02_7 ?_
  refine ab_if_ne C 17 dJ0_isLatin1_aae02_10 (by decide) (fun c => absurd rfl c) (fun _ => ?_)
  refine ab_iconst (v := (1 : Int32)) C dJ0_isLatin1_aae02_13 (by decide) ?_
  refine ab_goto C 18 dJ0_isLatin1_aae02_14 (by decide) ?_
  exact ab_iret C R0 rfl dJ0_isLatin1_aae02_18 ⟨rfl, rfl, rfl⟩
theorem a_shr0 {t : Nat} (ht : t < 2) : Int32.ofNat (a_bt t).length >>> ((0 : Int32) &&& 31) = Int32.ofNat (a_bt t).length := by
  rcases (show t = 0 ∨ t = 1 by omega) with rfl | rfl <;> decide
set_option maxRecDepth 100000 in
set_option maxHeartbeats 4000000 in
theorem J0_length_8abf5_ok (l : Launch) (G : aG) {t : Nat} (ht : t < 2) : aOkT l G t 1 yJ0_length_8abf5 cJ0_length_8abf5 1 (some .int) [.ref t] (.int (Int32.ofNat (a_bt t).length)) := by
  refine aOkT.of (by decide +kernel) (Nat.le_of_ble_eq_true rfl) (fun X hX C R0 hT => ?_)
  subst hX
  show aV X G 1 0 [(0, .ref t)] [] aE 4 0 0
  refine ab_aload_n C 0 rfl rfl dJ0_length_8abf5_0 ?_
  refine ab_tvalue C hT (by omega) (a_mem 1341 (by decide +kernel) (by decide +kernel)) dJ0_length_8abf5_1 ?_
  refine ab_tlen C hT dJ0_length_8abf5_4 ?_
  refine ab_aload_n C 0 rfl rfl dJ0_length_8abf5_5 ?_
  refine ab_tV (st := [.int (Int32.ofNat (a_bt t).length)]) C hT (by omega) [] (J0_coder_7d493_ok (xl X) G ht) rfl rfl rfl (a_mem 347 (by decide +kernel) (by decide +kernel)) (a_mem 348 (by decide +kernel) (by decide +kernel)) (a_mem 349 (by decide +kernel) (by decide +kernel)) lc_J0_coder_7d493 (by decide) ⟨Nat.zero_le _, Nat.zero_le _⟩ (Nat.le_of_ble_eq_true rfl) dJ0_length_8abf5_6 ?_
  refine ab_ishr C dJ0_length_8abf5_9 ?_
  rw [a_shr0 ht]
  exact ab_iret C R0 rfl dJ0_length_8abf5_10 ⟨rfl, rfl, rfl⟩
set_option maxRecDepth 100000 in
set_option maxHeartbeats 4000000 in
theorem J1_indexOfChar_4cfef_ok (l : Launch) (G : aG) {t : Nat} (ht : t < 2) (c : Int32) : aOkT l G t 0 yJ1_indexOfChar_4cfef cJ1_indexOfChar_4cfef 6 (some .int) [.ref 3, .int c, .int 0, .int (Int32.ofNat (a_bt t).length)] (.int (a_idx c.toInt8.toInt32 (a_bt t) 0)) := by
  refine aOkT.of (by decide +kernel) (Nat.le_of_ble_eq_true rfl) (fun X hX C R0 hT => ?_)
  subst hX
  show aV X G 6 0 [(0, .ref 3), (1, .int c), (2, .int 0), (3, .int (Int32.ofNat (a_bt t).length))] [] aE 4 0 0
  have hlen : (a_bt t).length < 2 ^ 31 := by rcases (show t = 0 ∨ t = 1 by omega) with rfl | rfl <;> decide
  refine ab_iload_n C 1 rfl rfl dJ1_indexOfChar_4cfef_0 ?_
  refine ab_i2b C dJ1_indexOfChar_4cfef_1 ?_
  refine ab_istore (lv' := [(4, .int c.toInt8.toInt32), (0, .ref 3), (1, .int c), (2, .int 0), (3, .int (Int32.ofNat (a_bt t).length))]) C dJ1_indexOfChar_4cfef_2 (by decide) rfl ?_
  refine ab_iload_n C 3 rfl rfl dJ1_indexOfChar_4cfef_4 ?_
  refine ab_istore (lv' := [(5, .int 0), (4, .int c.toInt8.toInt32), (0, .ref 3), (1, .int c), (2, .int 0), (3, .int (Int32.ofNat (a_bt t).length))]) C dJ1_indexOfChar_4cfef_5 (by decide) rfl ?_
  have L7 : ∀ (b : List Int32) (j : Nat), (a_bt t).drop j = b → j ≤ (a_bt t).length → a_idx c.toInt8.toInt32 b (nI j) = a_idx c.toInt8.toInt32 (a_bt t) 0 → aV X G 6 7 [(5, .int (nI j)), (4, .int c.toInt8.toInt32), (0, .ref 3), (1, .int c), (2, .int 0), (3, .int (Int32.ofNat (a_bt t).length))] [] aE 4 0 0 := by
    intro b
    induction b with
    | nil =>
      intro j hj hle hv
      have hjl : (a_bt t).length ≤ j := by
        have := congrArg List.length hj
        rw [List.length_drop, List.length_nil] at this
        omega
      have e : j = (a_bt t).length := by omega
      refine ab_iload C 0 rfl dJ1_indexOfChar_4cfef_7 ?_
      refine ab_iload_n C 5 rfl rfl dJ1_indexOfChar_4cfef_9 ?_
      refine ab_icmp_ge C 31 dJ1_indexOfChar_4cfef_10 (by decide) (fun _ => ?_) (fun q => absurd (by rw [e]; exact nI_le (Nat.le_refl _) (by omega)) q)
      refine ab_iconst (v := (-1 : Int32)) C dJ1_indexOfChar_4cfef_31 (by decide) ?_
      exact ab_iret C R0 rfl dJ1_indexOfChar_4cfef_32 ⟨by rw [← hv]; rfl, rfl, rfl⟩
    | cons x b ih =>
      intro j hj hle hv
      have hlt : j < (a_bt t).length := by
        have := congrArg List.length hj
        rw [List.length_drop, List.length_cons] at this
        omega
      have hx : (a_bt t).getD (nI j).toNatClampNeg 0 = x := by
        rw [nI_clamp (by omega), List.getD_eq_getElem?_getD]
        have := congrArg (fun l => l[0]?) hj
        simp only [List.getElem?_drop, Nat.add_zero, List.getElem?_cons_zero] at this
        rw [this]; rfl
      have hj' : (a_bt t).drop (j + 1) = b := by
        rw [← List.drop_drop, hj]; rfl
      refine ab_iload C 0 rfl dJ1_indexOfChar_4cfef_7 ?_
      refine ab_iload_n C 5 rfl rfl dJ1_indexOfChar_4cfef_9 ?_
      refine ab_icmp_ge C 31 dJ1_indexOfChar_4cfef_10 (by decide) (fun q => absurd q (nI_ge hlt (by omega))) (fun _ => ?_)
      refine ab_aload_n C 2 rfl rfl dJ1_indexOfChar_4cfef_13 ?_
      refine ab_iload C 0 rfl dJ1_indexOfChar_4cfef_14 ?_
      refine ab_tld C hT (vp_in_nI hlt (by omega)) hx dJ1_indexOfChar_4cfef_16 ?_
      refine ab_iload C 1 rfl dJ1_indexOfChar_4cfef_17 ?_
      refine ab_icmp_ne C 25 dJ1_indexOfChar_4cfef_19 (by decide) (fun q => ?_) (fun q => ?_)
      · refine ab_iinc (v := nI (j + 1)) (lv' := [(5, .int (nI (j + 1))), (4, .int c.toInt8.toInt32), (0, .ref 3), (1, .int c), (2, .int 0), (3, .int (Int32.ofNat (a_bt t).length))]) C 0 rfl dJ1_indexOfChar_4cfef_25 (by rw [← nI_1 j]; rfl) (by decide) rfl ?_
        refine ab_goto C 7 dJ1_indexOfChar_4cfef_28 (by decide) ?_
        refine ih (j + 1) hj' hlt ?_
        rw [a_idx, if_neg q, nI_1] at hv
        exact hv
      · refine ab_iload C 0 rfl dJ1_indexOfChar_4cfef_22 ?_
        rw [a_idx, if_pos q] at hv
        exact ab_iret C R0 rfl dJ1_indexOfChar_4cfef_24 ⟨by rw [hv], rfl, rfl⟩
  exact L7 (a_bt t) 0 rfl (Nat.zero_le _) rfl
theorem a_min_self (x : Int32) : a_min x x = x := by unfold a_min; split <;> rfl
set_option maxRecDepth 100000 in
set_option maxHeartbeats 4000000 in
theorem J1_indexOf_4cfef_ok (l : Launch) (G : aG) {t : Nat} (ht : t < 2) (c : Int32) : aOkT l G t 2 yJ1_indexOf_4cfef cJ1_indexOf_4cfef 4 (some .int) [.ref 3, .int c, .int 0, .int (Int32.ofNat (a_bt t).length)] (.int (tIx t c)) := by
  refine aOkT.of (by decide +kernel) (Nat.le_of_ble_eq_true rfl) (fun X hX C R0 hT => ?_)
  subst hX
  show aV X G 4 0 [(0, .ref 3), (1, .int c), (2, .int 0), (3, .int (Int32.ofNat (a_bt t).length))] [] aE 4 0 0
  have hpos : (0 : Int32) < Int32.ofNat (a_bt t).length := by rcases (show t = 0 ∨ t = 1 by omega) with rfl | rfl <;> decide
  refine ab_iload_n C 1 rfl rfl dJ1_indexOf_4cfef_0 ?_
  refine ab_cSR (v := .int (J1_canEncode_9a6ad c)) (st := []) C ⟨Or.inl (a_mem 354 (by decide +kernel) (by decide +kernel)), lc_J1_canEncode_9a6ad, (a_mem 355 (by decide +kernel) (by decide +kernel))⟩ (J1_canEncode_9a6ad_ok (xl X) (r := J1_canEncode_9a6ad c) rfl) rfl rfl (by decide) ⟨Nat.zero_le _, Nat.zero_le _⟩ (Nat.le_of_ble_eq_true rfl) dJ1_indexOf_4cfef_1 ?_
  refine ab_if_ne C 9 dJ1_indexOf_4cfef_4 (by decide) (fun q => ?_) (fun q => ?_)
  · refine ab_iload_n C 2 rfl rfl dJ1_indexOf_4cfef_9 ?_
    refine ab_iconst (v := (0 : Int32)) C dJ1_indexOf_4cfef_10 (by decide) ?_
    refine ab_mmax C (own := RJ1) (a_mem 357 (by decide +kernel) (by decide +kernel)) (by decide) ⟨Nat.zero_le _, Nat.zero_le _⟩ (Nat.le_of_ble_eq_true rfl) dJ1_indexOf_4cfef_11 ?_
    show aV X G 4 14 [(0, .ref 3), (1, .int c), (2, .int 0), (3, .int (Int32.ofNat (a_bt t).length))] [.int 0] aE 4 0 0
    refine ab_istore_n (lv' := [(2, .int 0), (0, .ref 3), (1, .int c), (3, .int (Int32.ofNat (a_bt t).length))]) C dJ1_indexOf_4cfef_14 rfl (by decide) rfl ?_
    refine ab_iload_n C 3 rfl rfl dJ1_indexOf_4cfef_15 ?_
    refine ab_aload_n C 1 rfl rfl dJ1_indexOf_4cfef_16 ?_
    refine ab_tlen C hT dJ1_indexOf_4cfef_17 ?_
    refine ab_mmin C (own := RJ1) (a_mem 358 (by decide +kernel) (by decide +kernel)) (by decide) ⟨Nat.zero_le _, Nat.zero_le _⟩ (Nat.le_of_ble_eq_true rfl) dJ1_indexOf_4cfef_18 ?_
    rw [a_min_self]
    refine ab_istore_n (lv' := [(3, .int (Int32.ofNat (a_bt t).length)), (2, .int 0), (0, .ref 3), (1, .int c)]) C dJ1_indexOf_4cfef_21 rfl (by decide) rfl ?_
    refine ab_iload_n C 1 rfl rfl dJ1_indexOf_4cfef_22 ?_
    refine ab_iload_n C 0 rfl rfl dJ1_indexOf_4cfef_23 ?_
    refine ab_icmp_lt C 29 dJ1_indexOf_4cfef_24 (by decide) (fun _ => ?_) (fun q2 => absurd hpos q2)
    refine ab_aload_n C 2 rfl rfl dJ1_indexOf_4cfef_29 ?_
    refine ab_iload_n C 3 rfl rfl dJ1_indexOf_4cfef_30 ?_
    refine ab_iload_n C 1 rfl rfl dJ1_indexOf_4cfef_31 ?_
    refine ab_iload_n C 0 rfl rfl dJ1_indexOf_4cfef_32 ?_
    refine ab_tS (st := []) C hT (J1_indexOfChar_4cfef_ok (xl X) G ht c) rfl rfl (a_mem 361 (by decide +kernel) (by decide +kernel)) (a_mem 362 (by decide +kernel) (by decide +kernel)) lc_J1_indexOfChar_4cfef (by decide) ⟨Nat.zero_le _, Nat.zero_le _⟩ (Nat.le_of_ble_eq_true rfl) dJ1_indexOf_4cfef_33 ?_
    exact ab_iret C R0 rfl dJ1_indexOf_4cfef_36 ⟨by unfold tIx; rw [if_neg q], rfl, rfl⟩
  · refine ab_iconst (v := (-1 : Int32)) C dJ1_indexOf_4cfef_7 (by decide) ?_
    exact ab_iret C R0 rfl dJ1_indexOf_4cfef_8 ⟨by unfold tIx; rw [if_pos q], rfl, rfl⟩
set_option maxRecDepth 100000 in
set_option maxHeartbeats 4000000 in
theorem J0_indexOf_7cf53_ok (l : Launch) (G : aG) {t : Nat} (ht : t < 2) (c : Int32) : aOkT l G t 3 yJ0_indexOf_7cf53 cJ0_indexOf_7cf53 3 (some .int) [.ref t, .int c, .int 0] (.int (tIx t c)) := by
  refine aOkT.of (by decide +kernel) (Nat.le_of_ble_eq_true rfl) (fun X hX C R0 hT => ?_)
  subst hX
  show aV X G 3 0 [(0, .ref t), (1, .int c), (2, .int 0)] [] aE 4 0 0
  refine ab_aload_n C 0 rfl rfl dJ0_indexOf_7cf53_0 ?_
  refine ab_tV (st := []) C hT (by omega) [] (J0_isLatin1_aae02_ok (xl X) G ht) rfl rfl rfl (a_mem 337 (by decide +kernel) (by decide +kernel)) (a_mem 338 (by decide +kernel) (by decide +kernel)) (a_mem 339 (by decide +kernel) (by decide +kernel)) lc_J0_isLatin1_aae02 (by decide) ⟨Nat.zero_le _, Nat.zero_le _⟩ (Nat.le_of_ble_eq_true rfl) dJ0_indexOf_7cf53_1 ?_
  refine ab_if_eq C 23 dJ0_indexOf_7cf53_4 (by decide) (fun q => absurd q (by decide)) (fun _ => ?_)
  refine ab_aload_n C 0 rfl rfl dJ0_indexOf_7cf53_7 ?_
  refine ab_tvalue C hT (by omega) (a_mem 1341 (by decide +kernel) (by decide +kernel)) dJ0_indexOf_7cf53_8 ?_
  refine ab_iload_n C 1 rfl rfl dJ0_indexOf_7cf53_11 ?_
  refine ab_iload_n C 2 rfl rfl dJ0_indexOf_7cf53_12 ?_
  refine ab_aload_n C 0 rfl rfl dJ0_indexOf_7cf53_13 ?_
  refine ab_tV (st := [.int 0, .int c, .ref 3]) C hT (by omega) [] (J0_length_8abf5_ok (xl X) G ht) rfl rfl rfl (a_mem 343 (by decide +kernel) (by decide +kernel)) (a_mem 344 (by decide +kernel) (by decide +kernel)) (a_mem 345 (by decide +kernel) (by decide +kernel)) lc_J0_length_8abf5 (by decide) ⟨Nat.zero_le _, Nat.zero_le _⟩ (Nat.le_of_ble_eq_true rfl) dJ0_indexOf_7cf53_14 ?_
  refine ab_tS (st := []) C hT (J1_indexOf_4cfef_ok (xl X) G ht c) rfl rfl (a_mem 351 (by decide +kernel) (by decide +kernel)) (a_mem 352 (by decide +kernel) (by decide +kernel)) lc_J1_indexOf_4cfef (by decide) ⟨Nat.zero_le _, Nat.zero_le _⟩ (Nat.le_of_ble_eq_true rfl) dJ0_indexOf_7cf53_17 ?_
  refine ab_goto C 36 dJ0_indexOf_7cf53_20 (by decide) ?_
  exact ab_iret C R0 rfl dJ0_indexOf_7cf53_36 ⟨rfl, rfl, rfl⟩
set_option maxRecDepth 100000 in
set_option maxHeartbeats 4000000 in
theorem J0_indexOf_0f7a4_ok (l : Launch) (G : aG) {t : Nat} (ht : t < 2) (c : Int32) : aOkT l G t 4 yJ0_indexOf_0f7a4 cJ0_indexOf_0f7a4 2 (some .int) [.ref t, .int c] (.int (tIx t c)) := by
  refine aOkT.of (by decide +kernel) (Nat.le_of_ble_eq_true rfl) (fun X hX C R0 hT => ?_)
  subst hX
  show aV X G 2 0 [(0, .ref t), (1, .int c)] [] aE 4 0 0
  refine ab_aload_n C 0 rfl rfl dJ0_indexOf_0f7a4_0 ?_
  refine ab_iload_n C 1 rfl rfl dJ0_indexOf_0f7a4_1 ?_
  refine ab_iconst (v := (0 : Int32)) C dJ0_indexOf_0f7a4_2 (by decide) ?_
  refine ab_tV (st := []) C hT (by omega) [.int c, .int 0] (J0_indexOf_7cf53_ok (xl X) G ht c) rfl rfl rfl (a_mem 333 (by decide +kernel) (by decide +kernel)) (a_mem 334 (by decide +kernel) (by decide +kernel)) (a_mem 335 (by decide +kernel) (by decide +kernel)) lc_J0_indexOf_7cf53 (by decide) ⟨Nat.zero_le _, Nat.zero_le _⟩ (Nat.le_of_ble_eq_true rfl) dJ0_indexOf_0f7a4_3 ?_
  exact ab_iret C R0 rfl dJ0_indexOf_0f7a4_6 ⟨rfl, rfl, rfl⟩
/-- what a call of indexOf over one of the texts leaves: all cells as they were -/
theorem ab_text {X : aX} {G : aG} {cc : ByteArray} {nL d MC MS pc t : Nat} {lv : List (Nat × Value)} {st : List Value} {h : aH} {nx k n : Nat} {c : Int32} (C : aC X G cc nL d MC MS RX7) (ht : t < 2) (hdep : 5 ≤ d) (hmc : k ≤ MC ∧ n ≤ MS) (hw : (st.map fun v => v.category).sum ≤ 8) (hd : decode cc pc = .ok (.invokevirtual 51, 3)) (kk : aV X G nL (pc + 3) lv (.int (tIx t c) :: st) h nx k n) : aV X G nL pc lv (.int c :: .ref t :: st) h nx k n := by
  intro H locs ls P S cl
  have hts := C.2.2.2.2.1
  obtain ⟨hKa, hKn, hKl, hK4, hKs⟩ := C.2.2.2.2.2.1
  obtain ⟨l1, l2, l3, l4, ⟨adV, l5⟩, l6⟩ := hKl
  have hsz : G.2.2.1 + 4 ≤ H.size := Nat.le_trans hKs.1 S.1
  obtain ⟨t1, t2, t3, t4⟩ := l5.1 t ht
  have nlow : ∀ q, ¬ a_low G q → q < G.2.2.1 + 4 := fun q z => Nat.not_le.mp z
  have hV : adV t < G.2.2.1 + 4 := by
    obtain ⟨cell, -, -, -, -, -, -, z⟩ := t4
    exact nlow _ z
  -- another base: all cells that are there lie below it
  have hG2 : ∃ G2 : aG, G2 = ((G.1, G.2.1, H.size - 4, fun j => if j = 3 then adV t else G.2.2.2 j) : aG) := ⟨_, rfl⟩
  obtain ⟨G2, eG⟩ := hG2
  have r0 : ∀ j, j < 3 → G2.2.2.2 j = G.2.2.2 j := fun j hj => by rw [eG]; show (if j = 3 then _ else _) = _; rw [if_neg (by omega)]
  have r3 : G2.2.2.2 3 = adV t := by rw [eG]; rfl
  have lowB : ∀ q, a_low G2 q ↔ H.size ≤ q := fun q => by rw [eG]; show H.size - 4 + 4 ≤ q ↔ _; omega
  have nar : ∀ q, a_low G2 q → a_low G q := fun q z => by have := (lowB q).mp z; show G.2.2.1 + 4 ≤ q; omega
  have hk : ∀ {U : State}, U.heap = H → ∀ a : Nat, a < (xs X).heap.size → ¬ a_low G a → U.heap[a]? = (xs X).heap[a]? := fun hU a g1 g2 => by rw [hU]; exact S.2.1 a g1 g2
  have start : ∀ U : State, U.heap = H → (xs X).WarmedH U.vm → a_P G2 aE 4 U.heap ∧ a_K G2 U ∧ aTx G2 t U := by
    intro U hU hW
    have al := hW.alike
    refine ⟨⟨by rw [hU, eG]; show H.size = H.size - 4 + 4; omega, fun j e he => by cases he⟩, ⟨by rw [eG]; exact va_K.moved al hKa, hKn.warm hW, ⟨?_, ?_, ?_, ?_, ⟨adV, ?_⟩, ?_⟩, ?_, ?_, hKs.2.1.moved al, hKs.2.2.moved al⟩, ?_, ?_, ?_, ?_⟩
    · rw [r0 2 (by omega)]; exact ((l1.moved al).kept (hk hU)).narrow nar
    · rw [r0 2 (by omega)]; exact ((l2.moved al).kept (hk hU)).narrow nar
    · rw [r0 0 (by omega)]; exact vk_R.warm hW l3
    · rw [r0 1 (by omega)]; exact vk_R.warm hW l4
    · have := ((l5.moved al).kept (hk hU)).narrow nar
      refine ⟨fun i hi => ?_, fun i j hi hj e => this.2 i j hi hj (by rw [← r0 i (by omega), ← r0 j (by omega)]; exact e)⟩
      rw [r0 i (by omega)]
      exact this.1 i hi
    · exact ((l6.moved al).kept (hk hU)).narrow nar
    · intro j hj
      have e4 : G2.2.2.1 + 4 = H.size := by rw [eG]; show H.size - 4 + 4 = _; omega
      rw [e4]
      by_cases hj3 : j = 3
      · subst hj3; rw [r3]; omega
      · rw [r0 j (by omega)]; have := hK4 j hj; omega
    · rw [hU, eG]; show H.size - 4 + 4 ≤ _; omega
    · rw [r0 t (by omega)]; exact ((t2.moved al).kept (hk hU)).narrow nar
    · rw [r0 t (by omega), r3]; exact ((t3.moved al).kept (hk hU)).narrow nar
    · rw [r3]
      have := ((t4.moved al).kept (hk hU)).narrow nar
      have e5 : ([5, 6] : List Nat).getD t 0 = (a_bt t).length := by rcases (show t = 0 ∨ t = 1 by omega) with rfl | rfl <;> rfl
      rw [e5] at this
      exact this
    · rw [r0 t (by omega)]; exact ((t1.moved al).kept (hk hU)).narrow nar
  have ok := J0_indexOf_0f7a4_ok (xl X) G2 ht c
  unfold aOkT at ok
  have er : a_ev G (.ref t) = .ref (G.2.2.2 t) := a_low4 (by omega)
  have er2 : ((Value.ref t :: [.int c] : List Value).map (a_ev G2)) = [Value.ref (G.2.2.2 t), .int c] := by
    show [a_ev G2 (.ref t), _] = _
    rw [a_low4 (by omega), r0 t (by omega)]; rfl
  rw [er2] at ok
  have blind : FrameBlind (fun w U => w = ([Value.ref (G.2.2.2 t), .int c] : List Value).toArray ∧ a_P G2 aE 4 U.heap ∧ a_K G2 U ∧ aTx G2 t U) := by
    intro a U g mk q
    obtain ⟨q0, q1, q2, q3⟩ := q
    obtain ⟨z0, z1, z2⟩ := a_calling (G := G2) (as := [.ref t, .int c]) (h := aE) (nx0 := 4) a U g mk ⟨by rw [er2]; exact q0, q1, q2⟩
    exact ⟨q0, z1, z2, q3.1.moved (Vm.Alike.refl U.vm), q3.2.1.moved (Vm.Alike.refl U.vm), q3.2.2.1.moved (Vm.Alike.refl U.vm), q3.2.2.2.moved (Vm.Alike.refl U.vm)⟩
  have rc : ∃ cell : Cell, H[G.2.2.2 t]? = some cell ∧ cell.vm.isStatics = false ∧ (xs X).vm.findClass "java/lang/String" = some cell.cls := by
    obtain ⟨cell, h1, h2, h3, -⟩ := t1.kept S.2.1
    exact ⟨cell, h1, h2, h3⟩
  rw [List.map_cons, List.map_cons, er]
  have hr := va_runV (C := "java/lang/String") (As := [.int c]) (rest := st.map (a_ev G)) (cells := k) (slots := n) (locs := locs) (l := xl X) (p := xp X) (e := xe X) (R := xR X) (s := xs X) (m := xm X) (args := xa X) (below := xb X) (meth := xt X) (c := xc X) (H := H) (g := F0 (xm X) pc ls (.int c :: .ref (G.2.2.2 t) :: st.map (a_ev G))) ⟨C.1, C.2.1, C.2.2.1, C.2.2.2.1, hts⟩ ok (cwV 1 hts (a_goodc (a_mem 329 (by decide +kernel) (by decide +kernel)) (a_goodc (a_mem 330 (by decide +kernel) (by decide +kernel)) (a_goodc (a_mem 331 (by decide +kernel) (by decide +kernel)) (a_goodc (a_mem 64 (by decide +kernel) (by decide +kernel)) (a_goodc (a_mem 332 (by decide +kernel) (by decide +kernel)) a_good))))) rfl rfl rfl ⟨rfl, by decide +kernel, by decide +kernel, by decide +kernel⟩ ⟨by show 4 + 1 ≤ _; exact Nat.le_trans hdep C.2.2.2.2.2.2.1, by show 8 + (2 + 11) + 60 * 4 ≤ _; have := C.2.2.2.2.2.2.2.1; omega⟩) ⟨blind, rc, fun U hU hW => ⟨rfl, start U hU hW⟩⟩ rfl rfl cl.1 rfl (lv_room (by rw [a_cats]; exact hw)) hd ⟨Nat.le_trans hmc.1 C.2.2.2.2.2.2.2.2.1, Nat.le_trans hmc.2 C.2.2.2.2.2.2.2.2.2⟩
  intro T hT Y
  obtain ⟨v, st₀, t', T', L, h0, Y', hL, e1, e2, ⟨⟨v', h1, nx1, hv, hp, hPt⟩, hz, hkk⟩, go⟩ := hr T hT Y
  obtain ⟨rfl, rfl, rfl⟩ := hp
  cases hv
  rw [h0] at hz hkk
  rw [← e1] at hz hkk hPt
  have hsize : T'.heap.size = H.size := by rw [hPt.1, eG]; show H.size - 4 + 4 = _; omega
  have same : ∀ q : Nat, T'.heap[q]? = H[q]? := by
    intro q
    by_cases hq : q < H.size
    · exact hkk q hq (fun z => by have := (lowB q).mp z; omega)
    · rw [Array.getElem?_eq_none (by omega), Array.getElem?_eq_none (by omega)]
  have hw2 := kk T'.heap (locs ++ L) ls ⟨hsize.trans P.1, fun j e he => ⟨(P.2 j e he).1, (P.2 j e he).2.kept (same _)⟩⟩
    ⟨Nat.le_trans S.1 (by omega), fun q g1 g2 => by rw [same q]; exact S.2.1 q g1 g2, fun q hq => by
      rcases List.mem_append.mp hq with g | g
      · exact S.2.2 q g
      · exact nar _ (hL q g)⟩ cl
  obtain ⟨tt, a1, b1⟩ := hw2 T' rfl Y'
  exact ⟨tt, go tt a1, b1⟩
theorem dX7_signAmong_0 : decode cX7_signAmong 0 = .ok (.aload_n 0, 1) := by decide +kernel
theorem dX7_signAmong_1 : decode cX7_signAmong 1 = .ok (.invokevirtual 47, 3) := by decide +kernel
theorem dX7_signAmong_4 : decode cX7_signAmong 4 = .ok (.istore_n 2, 1) := by decide +kernel
theorem dX7_signAmong_5 : decode cX7_signAmong 5 = .ok (.iload_n 2, 1) := by decide +kernel
theorem dX7_signAmong_6 : decode cX7_signAmong 6 = .ok (.ifCond .ge 7, 3) := by decide +kernel
theorem dX7_signAmong_9 : decode cX7_signAmong 9 = .ok (.iconst (-1), 1) := by decide +kernel
theorem dX7_signAmong_10 : decode cX7_signAmong 10 = .ok (.goto 9, 3) := by decide +kernel
theorem dX7_signAmong_13 : decode cX7_signAmong 13 = .ok (.aload_n 1, 1) := by decide +kernel
theorem dX7_signAmong_14 : decode cX7_signAmong 14 = .ok (.iload_n 2, 1) := by decide +kernel
theorem dX7_signAmong_15 : decode cX7_signAmong 15 = .ok (.i2c, 1) := by decide +kernel
theorem dX7_signAmong_16 : decode cX7_signAmong 16 = .ok (.invokevirtual 51, 3) := by decide +kernel
theorem dX7_signAmong_19 : decode cX7_signAmong 19 = .ok (.ireturn, 1) := by decide +kernel
theorem X7_sgn_ok (l : Launch) {h : aH} {nx : Nat} {a0 : Nat} {S0 : Rec} (t : Nat) (ht : t < 2) (hB0 : X7_at h a0 S0) {r : Int32} (hF : a_sgn t S0 = some r) : aOk l 8 0 0 yX7_signAmong cX7_signAmong 3 (some .int) [.ref a0, .ref t] h nx (aRd (.int r) h nx) := by
  refine aOk.of (by decide +kernel) (Nat.le_of_ble_eq_true rfl) (fun X G hX C R0 _ => ?_)
  subst hX
  show aV X G 3 0 [(0, .ref a0), (1, .ref t)] [] h nx 0 0
  rw [a_sgn] at hF
  refine ab_aload_n C 0 rfl rfl dX7_signAmong_0 ?_
  obtain ⟨v1, hxv1, hF⟩ := Option.bind_eq_some_iff.mp hF
  refine ab_cVR (v := .int v1) (st := []) C lm_X7_47 (X7_sign_ok (xl X) hB0 (r := v1) hxv1) [] rfl hB0.1 rfl rfl rfl (by decide) ⟨Nat.zero_le _, Nat.zero_le _⟩ (Nat.le_of_ble_eq_true rfl) dX7_signAmong_1 ?_
  refine ab_istore_n (lv' := [(2, .int v1), (0, .ref a0), (1, .ref t)]) C dX7_signAmong_4 rfl (by decide) rfl ?_
  refine ab_iload_n C 0 rfl rfl dX7_signAmong_5 ?_
  refine ab_if_ge C 13 dX7_signAmong_6 (by decide) (fun q => ?_) (fun q => ?_)
  · replace hF := (if_neg (Int32.not_lt.mpr q)).symm.trans hF
    obtain rfl := Option.some.inj hF
    refine ab_aload_n C 2 rfl rfl dX7_signAmong_13 ?_
    refine ab_iload_n C 0 rfl rfl dX7_signAmong_14 ?_
    refine ab_i2c C dX7_signAmong_15 ?_
    refine ab_text (st := []) C ht (by decide) ⟨Nat.zero_le _, Nat.zero_le _⟩ (Nat.le_of_ble_eq_true rfl) dX7_signAmong_16 ?_
    exact ab_iret C R0 rfl dX7_signAmong_19 ⟨rfl, rfl, rfl⟩
  · replace hF := (if_pos (Int32.not_le.mp q)).symm.trans hF
    obtain rfl := Option.some.inj hF
    refine ab_iconst (v := (-1 : Int32)) C dX7_signAmong_9 (by decide) ?_
    refine ab_goto C 19 dX7_signAmong_10 (by decide) ?_
    exact ab_iret C R0 rfl dX7_signAmong_19 ⟨rfl, rfl, rfl⟩
theorem X7_signAmong_0_ok (l : Launch) {h : aH} {nx : Nat} {a0 : Nat} {S0 : Rec} (hB0 : X7_at h a0 S0) {r : Int32} (hF : X7_signAmong_0 S0 = some r) : aOk l 8 0 0 yX7_signAmong cX7_signAmong 3 (some .int) [.ref a0, .ref 0] h nx (aRd (.int r) h nx) := X7_sgn_ok l 0 (by decide) hB0 hF
theorem X7_signAmong_1_ok (l : Launch) {h : aH} {nx : Nat} {a0 : Nat} {S0 : Rec} (hB0 : X7_at h a0 S0) {r : Int32} (hF : X7_signAmong_1 S0 = some r) : aOk l 8 0 0 yX7_signAmong cX7_signAmong 3 (some .int) [.ref a0, .ref 1] h nx (aRd (.int r) h nx) := X7_sgn_ok l 1 (by decide) hB0 hF
