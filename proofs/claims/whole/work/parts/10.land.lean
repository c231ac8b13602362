/-! printed by a program from the bytecode: what each method answers, as numbers, and that it answers so -/
theorem dX2_stands_0 : decode cX2_stands 0 = .ok (.aload_n 0, 1) := by decide +kernel
theorem dX2_stands_1 : decode cX2_stands 1 = .ok (.getfield 34, 3) := by decide +kernel
theorem dX2_stands_4 : decode cX2_stands 4 = .ok (.ifCond .le 7, 3) := by decide +kernel
theorem dX2_stands_7 : decode cX2_stands 7 = .ok (.iconst 1, 1) := by decide +kernel
theorem dX2_stands_8 : decode cX2_stands 8 = .ok (.goto 4, 3) := by decide +kernel
theorem dX2_stands_11 : decode cX2_stands 11 = .ok (.iconst 0, 1) := by decide +kernel
theorem dX2_stands_12 : decode cX2_stands 12 = .ok (.ireturn, 1) := by decide +kernel
def X2_stands (S0 : Rec) : Int32 :=
  if (S0.1 0) ≤ 0 then
    (0 : Int32)
  else
    (1 : Int32)
set_option maxRecDepth 100000 in
set_option maxHeartbeats 4000000 in
theorem X2_stands_ok (l : Launch) {h : aH} {nx : Nat} {a0 : Nat} {S0 : Rec} (hB0 : X2_at h a0 S0) {r : Int32} (hF : X2_stands S0 = r) : aOk l 0 0 0 yX2_stands cX2_stands 1 (some .boolean) [.ref a0] h nx (aRd (.int r) h nx) := by
  refine aOk.of (by decide +kernel) (Nat.le_of_ble_eq_true rfl) (fun X G hX C R0 _ => ?_)
  subst hX
  show aV X G 1 0 [(0, .ref a0)] [] h nx 0 0
  rw [X2_stands] at hF
  refine ab_aload_n C 0 rfl rfl dX2_stands_0 ?_
  refine ab_g2 (v := .int (S0.1 0)) C lf_X2_34 hB0.1 rfl dX2_stands_1 ?_
  refine ab_if_le C 11 dX2_stands_4 (by decide) (fun c1 => ?_) (fun c1 => ?_)
  · replace hF := (if_pos c1).symm.trans hF
    refine ab_iconst (v := (0 : Int32)) C dX2_stands_11 (by decide) ?_
    obtain rfl := hF
    exact ab_iret C R0 rfl dX2_stands_12 ⟨rfl, rfl, rfl⟩
  · replace hF := (if_neg c1).symm.trans hF
    refine ab_iconst (v := (1 : Int32)) C dX2_stands_7 (by decide) ?_
    refine ab_goto C 12 dX2_stands_8 (by decide) ?_
    obtain rfl := hF
    exact ab_iret C R0 rfl dX2_stands_12 ⟨rfl, rfl, rfl⟩
theorem X2_stands_n {S0 : Rec} : narrow .boolean (.int (X2_stands S0)) = .int (X2_stands S0) := by
  unfold X2_stands
  repeat' split
  all_goals first | rfl | exact X9_in_n
theorem dX2_hasHolder_0 : decode cX2_hasHolder 0 = .ok (.iload_n 1, 1) := by decide +kernel
theorem dX2_hasHolder_1 : decode cX2_hasHolder 1 = .ok (.ifCond .lt 21, 3) := by decide +kernel
theorem dX2_hasHolder_4 : decode cX2_hasHolder 4 = .ok (.iload_n 1, 1) := by decide +kernel
theorem dX2_hasHolder_5 : decode cX2_hasHolder 5 = .ok (.aload_n 0, 1) := by decide +kernel
theorem dX2_hasHolder_6 : decode cX2_hasHolder 6 = .ok (.getfield 34, 3) := by decide +kernel
theorem dX2_hasHolder_9 : decode cX2_hasHolder 9 = .ok (.if_icmp .ge 13, 3) := by decide +kernel
theorem dX2_hasHolder_12 : decode cX2_hasHolder 12 = .ok (.iload_n 1, 1) := by decide +kernel
theorem dX2_hasHolder_13 : decode cX2_hasHolder 13 = .ok (.bipush 6, 2) := by decide +kernel
theorem dX2_hasHolder_15 : decode cX2_hasHolder 15 = .ok (.if_icmp .ge 7, 3) := by decide +kernel
theorem dX2_hasHolder_18 : decode cX2_hasHolder 18 = .ok (.iconst 1, 1) := by decide +kernel
theorem dX2_hasHolder_19 : decode cX2_hasHolder 19 = .ok (.goto 4, 3) := by decide +kernel
theorem dX2_hasHolder_22 : decode cX2_hasHolder 22 = .ok (.iconst 0, 1) := by decide +kernel
theorem dX2_hasHolder_23 : decode cX2_hasHolder 23 = .ok (.ireturn, 1) := by decide +kernel
def X2_hasHolder (S0 : Rec) (x1 : Int32) : Int32 :=
  if x1 < 0 then
    (0 : Int32)
  else
    if (S0.1 0) ≤ x1 then
      (0 : Int32)
    else
      if (6 : Int32) ≤ x1 then
        (0 : Int32)
      else
        (1 : Int32)
set_option maxRecDepth 100000 in
set_option maxHeartbeats 4000000 in
theorem X2_hasHolder_ok (l : Launch) {h : aH} {nx : Nat} {a0 : Nat} {S0 : Rec} {x1 : Int32} (hB0 : X2_at h a0 S0) {r : Int32} (hF : X2_hasHolder S0 x1 = r) : aOk l 0 0 0 yX2_hasHolder cX2_hasHolder 2 (some .boolean) [.ref a0, .int x1] h nx (aRd (.int r) h nx) := by
  refine aOk.of (by decide +kernel) (Nat.le_of_ble_eq_true rfl) (fun X G hX C R0 _ => ?_)
  subst hX
  show aV X G 2 0 [(0, .ref a0), (1, .int x1)] [] h nx 0 0
  rw [X2_hasHolder] at hF
  refine ab_iload_n C 1 rfl rfl dX2_hasHolder_0 ?_
  refine ab_if_lt C 22 dX2_hasHolder_1 (by decide) (fun c1 => ?_) (fun c1 => ?_)
  · replace hF := (if_pos c1).symm.trans hF
    refine ab_iconst (v := (0 : Int32)) C dX2_hasHolder_22 (by decide) ?_
    obtain rfl := hF
    exact ab_iret C R0 rfl dX2_hasHolder_23 ⟨rfl, rfl, rfl⟩
  · replace hF := (if_neg c1).symm.trans hF
    refine ab_iload_n C 1 rfl rfl dX2_hasHolder_4 ?_
    refine ab_aload_n C 0 rfl rfl dX2_hasHolder_5 ?_
    refine ab_g2 (v := .int (S0.1 0)) C lf_X2_34 hB0.1 rfl dX2_hasHolder_6 ?_
    refine ab_icmp_ge C 22 dX2_hasHolder_9 (by decide) (fun c2 => ?_) (fun c2 => ?_)
    · replace hF := (if_pos c2).symm.trans hF
      refine ab_iconst (v := (0 : Int32)) C dX2_hasHolder_22 (by decide) ?_
      obtain rfl := hF
      exact ab_iret C R0 rfl dX2_hasHolder_23 ⟨rfl, rfl, rfl⟩
    · replace hF := (if_neg c2).symm.trans hF
      refine ab_iload_n C 1 rfl rfl dX2_hasHolder_12 ?_
      refine ab_bipush (v := (6 : Int32)) C dX2_hasHolder_13 (by decide) ?_
      refine ab_icmp_ge C 22 dX2_hasHolder_15 (by decide) (fun c3 => ?_) (fun c3 => ?_)
      · replace hF := (if_pos c3).symm.trans hF
        refine ab_iconst (v := (0 : Int32)) C dX2_hasHolder_22 (by decide) ?_
        obtain rfl := hF
        exact ab_iret C R0 rfl dX2_hasHolder_23 ⟨rfl, rfl, rfl⟩
      · replace hF := (if_neg c3).symm.trans hF
        refine ab_iconst (v := (1 : Int32)) C dX2_hasHolder_18 (by decide) ?_
        refine ab_goto C 23 dX2_hasHolder_19 (by decide) ?_
        obtain rfl := hF
        exact ab_iret C R0 rfl dX2_hasHolder_23 ⟨rfl, rfl, rfl⟩
theorem X2_hasHolder_n {S0 : Rec} {x1 : Int32} : narrow .boolean (.int (X2_hasHolder S0 x1)) = .int (X2_hasHolder S0 x1) := by
  unfold X2_hasHolder
  repeat' split
  all_goals first | rfl | exact X9_in_n
theorem dX2_hasWord_0 : decode cX2_hasWord 0 = .ok (.iload_n 1, 1) := by decide +kernel
theorem dX2_hasWord_1 : decode cX2_hasWord 1 = .ok (.ifCond .lt 20, 3) := by decide +kernel
theorem dX2_hasWord_4 : decode cX2_hasWord 4 = .ok (.iload_n 1, 1) := by decide +kernel
theorem dX2_hasWord_5 : decode cX2_hasWord 5 = .ok (.aload_n 0, 1) := by decide +kernel
theorem dX2_hasWord_6 : decode cX2_hasWord 6 = .ok (.getfield 38, 3) := by decide +kernel
theorem dX2_hasWord_9 : decode cX2_hasWord 9 = .ok (.if_icmp .ge 12, 3) := by decide +kernel
theorem dX2_hasWord_12 : decode cX2_hasWord 12 = .ok (.iload_n 1, 1) := by decide +kernel
theorem dX2_hasWord_13 : decode cX2_hasWord 13 = .ok (.iconst 4, 1) := by decide +kernel
theorem dX2_hasWord_14 : decode cX2_hasWord 14 = .ok (.if_icmp .ge 7, 3) := by decide +kernel
theorem dX2_hasWord_17 : decode cX2_hasWord 17 = .ok (.iconst 1, 1) := by decide +kernel
theorem dX2_hasWord_18 : decode cX2_hasWord 18 = .ok (.goto 4, 3) := by decide +kernel
theorem dX2_hasWord_21 : decode cX2_hasWord 21 = .ok (.iconst 0, 1) := by decide +kernel
theorem dX2_hasWord_22 : decode cX2_hasWord 22 = .ok (.ireturn, 1) := by decide +kernel
def X2_hasWord (S0 : Rec) (x1 : Int32) : Int32 :=
  if x1 < 0 then
    (0 : Int32)
  else
    if (S0.1 4) ≤ x1 then
      (0 : Int32)
    else
      if (4 : Int32) ≤ x1 then
        (0 : Int32)
      else
        (1 : Int32)
set_option maxRecDepth 100000 in
set_option maxHeartbeats 4000000 in
theorem X2_hasWord_ok (l : Launch) {h : aH} {nx : Nat} {a0 : Nat} {S0 : Rec} {x1 : Int32} (hB0 : X2_at h a0 S0) {r : Int32} (hF : X2_hasWord S0 x1 = r) : aOk l 0 0 0 yX2_hasWord cX2_hasWord 2 (some .boolean) [.ref a0, .int x1] h nx (aRd (.int r) h nx) := by
  refine aOk.of (by decide +kernel) (Nat.le_of_ble_eq_true rfl) (fun X G hX C R0 _ => ?_)
  subst hX
  show aV X G 2 0 [(0, .ref a0), (1, .int x1)] [] h nx 0 0
  rw [X2_hasWord] at hF
  refine ab_iload_n C 1 rfl rfl dX2_hasWord_0 ?_
  refine ab_if_lt C 21 dX2_hasWord_1 (by decide) (fun c1 => ?_) (fun c1 => ?_)
  · replace hF := (if_pos c1).symm.trans hF
    refine ab_iconst (v := (0 : Int32)) C dX2_hasWord_21 (by decide) ?_
    obtain rfl := hF
    exact ab_iret C R0 rfl dX2_hasWord_22 ⟨rfl, rfl, rfl⟩
  · replace hF := (if_neg c1).symm.trans hF
    refine ab_iload_n C 1 rfl rfl dX2_hasWord_4 ?_
    refine ab_aload_n C 0 rfl rfl dX2_hasWord_5 ?_
    refine ab_g2 (v := .int (S0.1 4)) C lf_X2_38 hB0.1 rfl dX2_hasWord_6 ?_
    refine ab_icmp_ge C 21 dX2_hasWord_9 (by decide) (fun c2 => ?_) (fun c2 => ?_)
    · replace hF := (if_pos c2).symm.trans hF
      refine ab_iconst (v := (0 : Int32)) C dX2_hasWord_21 (by decide) ?_
      obtain rfl := hF
      exact ab_iret C R0 rfl dX2_hasWord_22 ⟨rfl, rfl, rfl⟩
    · replace hF := (if_neg c2).symm.trans hF
      refine ab_iload_n C 1 rfl rfl dX2_hasWord_12 ?_
      refine ab_iconst (v := (4 : Int32)) C dX2_hasWord_13 (by decide) ?_
      refine ab_icmp_ge C 21 dX2_hasWord_14 (by decide) (fun c3 => ?_) (fun c3 => ?_)
      · replace hF := (if_pos c3).symm.trans hF
        refine ab_iconst (v := (0 : Int32)) C dX2_hasWord_21 (by decide) ?_
        obtain rfl := hF
        exact ab_iret C R0 rfl dX2_hasWord_22 ⟨rfl, rfl, rfl⟩
      · replace hF := (if_neg c3).symm.trans hF
        refine ab_iconst (v := (1 : Int32)) C dX2_hasWord_17 (by decide) ?_
        refine ab_goto C 22 dX2_hasWord_18 (by decide) ?_
        obtain rfl := hF
        exact ab_iret C R0 rfl dX2_hasWord_22 ⟨rfl, rfl, rfl⟩
theorem X2_hasWord_n {S0 : Rec} {x1 : Int32} : narrow .boolean (.int (X2_hasWord S0 x1)) = .int (X2_hasWord S0 x1) := by
  unfold X2_hasWord
  repeat' split
  all_goals first | rfl | exact X9_in_n
theorem dX2_everyCell_0 : decode cX2_everyCell 0 = .ok (.lconst 0, 1) := by decide +kernel
theorem dX2_everyCell_1 : decode cX2_everyCell 1 = .ok (.lstore_n 1, 1) := by decide +kernel
theorem dX2_everyCell_2 : decode cX2_everyCell 2 = .ok (.iconst 0, 1) := by decide +kernel
theorem dX2_everyCell_3 : decode cX2_everyCell 3 = .ok (.istore_n 3, 1) := by decide +kernel
theorem dX2_everyCell_4 : decode cX2_everyCell 4 = .ok (.iload_n 3, 1) := by decide +kernel
theorem dX2_everyCell_5 : decode cX2_everyCell 5 = .ok (.bipush 6, 2) := by decide +kernel
theorem dX2_everyCell_7 : decode cX2_everyCell 7 = .ok (.if_icmp .ge 18, 3) := by decide +kernel
theorem dX2_everyCell_10 : decode cX2_everyCell 10 = .ok (.lload_n 1, 1) := by decide +kernel
theorem dX2_everyCell_11 : decode cX2_everyCell 11 = .ok (.aload_n 0, 1) := by decide +kernel
theorem dX2_everyCell_12 : decode cX2_everyCell 12 = .ok (.getfield 24, 3) := by decide +kernel
theorem dX2_everyCell_15 : decode cX2_everyCell 15 = .ok (.iload_n 3, 1) := by decide +kernel
theorem dX2_everyCell_16 : decode cX2_everyCell 16 = .ok (.laload, 1) := by decide +kernel
theorem dX2_everyCell_17 : decode cX2_everyCell 17 = .ok (.lor, 1) := by decide +kernel
theorem dX2_everyCell_18 : decode cX2_everyCell 18 = .ok (.lstore_n 1, 1) := by decide +kernel
theorem dX2_everyCell_19 : decode cX2_everyCell 19 = .ok (.iinc 3 1, 3) := by decide +kernel
theorem dX2_everyCell_22 : decode cX2_everyCell 22 = .ok (.goto (-18), 3) := by decide +kernel
theorem dX2_everyCell_25 : decode cX2_everyCell 25 = .ok (.lload_n 1, 1) := by decide +kernel
theorem dX2_everyCell_26 : decode cX2_everyCell 26 = .ok (.lreturn, 1) := by decide +kernel
def X2_everyCell_L4 (S0 : Rec) : Nat → Int64 → Int32 → Option (Int64)
  | 0, _, _ => none
  | n4 + 1, v1, v2 => if (6 : Int32) ≤ v2 then
      some v1
    else
      (rdL (S0.2.2 9) 6 v2).bind fun v4 =>
      aLet (v1 ||| v4) fun v5 =>
      aLet (v2 + (1 : Int32)) fun v6 =>
      X2_everyCell_L4 S0 n4 v5 v6
def X2_everyCell (S0 : Rec) : Option (Int64) :=
  (X2_everyCell_L4 S0 aFu (0 : Int64) (0 : Int32)).bind fun e7 =>
  some e7
set_option maxRecDepth 100000 in
set_option maxHeartbeats 4000000 in
theorem X2_everyCell_ok (l : Launch) {h : aH} {nx : Nat} {a0 : Nat} {S0 : Rec} (hB0 : X2_at h a0 S0) {r : Int64} (hF : X2_everyCell S0 = some r) : aOk l 0 0 0 yX2_everyCell cX2_everyCell 4 (some .long) [.ref a0] h nx (aRd (.long r) h nx) := by
  refine aOk.of (by decide +kernel) (Nat.le_of_ble_eq_true rfl) (fun X G hX C R0 _ => ?_)
  subst hX
  show aV X G 4 0 [(0, .ref a0)] [] h nx 0 0
  rw [X2_everyCell] at hF
  refine ab_lconst (v := (0 : Int64)) C dX2_everyCell_0 (by decide) ?_
  refine ab_lstore_n (lv' := [(1, .long (0 : Int64)), (0, .ref a0)]) C dX2_everyCell_1 rfl ⟨by decide, by decide⟩ rfl ?_
  refine ab_iconst (v := (0 : Int32)) C dX2_everyCell_2 (by decide) ?_
  refine ab_istore_n (lv' := [(3, .int (0 : Int32)), (1, .long (0 : Int64)), (0, .ref a0)]) C dX2_everyCell_3 rfl (by decide) rfl ?_
  have L4 : ∀ (n4 : Nat) (v1 : Int64) (v2 : Int32), ∀ (res4 : Int64), X2_everyCell_L4 S0 n4 v1 v2 = some res4 → (aV X G 4 25 [(1, .long res4)] [] h nx 0 0) → aV X G 4 4 [(0, .ref a0), (1, .long v1), (3, .int v2)] [] h nx 0 0 := by
    intro n4
    induction n4 with
    | zero => intro v1 v2 res4 hF KX4; cases (show (none : Option (Int64)) = some res4 from hF)
    | succ n4 ih4 =>
      intro v1 v2 res4 hF KX4
      rw [X2_everyCell_L4] at hF
      refine ab_iload_n C 2 rfl rfl dX2_everyCell_4 ?_
      refine ab_bipush (v := (6 : Int32)) C dX2_everyCell_5 (by decide) ?_
      refine ab_icmp_ge C 25 dX2_everyCell_7 (by decide) (fun c3 => ?_) (fun c3 => ?_)
      · replace hF := (if_pos c3).symm.trans hF
        obtain rfl := Option.some.inj hF
        refine aV.sub (lv' := [(1, .long v1)]) [1] rfl ?_
        exact KX4
      · replace hF := (if_neg c3).symm.trans hF
        refine ab_lload_n C 1 rfl rfl dX2_everyCell_10 ?_
        refine ab_aload_n C 0 rfl rfl dX2_everyCell_11 ?_
        refine ab_g2 (v := .ref (a0 + 5)) C lf_X2_24 hB0.1 rfl dX2_everyCell_12 ?_
        refine ab_iload_n C 2 rfl rfl dX2_everyCell_15 ?_
        obtain ⟨v4, hxv4, hF⟩ := Option.bind_eq_some_iff.mp hF
        refine ab_lald C (X2_r9 hB0) hxv4 dX2_everyCell_16 ?_
        refine ab_lor C dX2_everyCell_17 ?_
        refine ab_topl (fun v5 qv5 => ?_)
        replace hF := aLet_e hF v5 qv5
        refine ab_lstore_n (lv' := [(1, .long v5), (0, .ref a0), (3, .int v2)]) C dX2_everyCell_18 rfl ⟨by decide, by decide⟩ rfl ?_
        obtain ⟨v6, qv6⟩ : ∃ y : Int32, y = (v2 + (1 : Int32)) := ⟨_, rfl⟩
        replace hF := aLet_e hF v6 qv6
        refine ab_iinc (lv' := [(3, .int v6), (1, .long v5), (0, .ref a0)]) C 2 rfl dX2_everyCell_19 (by rw [qv6]; rfl) (by decide) rfl ?_
        refine ab_goto C 4 dX2_everyCell_22 (by decide) ?_
        refine aV.sub (lv' := [(0, .ref a0), (1, .long v5), (3, .int v6)]) [2, 1, 0] rfl ?_
        exact ih4 v5 v6 res4 hF KX4
  refine aV.sub (lv' := [(0, .ref a0), (1, .long (0 : Int64)), (3, .int (0 : Int32))]) [2, 1, 0] rfl ?_
  obtain ⟨e7, he7, hF⟩ := Option.bind_eq_some_iff.mp hF
  refine L4 aFu (0 : Int64) (0 : Int32) e7 he7 ?_
  refine ab_lload_n C 0 rfl rfl dX2_everyCell_25 ?_
  obtain rfl := Option.some.inj hF
  exact ab_lret C R0 dX2_everyCell_26 ⟨rfl, rfl, rfl⟩
theorem dX2_hasCell_0 : decode cX2_hasCell 0 = .ok (.iload_n 1, 1) := by decide +kernel
theorem dX2_hasCell_1 : decode cX2_hasCell 1 = .ok (.ifCond .lt 26, 3) := by decide +kernel
theorem dX2_hasCell_4 : decode cX2_hasCell 4 = .ok (.iload_n 1, 1) := by decide +kernel
theorem dX2_hasCell_5 : decode cX2_hasCell 5 = .ok (.bipush 64, 2) := by decide +kernel
theorem dX2_hasCell_7 : decode cX2_hasCell 7 = .ok (.if_icmp .ge 20, 3) := by decide +kernel
theorem dX2_hasCell_10 : decode cX2_hasCell 10 = .ok (.aload_n 0, 1) := by decide +kernel
theorem dX2_hasCell_11 : decode cX2_hasCell 11 = .ok (.invokevirtual 41, 3) := by decide +kernel
theorem dX2_hasCell_14 : decode cX2_hasCell 14 = .ok (.iload_n 1, 1) := by decide +kernel
theorem dX2_hasCell_15 : decode cX2_hasCell 15 = .ok (.lushr, 1) := by decide +kernel
theorem dX2_hasCell_16 : decode cX2_hasCell 16 = .ok (.lconst 1, 1) := by decide +kernel
theorem dX2_hasCell_17 : decode cX2_hasCell 17 = .ok (.land, 1) := by decide +kernel
theorem dX2_hasCell_18 : decode cX2_hasCell 18 = .ok (.lconst 0, 1) := by decide +kernel
theorem dX2_hasCell_19 : decode cX2_hasCell 19 = .ok (.lcmp, 1) := by decide +kernel
theorem dX2_hasCell_20 : decode cX2_hasCell 20 = .ok (.ifCond .eq 7, 3) := by decide +kernel
theorem dX2_hasCell_23 : decode cX2_hasCell 23 = .ok (.iconst 1, 1) := by decide +kernel
theorem dX2_hasCell_24 : decode cX2_hasCell 24 = .ok (.goto 4, 3) := by decide +kernel
theorem dX2_hasCell_27 : decode cX2_hasCell 27 = .ok (.iconst 0, 1) := by decide +kernel
theorem dX2_hasCell_28 : decode cX2_hasCell 28 = .ok (.ireturn, 1) := by decide +kernel
def X2_hasCell (S0 : Rec) (x1 : Int32) : Option (Int32) :=
  if x1 < 0 then
    some (0 : Int32)
  else
    if (64 : Int32) ≤ x1 then
      some (0 : Int32)
    else
      (X2_everyCell S0).bind fun v3 =>
      if (lg_cmp (((v3.toUInt64 >>> (x1.toInt64.toUInt64 &&& Int64.toUInt64 63)).toInt64) &&& (1 : Int64)) (0 : Int64)) = 0 then
        some (0 : Int32)
      else
        some (1 : Int32)
set_option maxRecDepth 100000 in
set_option maxHeartbeats 4000000 in
theorem X2_hasCell_ok (l : Launch) {h : aH} {nx : Nat} {a0 : Nat} {S0 : Rec} {x1 : Int32} (hB0 : X2_at h a0 S0) {r : Int32} (hF : X2_hasCell S0 x1 = some r) : aOk l 1 0 0 yX2_hasCell cX2_hasCell 2 (some .boolean) [.ref a0, .int x1] h nx (aRd (.int r) h nx) := by
  refine aOk.of (by decide +kernel) (Nat.le_of_ble_eq_true rfl) (fun X G hX C R0 _ => ?_)
  subst hX
  show aV X G 2 0 [(0, .ref a0), (1, .int x1)] [] h nx 0 0
  rw [X2_hasCell] at hF
  refine ab_iload_n C 1 rfl rfl dX2_hasCell_0 ?_
  refine ab_if_lt C 27 dX2_hasCell_1 (by decide) (fun c1 => ?_) (fun c1 => ?_)
  · replace hF := (if_pos c1).symm.trans hF
    refine ab_iconst (v := (0 : Int32)) C dX2_hasCell_27 (by decide) ?_
    obtain rfl := Option.some.inj hF
    exact ab_iret C R0 rfl dX2_hasCell_28 ⟨rfl, rfl, rfl⟩
  · replace hF := (if_neg c1).symm.trans hF
    refine ab_iload_n C 1 rfl rfl dX2_hasCell_4 ?_
    refine ab_bipush (v := (64 : Int32)) C dX2_hasCell_5 (by decide) ?_
    refine ab_icmp_ge C 27 dX2_hasCell_7 (by decide) (fun c2 => ?_) (fun c2 => ?_)
    · replace hF := (if_pos c2).symm.trans hF
      refine ab_iconst (v := (0 : Int32)) C dX2_hasCell_27 (by decide) ?_
      obtain rfl := Option.some.inj hF
      exact ab_iret C R0 rfl dX2_hasCell_28 ⟨rfl, rfl, rfl⟩
    · replace hF := (if_neg c2).symm.trans hF
      refine ab_aload_n C 0 rfl rfl dX2_hasCell_10 ?_
      obtain ⟨v3, hxv3, hF⟩ := Option.bind_eq_some_iff.mp hF
      refine ab_cVR (v := .long v3) (st := []) C lm_X2_41 (X2_everyCell_ok (xl X) hB0 (r := v3) hxv3) [] rfl hB0.1 rfl rfl rfl (by decide) ⟨Nat.zero_le _, Nat.zero_le _⟩ (Nat.le_of_ble_eq_true rfl) dX2_hasCell_11 ?_
      refine ab_iload_n C 1 rfl rfl dX2_hasCell_14 ?_
      refine ab_lushr C dX2_hasCell_15 ?_
      refine ab_lconst (v := (1 : Int64)) C dX2_hasCell_16 (by decide) ?_
      refine ab_land C dX2_hasCell_17 ?_
      refine ab_lconst (v := (0 : Int64)) C dX2_hasCell_18 (by decide) ?_
      refine ab_lcmp C dX2_hasCell_19 ?_
      refine ab_if_eq C 27 dX2_hasCell_20 (by decide) (fun c4 => ?_) (fun c4 => ?_)
      · replace hF := (if_pos c4).symm.trans hF
        refine ab_iconst (v := (0 : Int32)) C dX2_hasCell_27 (by decide) ?_
        obtain rfl := Option.some.inj hF
        exact ab_iret C R0 rfl dX2_hasCell_28 ⟨rfl, rfl, rfl⟩
      · replace hF := (if_neg c4).symm.trans hF
        refine ab_iconst (v := (1 : Int32)) C dX2_hasCell_23 (by decide) ?_
        refine ab_goto C 28 dX2_hasCell_24 (by decide) ?_
        obtain rfl := Option.some.inj hF
        exact ab_iret C R0 rfl dX2_hasCell_28 ⟨rfl, rfl, rfl⟩
theorem dX2_cells_0 : decode cX2_cells 0 = .ok (.aload_n 0, 1) := by decide +kernel
theorem dX2_cells_1 : decode cX2_cells 1 = .ok (.getfield 45, 3) := by decide +kernel
theorem dX2_cells_4 : decode cX2_cells 4 = .ok (.aload_n 0, 1) := by decide +kernel
theorem dX2_cells_5 : decode cX2_cells 5 = .ok (.getfield 48, 3) := by decide +kernel
theorem dX2_cells_8 : decode cX2_cells 8 = .ok (.imul, 1) := by decide +kernel
theorem dX2_cells_9 : decode cX2_cells 9 = .ok (.ireturn, 1) := by decide +kernel
def X2_cells (S0 : Rec) : Int32 :=
  ((S0.1 2) * (S0.1 3))
set_option maxRecDepth 100000 in
set_option maxHeartbeats 4000000 in
theorem X2_cells_ok (l : Launch) {h : aH} {nx : Nat} {a0 : Nat} {S0 : Rec} (hB0 : X2_at h a0 S0) {r : Int32} (hF : X2_cells S0 = r) : aOk l 0 0 0 yX2_cells cX2_cells 1 (some .int) [.ref a0] h nx (aRd (.int r) h nx) := by
  refine aOk.of (by decide +kernel) (Nat.le_of_ble_eq_true rfl) (fun X G hX C R0 _ => ?_)
  subst hX
  show aV X G 1 0 [(0, .ref a0)] [] h nx 0 0
  rw [X2_cells] at hF
  refine ab_aload_n C 0 rfl rfl dX2_cells_0 ?_
  refine ab_g2 (v := .int (S0.1 2)) C lf_X2_45 hB0.1 rfl dX2_cells_1 ?_
  refine ab_aload_n C 0 rfl rfl dX2_cells_4 ?_
  refine ab_g2 (v := .int (S0.1 3)) C lf_X2_48 hB0.1 rfl dX2_cells_5 ?_
  refine ab_imul C dX2_cells_8 ?_
  obtain rfl := hF
  exact ab_iret C R0 rfl dX2_cells_9 ⟨rfl, rfl, rfl⟩
theorem dX2_clear_0 : decode cX2_clear 0 = .ok (.aload_n 0, 1) := by decide +kernel
theorem dX2_clear_1 : decode cX2_clear 1 = .ok (.iconst 0, 1) := by decide +kernel
theorem dX2_clear_2 : decode cX2_clear 2 = .ok (.putfield 34, 3) := by decide +kernel
theorem dX2_clear_5 : decode cX2_clear 5 = .ok (.aload_n 0, 1) := by decide +kernel
theorem dX2_clear_6 : decode cX2_clear 6 = .ok (.iconst 0, 1) := by decide +kernel
theorem dX2_clear_7 : decode cX2_clear 7 = .ok (.putfield 45, 3) := by decide +kernel
theorem dX2_clear_10 : decode cX2_clear 10 = .ok (.aload_n 0, 1) := by decide +kernel
theorem dX2_clear_11 : decode cX2_clear 11 = .ok (.iconst 0, 1) := by decide +kernel
theorem dX2_clear_12 : decode cX2_clear 12 = .ok (.putfield 48, 3) := by decide +kernel
theorem dX2_clear_15 : decode cX2_clear 15 = .ok (.aload_n 0, 1) := by decide +kernel
theorem dX2_clear_16 : decode cX2_clear 16 = .ok (.iconst 0, 1) := by decide +kernel
theorem dX2_clear_17 : decode cX2_clear 17 = .ok (.putfield 38, 3) := by decide +kernel
theorem dX2_clear_20 : decode cX2_clear 20 = .ok (.aload_n 0, 1) := by decide +kernel
theorem dX2_clear_21 : decode cX2_clear 21 = .ok (.iconst 0, 1) := by decide +kernel
theorem dX2_clear_22 : decode cX2_clear 22 = .ok (.putfield 51, 3) := by decide +kernel
theorem dX2_clear_25 : decode cX2_clear 25 = .ok (.iconst 0, 1) := by decide +kernel
theorem dX2_clear_26 : decode cX2_clear 26 = .ok (.istore_n 1, 1) := by decide +kernel
theorem dX2_clear_27 : decode cX2_clear 27 = .ok (.iload_n 1, 1) := by decide +kernel
theorem dX2_clear_28 : decode cX2_clear 28 = .ok (.bipush 6, 2) := by decide +kernel
theorem dX2_clear_30 : decode cX2_clear 30 = .ok (.if_icmp .ge 16, 3) := by decide +kernel
theorem dX2_clear_33 : decode cX2_clear 33 = .ok (.aload_n 0, 1) := by decide +kernel
theorem dX2_clear_34 : decode cX2_clear 34 = .ok (.getfield 24, 3) := by decide +kernel
theorem dX2_clear_37 : decode cX2_clear 37 = .ok (.iload_n 1, 1) := by decide +kernel
theorem dX2_clear_38 : decode cX2_clear 38 = .ok (.lconst 0, 1) := by decide +kernel
theorem dX2_clear_39 : decode cX2_clear 39 = .ok (.lastore, 1) := by decide +kernel
theorem dX2_clear_40 : decode cX2_clear 40 = .ok (.iinc 1 1, 3) := by decide +kernel
theorem dX2_clear_43 : decode cX2_clear 43 = .ok (.goto (-16), 3) := by decide +kernel
theorem dX2_clear_46 : decode cX2_clear 46 = .ok (.iconst 0, 1) := by decide +kernel
theorem dX2_clear_47 : decode cX2_clear 47 = .ok (.istore_n 1, 1) := by decide +kernel
theorem dX2_clear_48 : decode cX2_clear 48 = .ok (.iload_n 1, 1) := by decide +kernel
theorem dX2_clear_49 : decode cX2_clear 49 = .ok (.bipush 6, 2) := by decide +kernel
theorem dX2_clear_51 : decode cX2_clear 51 = .ok (.if_icmp .gt 16, 3) := by decide +kernel
theorem dX2_clear_54 : decode cX2_clear 54 = .ok (.aload_n 0, 1) := by decide +kernel
theorem dX2_clear_55 : decode cX2_clear 55 = .ok (.getfield 28, 3) := by decide +kernel
theorem dX2_clear_58 : decode cX2_clear 58 = .ok (.iload_n 1, 1) := by decide +kernel
theorem dX2_clear_59 : decode cX2_clear 59 = .ok (.lconst 0, 1) := by decide +kernel
theorem dX2_clear_60 : decode cX2_clear 60 = .ok (.lastore, 1) := by decide +kernel
theorem dX2_clear_61 : decode cX2_clear 61 = .ok (.iinc 1 1, 3) := by decide +kernel
theorem dX2_clear_64 : decode cX2_clear 64 = .ok (.goto (-16), 3) := by decide +kernel
theorem dX2_clear_67 : decode cX2_clear 67 = .ok (.return_, 1) := by decide +kernel
def X2_clear_L27 : Nat → Int32 → Rec → Option (Rec)
  | 0, _, _ => none
  | n27 + 1, v6, Z7 => if (6 : Int32) ≤ v6 then
      some Z7
    else
      (wrL (Z7.2.2 9) 6 v6 (0 : Int64)).bind fun w10 =>
      aLet (v6 + (1 : Int32)) fun v12 =>
      X2_clear_L27 n27 v12 (sL Z7 9 w10)
def X2_clear_L48 : Nat → Int32 → Rec → Option (Rec)
  | 0, _, _ => none
  | n48 + 1, v15, Z16 => if (6 : Int32) < v15 then
      some Z16
    else
      (wrL (Z16.2.2 10) 7 v15 (0 : Int64)).bind fun w19 =>
      aLet (v15 + (1 : Int32)) fun v21 =>
      X2_clear_L48 n48 v21 (sL Z16 10 w19)
def X2_clear (S0 : Rec) : Option (Rec) :=
  (X2_clear_L27 aFu (0 : Int32) (sI (sI (sI (sI (sI S0 0 (0 : Int32)) 2 (0 : Int32)) 3 (0 : Int32)) 4 (0 : Int32)) 8 (0 : Int32))).bind fun e13 =>
  (X2_clear_L48 aFu (0 : Int32) e13).bind fun e22 =>
  some e22
set_option maxRecDepth 100000 in
set_option maxHeartbeats 4000000 in
theorem X2_clear_ok (l : Launch) {h : aH} {nx : Nat} {a0 : Nat} {S0 : Rec} (hB0 : X2_at h a0 S0) {r : Rec} (hF : X2_clear S0 = some r) : aOk l 0 0 0 yX2_clear cX2_clear 2 none [.ref a0] h nx (aMt none nx (fun h1 => X2_at h1 a0 r ∧ (∀ q, (q < a0 ∨ a0 + 8 ≤ q) → h1 q = h q))) := by
  refine aOk.of (by decide +kernel) (Nat.le_of_ble_eq_true rfl) (fun X G hX C R0 _ => ?_)
  subst hX
  show aV X G 2 0 [(0, .ref a0)] [] h nx 0 0
  have hFr : ∀ q, (q < a0 ∨ a0 + 8 ≤ q) → h q = h q := fun _ _ => rfl
  rw [X2_clear] at hF
  refine ab_aload_n C 0 rfl rfl dX2_clear_0 ?_
  refine ab_iconst (v := (0 : Int32)) C dX2_clear_1 (by decide) ?_
  refine ab_p2 (ty := .int) C lf_X2_34 rfl (by decide +kernel) rfl rfl (Nat.le_of_ble_eq_true rfl) hB0.1 dX2_clear_2 (fun g1 eg1 og1 => ?_)
  have hB0 : X2_at g1 a0 (sI S0 0 (0 : Int32)) := X2_p0 hB0 eg1 og1
  have hFr : ∀ q, (q < a0 ∨ a0 + 8 ≤ q) → g1 q = h q := fun q u0 => (og1 q (by omega)).trans (hFr q u0)
  refine ab_aload_n C 0 rfl rfl dX2_clear_5 ?_
  refine ab_iconst (v := (0 : Int32)) C dX2_clear_6 (by decide) ?_
  refine ab_p2 (ty := .int) C lf_X2_45 rfl (by decide +kernel) rfl rfl (Nat.le_of_ble_eq_true rfl) hB0.1 dX2_clear_7 (fun g2 eg2 og2 => ?_)
  have hB0 : X2_at g2 a0 (sI (sI S0 0 (0 : Int32)) 2 (0 : Int32)) := X2_p2 hB0 eg2 og2
  have hFr : ∀ q, (q < a0 ∨ a0 + 8 ≤ q) → g2 q = h q := fun q u0 => (og2 q (by omega)).trans (hFr q u0)
  refine ab_aload_n C 0 rfl rfl dX2_clear_10 ?_
  refine ab_iconst (v := (0 : Int32)) C dX2_clear_11 (by decide) ?_
  refine ab_p2 (ty := .int) C lf_X2_48 rfl (by decide +kernel) rfl rfl (Nat.le_of_ble_eq_true rfl) hB0.1 dX2_clear_12 (fun g3 eg3 og3 => ?_)
  have hB0 : X2_at g3 a0 (sI (sI (sI S0 0 (0 : Int32)) 2 (0 : Int32)) 3 (0 : Int32)) := X2_p3 hB0 eg3 og3
  have hFr : ∀ q, (q < a0 ∨ a0 + 8 ≤ q) → g3 q = h q := fun q u0 => (og3 q (by omega)).trans (hFr q u0)
  refine ab_aload_n C 0 rfl rfl dX2_clear_15 ?_
  refine ab_iconst (v := (0 : Int32)) C dX2_clear_16 (by decide) ?_
  refine ab_p2 (ty := .int) C lf_X2_38 rfl (by decide +kernel) rfl rfl (Nat.le_of_ble_eq_true rfl) hB0.1 dX2_clear_17 (fun g4 eg4 og4 => ?_)
  have hB0 : X2_at g4 a0 (sI (sI (sI (sI S0 0 (0 : Int32)) 2 (0 : Int32)) 3 (0 : Int32)) 4 (0 : Int32)) := X2_p4 hB0 eg4 og4
  have hFr : ∀ q, (q < a0 ∨ a0 + 8 ≤ q) → g4 q = h q := fun q u0 => (og4 q (by omega)).trans (hFr q u0)
  refine ab_aload_n C 0 rfl rfl dX2_clear_20 ?_
  refine ab_iconst (v := (0 : Int32)) C dX2_clear_21 (by decide) ?_
  refine ab_p2 (ty := .int) C lf_X2_51 rfl (by decide +kernel) rfl rfl (Nat.le_of_ble_eq_true rfl) hB0.1 dX2_clear_22 (fun g5 eg5 og5 => ?_)
  have hB0 : X2_at g5 a0 (sI (sI (sI (sI (sI S0 0 (0 : Int32)) 2 (0 : Int32)) 3 (0 : Int32)) 4 (0 : Int32)) 8 (0 : Int32)) := X2_p8 hB0 eg5 og5
  have hFr : ∀ q, (q < a0 ∨ a0 + 8 ≤ q) → g5 q = h q := fun q u0 => (og5 q (by omega)).trans (hFr q u0)
  refine ab_iconst (v := (0 : Int32)) C dX2_clear_25 (by decide) ?_
  refine ab_istore_n (lv' := [(1, .int (0 : Int32)), (0, .ref a0)]) C dX2_clear_26 rfl (by decide) rfl ?_
  have L27 : ∀ (n27 : Nat) (v6 : Int32) (Z7 : Rec) (g8 : aH), (X2_at g8 a0 Z7) → (∀ q, (q < a0 ∨ a0 + 8 ≤ q) → g8 q = h q) → ∀ (res27 : Rec), X2_clear_L27 n27 v6 Z7 = some res27 → (∀ (q9 : aH), (X2_at q9 a0 res27) → (∀ q, (q < a0 ∨ a0 + 8 ≤ q) → q9 q = h q) → aV X G 2 46 [(0, .ref a0)] [] q9 nx 0 0) → aV X G 2 27 [(0, .ref a0), (1, .int v6)] [] g8 nx 0 0 := by
    intro n27
    induction n27 with
    | zero => intro v6 Z7 g8 hB0 hFr res27 hF KX27; cases (show (none : Option (Rec)) = some res27 from hF)
    | succ n27 ih27 =>
      intro v6 Z7 g8 hB0 hFr res27 hF KX27
      rw [X2_clear_L27] at hF
      refine ab_iload_n C 1 rfl rfl dX2_clear_27 ?_
      refine ab_bipush (v := (6 : Int32)) C dX2_clear_28 (by decide) ?_
      refine ab_icmp_ge C 46 dX2_clear_30 (by decide) (fun c9 => ?_) (fun c9 => ?_)
      · replace hF := (if_pos c9).symm.trans hF
        obtain rfl := Option.some.inj hF
        refine aV.sub (lv' := [(0, .ref a0)]) [0] rfl ?_
        exact KX27 g8 hB0 hFr
      · replace hF := (if_neg c9).symm.trans hF
        refine ab_aload_n C 0 rfl rfl dX2_clear_33 ?_
        refine ab_g2 (v := .ref (a0 + 5)) C lf_X2_24 hB0.1 rfl dX2_clear_34 ?_
        refine ab_iload_n C 1 rfl rfl dX2_clear_37 ?_
        refine ab_lconst (v := (0 : Int64)) C dX2_clear_38 (by decide) ?_
        obtain ⟨w10, hxw10, hF⟩ := Option.bind_eq_some_iff.mp hF
        refine ab_last C (X2_r9 hB0) hxw10 dX2_clear_39 (fun g11 eg11 og11 => ?_)
        have hB0 : X2_at g11 a0 (sL Z7 9 w10) := X2_w9 hB0 eg11 og11
        have hFr : ∀ q, (q < a0 ∨ a0 + 8 ≤ q) → g11 q = h q := fun q u0 => (og11 q (by omega)).trans (hFr q u0)
        obtain ⟨v12, qv12⟩ : ∃ y : Int32, y = (v6 + (1 : Int32)) := ⟨_, rfl⟩
        replace hF := aLet_e hF v12 qv12
        refine ab_iinc (lv' := [(1, .int v12), (0, .ref a0)]) C 1 rfl dX2_clear_40 (by rw [qv12]; rfl) (by decide) rfl ?_
        refine ab_goto C 27 dX2_clear_43 (by decide) ?_
        refine aV.sub (lv' := [(0, .ref a0), (1, .int v12)]) [1, 0] rfl ?_
        exact ih27 v12 (sL Z7 9 w10) g11 hB0 hFr res27 hF KX27
  refine aV.sub (lv' := [(0, .ref a0), (1, .int (0 : Int32))]) [1, 0] rfl ?_
  obtain ⟨e13, he13, hF⟩ := Option.bind_eq_some_iff.mp hF
  refine L27 aFu (0 : Int32) (sI (sI (sI (sI (sI S0 0 (0 : Int32)) 2 (0 : Int32)) 3 (0 : Int32)) 4 (0 : Int32)) 8 (0 : Int32)) g5 hB0 hFr e13 he13 (fun g14 hB0 hFr => ?_)
  refine ab_iconst (v := (0 : Int32)) C dX2_clear_46 (by decide) ?_
  refine ab_istore_n (lv' := [(1, .int (0 : Int32)), (0, .ref a0)]) C dX2_clear_47 rfl (by decide) rfl ?_
  have L48 : ∀ (n48 : Nat) (v15 : Int32) (Z16 : Rec) (g17 : aH), (X2_at g17 a0 Z16) → (∀ q, (q < a0 ∨ a0 + 8 ≤ q) → g17 q = h q) → ∀ (res48 : Rec), X2_clear_L48 n48 v15 Z16 = some res48 → (∀ (q9 : aH), (X2_at q9 a0 res48) → (∀ q, (q < a0 ∨ a0 + 8 ≤ q) → q9 q = h q) → aV X G 2 67 [] [] q9 nx 0 0) → aV X G 2 48 [(0, .ref a0), (1, .int v15)] [] g17 nx 0 0 := by
    intro n48
    induction n48 with
    | zero => intro v15 Z16 g17 hB0 hFr res48 hF KX48; cases (show (none : Option (Rec)) = some res48 from hF)
    | succ n48 ih48 =>
      intro v15 Z16 g17 hB0 hFr res48 hF KX48
      rw [X2_clear_L48] at hF
      refine ab_iload_n C 1 rfl rfl dX2_clear_48 ?_
      refine ab_bipush (v := (6 : Int32)) C dX2_clear_49 (by decide) ?_
      refine ab_icmp_gt C 67 dX2_clear_51 (by decide) (fun c18 => ?_) (fun c18 => ?_)
      · replace hF := (if_pos c18).symm.trans hF
        obtain rfl := Option.some.inj hF
        refine aV.sub (lv' := []) [] rfl ?_
        exact KX48 g17 hB0 hFr
      · replace hF := (if_neg c18).symm.trans hF
        refine ab_aload_n C 0 rfl rfl dX2_clear_54 ?_
        refine ab_g2 (v := .ref (a0 + 6)) C lf_X2_28 hB0.1 rfl dX2_clear_55 ?_
        refine ab_iload_n C 1 rfl rfl dX2_clear_58 ?_
        refine ab_lconst (v := (0 : Int64)) C dX2_clear_59 (by decide) ?_
        obtain ⟨w19, hxw19, hF⟩ := Option.bind_eq_some_iff.mp hF
        refine ab_last C (X2_r10 hB0) hxw19 dX2_clear_60 (fun g20 eg20 og20 => ?_)
        have hB0 : X2_at g20 a0 (sL Z16 10 w19) := X2_w10 hB0 eg20 og20
        have hFr : ∀ q, (q < a0 ∨ a0 + 8 ≤ q) → g20 q = h q := fun q u0 => (og20 q (by omega)).trans (hFr q u0)
        obtain ⟨v21, qv21⟩ : ∃ y : Int32, y = (v15 + (1 : Int32)) := ⟨_, rfl⟩
        replace hF := aLet_e hF v21 qv21
        refine ab_iinc (lv' := [(1, .int v21), (0, .ref a0)]) C 1 rfl dX2_clear_61 (by rw [qv21]; rfl) (by decide) rfl ?_
        refine ab_goto C 48 dX2_clear_64 (by decide) ?_
        refine aV.sub (lv' := [(0, .ref a0), (1, .int v21)]) [1, 0] rfl ?_
        exact ih48 v21 (sL Z16 10 w19) g20 hB0 hFr res48 hF KX48
  refine aV.sub (lv' := [(0, .ref a0), (1, .int (0 : Int32))]) [1, 0] rfl ?_
  obtain ⟨e22, he22, hF⟩ := Option.bind_eq_some_iff.mp hF
  refine L48 aFu (0 : Int32) e13 g14 hB0 hFr e22 he22 (fun g23 hB0 hFr => ?_)
  obtain rfl := Option.some.inj hF
  exact ab_vret C R0 dX2_clear_67 ⟨rfl, rfl, hB0, hFr⟩
theorem dX2_become_0 : decode cX2_become 0 = .ok (.aload_n 0, 1) := by decide +kernel
theorem dX2_become_1 : decode cX2_become 1 = .ok (.aload_n 1, 1) := by decide +kernel
theorem dX2_become_2 : decode cX2_become 2 = .ok (.getfield 34, 3) := by decide +kernel
theorem dX2_become_5 : decode cX2_become 5 = .ok (.putfield 34, 3) := by decide +kernel
theorem dX2_become_8 : decode cX2_become 8 = .ok (.aload_n 0, 1) := by decide +kernel
theorem dX2_become_9 : decode cX2_become 9 = .ok (.aload_n 1, 1) := by decide +kernel
theorem dX2_become_10 : decode cX2_become 10 = .ok (.getfield 45, 3) := by decide +kernel
theorem dX2_become_13 : decode cX2_become 13 = .ok (.putfield 45, 3) := by decide +kernel
theorem dX2_become_16 : decode cX2_become 16 = .ok (.aload_n 0, 1) := by decide +kernel
theorem dX2_become_17 : decode cX2_become 17 = .ok (.aload_n 1, 1) := by decide +kernel
theorem dX2_become_18 : decode cX2_become 18 = .ok (.getfield 48, 3) := by decide +kernel
theorem dX2_become_21 : decode cX2_become 21 = .ok (.putfield 48, 3) := by decide +kernel
theorem dX2_become_24 : decode cX2_become 24 = .ok (.aload_n 0, 1) := by decide +kernel
theorem dX2_become_25 : decode cX2_become 25 = .ok (.aload_n 1, 1) := by decide +kernel
theorem dX2_become_26 : decode cX2_become 26 = .ok (.getfield 38, 3) := by decide +kernel
theorem dX2_become_29 : decode cX2_become 29 = .ok (.putfield 38, 3) := by decide +kernel
theorem dX2_become_32 : decode cX2_become 32 = .ok (.aload_n 0, 1) := by decide +kernel
theorem dX2_become_33 : decode cX2_become 33 = .ok (.aload_n 1, 1) := by decide +kernel
theorem dX2_become_34 : decode cX2_become 34 = .ok (.getfield 51, 3) := by decide +kernel
theorem dX2_become_37 : decode cX2_become 37 = .ok (.putfield 51, 3) := by decide +kernel
theorem dX2_become_40 : decode cX2_become 40 = .ok (.aload_n 1, 1) := by decide +kernel
theorem dX2_become_41 : decode cX2_become 41 = .ok (.getfield 9, 3) := by decide +kernel
theorem dX2_become_44 : decode cX2_become 44 = .ok (.iconst 0, 1) := by decide +kernel
theorem dX2_become_45 : decode cX2_become 45 = .ok (.aload_n 0, 1) := by decide +kernel
theorem dX2_become_46 : decode cX2_become 46 = .ok (.getfield 9, 3) := by decide +kernel
theorem dX2_become_49 : decode cX2_become 49 = .ok (.iconst 0, 1) := by decide +kernel
theorem dX2_become_50 : decode cX2_become 50 = .ok (.bipush 6, 2) := by decide +kernel
theorem dX2_become_52 : decode cX2_become 52 = .ok (.invokestatic 54, 3) := by decide +kernel
theorem dX2_become_55 : decode cX2_become 55 = .ok (.aload_n 1, 1) := by decide +kernel
theorem dX2_become_56 : decode cX2_become 56 = .ok (.getfield 15, 3) := by decide +kernel
theorem dX2_become_59 : decode cX2_become 59 = .ok (.iconst 0, 1) := by decide +kernel
theorem dX2_become_60 : decode cX2_become 60 = .ok (.aload_n 0, 1) := by decide +kernel
theorem dX2_become_61 : decode cX2_become 61 = .ok (.getfield 15, 3) := by decide +kernel
theorem dX2_become_64 : decode cX2_become 64 = .ok (.iconst 0, 1) := by decide +kernel
theorem dX2_become_65 : decode cX2_become 65 = .ok (.iconst 4, 1) := by decide +kernel
theorem dX2_become_66 : decode cX2_become 66 = .ok (.invokestatic 54, 3) := by decide +kernel
theorem dX2_become_69 : decode cX2_become 69 = .ok (.aload_n 1, 1) := by decide +kernel
theorem dX2_become_70 : decode cX2_become 70 = .ok (.getfield 18, 3) := by decide +kernel
theorem dX2_become_73 : decode cX2_become 73 = .ok (.iconst 0, 1) := by decide +kernel
theorem dX2_become_74 : decode cX2_become 74 = .ok (.aload_n 0, 1) := by decide +kernel
theorem dX2_become_75 : decode cX2_become 75 = .ok (.getfield 18, 3) := by decide +kernel
theorem dX2_become_78 : decode cX2_become 78 = .ok (.iconst 0, 1) := by decide +kernel
theorem dX2_become_79 : decode cX2_become 79 = .ok (.iconst 4, 1) := by decide +kernel
theorem dX2_become_80 : decode cX2_become 80 = .ok (.invokestatic 54, 3) := by decide +kernel
theorem dX2_become_83 : decode cX2_become 83 = .ok (.aload_n 1, 1) := by decide +kernel
theorem dX2_become_84 : decode cX2_become 84 = .ok (.getfield 21, 3) := by decide +kernel
theorem dX2_become_87 : decode cX2_become 87 = .ok (.iconst 0, 1) := by decide +kernel
theorem dX2_become_88 : decode cX2_become 88 = .ok (.aload_n 0, 1) := by decide +kernel
theorem dX2_become_89 : decode cX2_become 89 = .ok (.getfield 21, 3) := by decide +kernel
theorem dX2_become_92 : decode cX2_become 92 = .ok (.iconst 0, 1) := by decide +kernel
theorem dX2_become_93 : decode cX2_become 93 = .ok (.iconst 5, 1) := by decide +kernel
theorem dX2_become_94 : decode cX2_become 94 = .ok (.invokestatic 54, 3) := by decide +kernel
theorem dX2_become_97 : decode cX2_become 97 = .ok (.aload_n 1, 1) := by decide +kernel
theorem dX2_become_98 : decode cX2_become 98 = .ok (.getfield 24, 3) := by decide +kernel
theorem dX2_become_101 : decode cX2_become 101 = .ok (.iconst 0, 1) := by decide +kernel
theorem dX2_become_102 : decode cX2_become 102 = .ok (.aload_n 0, 1) := by decide +kernel
theorem dX2_become_103 : decode cX2_become 103 = .ok (.getfield 24, 3) := by decide +kernel
theorem dX2_become_106 : decode cX2_become 106 = .ok (.iconst 0, 1) := by decide +kernel
theorem dX2_become_107 : decode cX2_become 107 = .ok (.bipush 6, 2) := by decide +kernel
theorem dX2_become_109 : decode cX2_become 109 = .ok (.invokestatic 54, 3) := by decide +kernel
theorem dX2_become_112 : decode cX2_become 112 = .ok (.aload_n 1, 1) := by decide +kernel
theorem dX2_become_113 : decode cX2_become 113 = .ok (.getfield 28, 3) := by decide +kernel
theorem dX2_become_116 : decode cX2_become 116 = .ok (.iconst 0, 1) := by decide +kernel
theorem dX2_become_117 : decode cX2_become 117 = .ok (.aload_n 0, 1) := by decide +kernel
theorem dX2_become_118 : decode cX2_become 118 = .ok (.getfield 28, 3) := by decide +kernel
theorem dX2_become_121 : decode cX2_become 121 = .ok (.iconst 0, 1) := by decide +kernel
theorem dX2_become_122 : decode cX2_become 122 = .ok (.bipush 7, 2) := by decide +kernel
theorem dX2_become_124 : decode cX2_become 124 = .ok (.invokestatic 54, 3) := by decide +kernel
theorem dX2_become_127 : decode cX2_become 127 = .ok (.return_, 1) := by decide +kernel
def X2_become (S0 : Rec) (S1 : Rec) : Rec :=
  (sL (sL (sA (sA (sA (sA (sI (sI (sI (sI (sI S0 0 (S1.1 0)) 2 (S1.1 2)) 3 (S1.1 3)) 4 (S1.1 4)) 8 (S1.1 8)) 1 (va_cpy (S1.2.1 1) ((sI (sI (sI (sI (sI S0 0 (S1.1 0)) 2 (S1.1 2)) 3 (S1.1 3)) 4 (S1.1 4)) 8 (S1.1 8)).2.1 1) 0 0 6)) 5 (va_cpy (S1.2.1 5) ((sA (sI (sI (sI (sI (sI S0 0 (S1.1 0)) 2 (S1.1 2)) 3 (S1.1 3)) 4 (S1.1 4)) 8 (S1.1 8)) 1 (va_cpy (S1.2.1 1) ((sI (sI (sI (sI (sI S0 0 (S1.1 0)) 2 (S1.1 2)) 3 (S1.1 3)) 4 (S1.1 4)) 8 (S1.1 8)).2.1 1) 0 0 6)).2.1 5) 0 0 4)) 6 (va_cpy (S1.2.1 6) ((sA (sA (sI (sI (sI (sI (sI S0 0 (S1.1 0)) 2 (S1.1 2)) 3 (S1.1 3)) 4 (S1.1 4)) 8 (S1.1 8)) 1 (va_cpy (S1.2.1 1) ((sI (sI (sI (sI (sI S0 0 (S1.1 0)) 2 (S1.1 2)) 3 (S1.1 3)) 4 (S1.1 4)) 8 (S1.1 8)).2.1 1) 0 0 6)) 5 (va_cpy (S1.2.1 5) ((sA (sI (sI (sI (sI (sI S0 0 (S1.1 0)) 2 (S1.1 2)) 3 (S1.1 3)) 4 (S1.1 4)) 8 (S1.1 8)) 1 (va_cpy (S1.2.1 1) ((sI (sI (sI (sI (sI S0 0 (S1.1 0)) 2 (S1.1 2)) 3 (S1.1 3)) 4 (S1.1 4)) 8 (S1.1 8)).2.1 1) 0 0 6)).2.1 5) 0 0 4)).2.1 6) 0 0 4)) 7 (va_cpy (S1.2.1 7) ((sA (sA (sA (sI (sI (sI (sI (sI S0 0 (S1.1 0)) 2 (S1.1 2)) 3 (S1.1 3)) 4 (S1.1 4)) 8 (S1.1 8)) 1 (va_cpy (S1.2.1 1) ((sI (sI (sI (sI (sI S0 0 (S1.1 0)) 2 (S1.1 2)) 3 (S1.1 3)) 4 (S1.1 4)) 8 (S1.1 8)).2.1 1) 0 0 6)) 5 (va_cpy (S1.2.1 5) ((sA (sI (sI (sI (sI (sI S0 0 (S1.1 0)) 2 (S1.1 2)) 3 (S1.1 3)) 4 (S1.1 4)) 8 (S1.1 8)) 1 (va_cpy (S1.2.1 1) ((sI (sI (sI (sI (sI S0 0 (S1.1 0)) 2 (S1.1 2)) 3 (S1.1 3)) 4 (S1.1 4)) 8 (S1.1 8)).2.1 1) 0 0 6)).2.1 5) 0 0 4)) 6 (va_cpy (S1.2.1 6) ((sA (sA (sI (sI (sI (sI (sI S0 0 (S1.1 0)) 2 (S1.1 2)) 3 (S1.1 3)) 4 (S1.1 4)) 8 (S1.1 8)) 1 (va_cpy (S1.2.1 1) ((sI (sI (sI (sI (sI S0 0 (S1.1 0)) 2 (S1.1 2)) 3 (S1.1 3)) 4 (S1.1 4)) 8 (S1.1 8)).2.1 1) 0 0 6)) 5 (va_cpy (S1.2.1 5) ((sA (sI (sI (sI (sI (sI S0 0 (S1.1 0)) 2 (S1.1 2)) 3 (S1.1 3)) 4 (S1.1 4)) 8 (S1.1 8)) 1 (va_cpy (S1.2.1 1) ((sI (sI (sI (sI (sI S0 0 (S1.1 0)) 2 (S1.1 2)) 3 (S1.1 3)) 4 (S1.1 4)) 8 (S1.1 8)).2.1 1) 0 0 6)).2.1 5) 0 0 4)).2.1 6) 0 0 4)).2.1 7) 0 0 5)) 9 (va_cpy (S1.2.2 9) ((sA (sA (sA (sA (sI (sI (sI (sI (sI S0 0 (S1.1 0)) 2 (S1.1 2)) 3 (S1.1 3)) 4 (S1.1 4)) 8 (S1.1 8)) 1 (va_cpy (S1.2.1 1) ((sI (sI (sI (sI (sI S0 0 (S1.1 0)) 2 (S1.1 2)) 3 (S1.1 3)) 4 (S1.1 4)) 8 (S1.1 8)).2.1 1) 0 0 6)) 5 (va_cpy (S1.2.1 5) ((sA (sI (sI (sI (sI (sI S0 0 (S1.1 0)) 2 (S1.1 2)) 3 (S1.1 3)) 4 (S1.1 4)) 8 (S1.1 8)) 1 (va_cpy (S1.2.1 1) ((sI (sI (sI (sI (sI S0 0 (S1.1 0)) 2 (S1.1 2)) 3 (S1.1 3)) 4 (S1.1 4)) 8 (S1.1 8)).2.1 1) 0 0 6)).2.1 5) 0 0 4)) 6 (va_cpy (S1.2.1 6) ((sA (sA (sI (sI (sI (sI (sI S0 0 (S1.1 0)) 2 (S1.1 2)) 3 (S1.1 3)) 4 (S1.1 4)) 8 (S1.1 8)) 1 (va_cpy (S1.2.1 1) ((sI (sI (sI (sI (sI S0 0 (S1.1 0)) 2 (S1.1 2)) 3 (S1.1 3)) 4 (S1.1 4)) 8 (S1.1 8)).2.1 1) 0 0 6)) 5 (va_cpy (S1.2.1 5) ((sA (sI (sI (sI (sI (sI S0 0 (S1.1 0)) 2 (S1.1 2)) 3 (S1.1 3)) 4 (S1.1 4)) 8 (S1.1 8)) 1 (va_cpy (S1.2.1 1) ((sI (sI (sI (sI (sI S0 0 (S1.1 0)) 2 (S1.1 2)) 3 (S1.1 3)) 4 (S1.1 4)) 8 (S1.1 8)).2.1 1) 0 0 6)).2.1 5) 0 0 4)).2.1 6) 0 0 4)) 7 (va_cpy (S1.2.1 7) ((sA (sA (sA (sI (sI (sI (sI (sI S0 0 (S1.1 0)) 2 (S1.1 2)) 3 (S1.1 3)) 4 (S1.1 4)) 8 (S1.1 8)) 1 (va_cpy (S1.2.1 1) ((sI (sI (sI (sI (sI S0 0 (S1.1 0)) 2 (S1.1 2)) 3 (S1.1 3)) 4 (S1.1 4)) 8 (S1.1 8)).2.1 1) 0 0 6)) 5 (va_cpy (S1.2.1 5) ((sA (sI (sI (sI (sI (sI S0 0 (S1.1 0)) 2 (S1.1 2)) 3 (S1.1 3)) 4 (S1.1 4)) 8 (S1.1 8)) 1 (va_cpy (S1.2.1 1) ((sI (sI (sI (sI (sI S0 0 (S1.1 0)) 2 (S1.1 2)) 3 (S1.1 3)) 4 (S1.1 4)) 8 (S1.1 8)).2.1 1) 0 0 6)).2.1 5) 0 0 4)) 6 (va_cpy (S1.2.1 6) ((sA (sA (sI (sI (sI (sI (sI S0 0 (S1.1 0)) 2 (S1.1 2)) 3 (S1.1 3)) 4 (S1.1 4)) 8 (S1.1 8)) 1 (va_cpy (S1.2.1 1) ((sI (sI (sI (sI (sI S0 0 (S1.1 0)) 2 (S1.1 2)) 3 (S1.1 3)) 4 (S1.1 4)) 8 (S1.1 8)).2.1 1) 0 0 6)) 5 (va_cpy (S1.2.1 5) ((sA (sI (sI (sI (sI (sI S0 0 (S1.1 0)) 2 (S1.1 2)) 3 (S1.1 3)) 4 (S1.1 4)) 8 (S1.1 8)) 1 (va_cpy (S1.2.1 1) ((sI (sI (sI (sI (sI S0 0 (S1.1 0)) 2 (S1.1 2)) 3 (S1.1 3)) 4 (S1.1 4)) 8 (S1.1 8)).2.1 1) 0 0 6)).2.1 5) 0 0 4)).2.1 6) 0 0 4)).2.1 7) 0 0 5)).2.2 9) 0 0 6)) 10 (va_cpy (S1.2.2 10) ((sL (sA (sA (sA (sA (sI (sI (sI (sI (sI S0 0 (S1.1 0)) 2 (S1.1 2)) 3 (S1.1 3)) 4 (S1.1 4)) 8 (S1.1 8)) 1 (va_cpy (S1.2.1 1) ((sI (sI (sI (sI (sI S0 0 (S1.1 0)) 2 (S1.1 2)) 3 (S1.1 3)) 4 (S1.1 4)) 8 (S1.1 8)).2.1 1) 0 0 6)) 5 (va_cpy (S1.2.1 5) ((sA (sI (sI (sI (sI (sI S0 0 (S1.1 0)) 2 (S1.1 2)) 3 (S1.1 3)) 4 (S1.1 4)) 8 (S1.1 8)) 1 (va_cpy (S1.2.1 1) ((sI (sI (sI (sI (sI S0 0 (S1.1 0)) 2 (S1.1 2)) 3 (S1.1 3)) 4 (S1.1 4)) 8 (S1.1 8)).2.1 1) 0 0 6)).2.1 5) 0 0 4)) 6 (va_cpy (S1.2.1 6) ((sA (sA (sI (sI (sI (sI (sI S0 0 (S1.1 0)) 2 (S1.1 2)) 3 (S1.1 3)) 4 (S1.1 4)) 8 (S1.1 8)) 1 (va_cpy (S1.2.1 1) ((sI (sI (sI (sI (sI S0 0 (S1.1 0)) 2 (S1.1 2)) 3 (S1.1 3)) 4 (S1.1 4)) 8 (S1.1 8)).2.1 1) 0 0 6)) 5 (va_cpy (S1.2.1 5) ((sA (sI (sI (sI (sI (sI S0 0 (S1.1 0)) 2 (S1.1 2)) 3 (S1.1 3)) 4 (S1.1 4)) 8 (S1.1 8)) 1 (va_cpy (S1.2.1 1) ((sI (sI (sI (sI (sI S0 0 (S1.1 0)) 2 (S1.1 2)) 3 (S1.1 3)) 4 (S1.1 4)) 8 (S1.1 8)).2.1 1) 0 0 6)).2.1 5) 0 0 4)).2.1 6) 0 0 4)) 7 (va_cpy (S1.2.1 7) ((sA (sA (sA (sI (sI (sI (sI (sI S0 0 (S1.1 0)) 2 (S1.1 2)) 3 (S1.1 3)) 4 (S1.1 4)) 8 (S1.1 8)) 1 (va_cpy (S1.2.1 1) ((sI (sI (sI (sI (sI S0 0 (S1.1 0)) 2 (S1.1 2)) 3 (S1.1 3)) 4 (S1.1 4)) 8 (S1.1 8)).2.1 1) 0 0 6)) 5 (va_cpy (S1.2.1 5) ((sA (sI (sI (sI (sI (sI S0 0 (S1.1 0)) 2 (S1.1 2)) 3 (S1.1 3)) 4 (S1.1 4)) 8 (S1.1 8)) 1 (va_cpy (S1.2.1 1) ((sI (sI (sI (sI (sI S0 0 (S1.1 0)) 2 (S1.1 2)) 3 (S1.1 3)) 4 (S1.1 4)) 8 (S1.1 8)).2.1 1) 0 0 6)).2.1 5) 0 0 4)) 6 (va_cpy (S1.2.1 6) ((sA (sA (sI (sI (sI (sI (sI S0 0 (S1.1 0)) 2 (S1.1 2)) 3 (S1.1 3)) 4 (S1.1 4)) 8 (S1.1 8)) 1 (va_cpy (S1.2.1 1) ((sI (sI (sI (sI (sI S0 0 (S1.1 0)) 2 (S1.1 2)) 3 (S1.1 3)) 4 (S1.1 4)) 8 (S1.1 8)).2.1 1) 0 0 6)) 5 (va_cpy (S1.2.1 5) ((sA (sI (sI (sI (sI (sI S0 0 (S1.1 0)) 2 (S1.1 2)) 3 (S1.1 3)) 4 (S1.1 4)) 8 (S1.1 8)) 1 (va_cpy (S1.2.1 1) ((sI (sI (sI (sI (sI S0 0 (S1.1 0)) 2 (S1.1 2)) 3 (S1.1 3)) 4 (S1.1 4)) 8 (S1.1 8)).2.1 1) 0 0 6)).2.1 5) 0 0 4)).2.1 6) 0 0 4)).2.1 7) 0 0 5)) 9 (va_cpy (S1.2.2 9) ((sA (sA (sA (sA (sI (sI (sI (sI (sI S0 0 (S1.1 0)) 2 (S1.1 2)) 3 (S1.1 3)) 4 (S1.1 4)) 8 (S1.1 8)) 1 (va_cpy (S1.2.1 1) ((sI (sI (sI (sI (sI S0 0 (S1.1 0)) 2 (S1.1 2)) 3 (S1.1 3)) 4 (S1.1 4)) 8 (S1.1 8)).2.1 1) 0 0 6)) 5 (va_cpy (S1.2.1 5) ((sA (sI (sI (sI (sI (sI S0 0 (S1.1 0)) 2 (S1.1 2)) 3 (S1.1 3)) 4 (S1.1 4)) 8 (S1.1 8)) 1 (va_cpy (S1.2.1 1) ((sI (sI (sI (sI (sI S0 0 (S1.1 0)) 2 (S1.1 2)) 3 (S1.1 3)) 4 (S1.1 4)) 8 (S1.1 8)).2.1 1) 0 0 6)).2.1 5) 0 0 4)) 6 (va_cpy (S1.2.1 6) ((sA (sA (sI (sI (sI (sI (sI S0 0 (S1.1 0)) 2 (S1.1 2)) 3 (S1.1 3)) 4 (S1.1 4)) 8 (S1.1 8)) 1 (va_cpy (S1.2.1 1) ((sI (sI (sI (sI (sI S0 0 (S1.1 0)) 2 (S1.1 2)) 3 (S1.1 3)) 4 (S1.1 4)) 8 (S1.1 8)).2.1 1) 0 0 6)) 5 (va_cpy (S1.2.1 5) ((sA (sI (sI (sI (sI (sI S0 0 (S1.1 0)) 2 (S1.1 2)) 3 (S1.1 3)) 4 (S1.1 4)) 8 (S1.1 8)) 1 (va_cpy (S1.2.1 1) ((sI (sI (sI (sI (sI S0 0 (S1.1 0)) 2 (S1.1 2)) 3 (S1.1 3)) 4 (S1.1 4)) 8 (S1.1 8)).2.1 1) 0 0 6)).2.1 5) 0 0 4)).2.1 6) 0 0 4)) 7 (va_cpy (S1.2.1 7) ((sA (sA (sA (sI (sI (sI (sI (sI S0 0 (S1.1 0)) 2 (S1.1 2)) 3 (S1.1 3)) 4 (S1.1 4)) 8 (S1.1 8)) 1 (va_cpy (S1.2.1 1) ((sI (sI (sI (sI (sI S0 0 (S1.1 0)) 2 (S1.1 2)) 3 (S1.1 3)) 4 (S1.1 4)) 8 (S1.1 8)).2.1 1) 0 0 6)) 5 (va_cpy (S1.2.1 5) ((sA (sI (sI (sI (sI (sI S0 0 (S1.1 0)) 2 (S1.1 2)) 3 (S1.1 3)) 4 (S1.1 4)) 8 (S1.1 8)) 1 (va_cpy (S1.2.1 1) ((sI (sI (sI (sI (sI S0 0 (S1.1 0)) 2 (S1.1 2)) 3 (S1.1 3)) 4 (S1.1 4)) 8 (S1.1 8)).2.1 1) 0 0 6)).2.1 5) 0 0 4)) 6 (va_cpy (S1.2.1 6) ((sA (sA (sI (sI (sI (sI (sI S0 0 (S1.1 0)) 2 (S1.1 2)) 3 (S1.1 3)) 4 (S1.1 4)) 8 (S1.1 8)) 1 (va_cpy (S1.2.1 1) ((sI (sI (sI (sI (sI S0 0 (S1.1 0)) 2 (S1.1 2)) 3 (S1.1 3)) 4 (S1.1 4)) 8 (S1.1 8)).2.1 1) 0 0 6)) 5 (va_cpy (S1.2.1 5) ((sA (sI (sI (sI (sI (sI S0 0 (S1.1 0)) 2 (S1.1 2)) 3 (S1.1 3)) 4 (S1.1 4)) 8 (S1.1 8)) 1 (va_cpy (S1.2.1 1) ((sI (sI (sI (sI (sI S0 0 (S1.1 0)) 2 (S1.1 2)) 3 (S1.1 3)) 4 (S1.1 4)) 8 (S1.1 8)).2.1 1) 0 0 6)).2.1 5) 0 0 4)).2.1 6) 0 0 4)).2.1 7) 0 0 5)).2.2 9) 0 0 6)).2.2 10) 0 0 7))
set_option maxRecDepth 100000 in
set_option maxHeartbeats 4000000 in
theorem X2_become_ok (l : Launch) {h : aH} {nx : Nat} {a0 : Nat} {a1 : Nat} {S0 : Rec} {S1 : Rec} (hB0 : X2_at h a0 S0) (hB1 : X2_at h a1 S1) (hs01 : a0 + 8 ≤ a1 ∨ a1 + 8 ≤ a0) {r : Rec} (hF : X2_become S0 S1 = r) : aOk l 1 0 0 yX2_become cX2_become 2 none [.ref a0, .ref a1] h nx (aMt none nx (fun h1 => X2_at h1 a0 r ∧ (∀ q, (q < a0 ∨ a0 + 8 ≤ q) → h1 q = h q))) := by
  refine aOk.of (by decide +kernel) (Nat.le_of_ble_eq_true rfl) (fun X G hX C R0 _ => ?_)
  subst hX
  show aV X G 2 0 [(0, .ref a0), (1, .ref a1)] [] h nx 0 0
  have hFr : ∀ q, (q < a0 ∨ a0 + 8 ≤ q) → h q = h q := fun _ _ => rfl
  rw [X2_become] at hF
  refine ab_aload_n C 0 rfl rfl dX2_become_0 ?_
  refine ab_aload_n C 1 rfl rfl dX2_become_1 ?_
  refine ab_g2 (v := .int (S1.1 0)) C lf_X2_34 hB1.1 rfl dX2_become_2 ?_
  refine ab_p2 (ty := .int) C lf_X2_34 rfl (by decide +kernel) rfl rfl (Nat.le_of_ble_eq_true rfl) hB0.1 dX2_become_5 (fun g1 eg1 og1 => ?_)
  have hB0 : X2_at g1 a0 (sI S0 0 (S1.1 0)) := X2_p0 hB0 eg1 og1
  have hB1 : X2_at g1 a1 S1 := X2_off hB1 (fun q i1 i2 => og1 q (by omega))
  have hFr : ∀ q, (q < a0 ∨ a0 + 8 ≤ q) → g1 q = h q := fun q u0 => (og1 q (by omega)).trans (hFr q u0)
  refine ab_aload_n C 0 rfl rfl dX2_become_8 ?_
  refine ab_aload_n C 1 rfl rfl dX2_become_9 ?_
  refine ab_g2 (v := .int (S1.1 2)) C lf_X2_45 hB1.1 rfl dX2_become_10 ?_
  refine ab_p2 (ty := .int) C lf_X2_45 rfl (by decide +kernel) rfl rfl (Nat.le_of_ble_eq_true rfl) hB0.1 dX2_become_13 (fun g2 eg2 og2 => ?_)
  have hB0 : X2_at g2 a0 (sI (sI S0 0 (S1.1 0)) 2 (S1.1 2)) := X2_p2 hB0 eg2 og2
  have hB1 : X2_at g2 a1 S1 := X2_off hB1 (fun q i1 i2 => og2 q (by omega))
  have hFr : ∀ q, (q < a0 ∨ a0 + 8 ≤ q) → g2 q = h q := fun q u0 => (og2 q (by omega)).trans (hFr q u0)
  refine ab_aload_n C 0 rfl rfl dX2_become_16 ?_
  refine ab_aload_n C 1 rfl rfl dX2_become_17 ?_
  refine ab_g2 (v := .int (S1.1 3)) C lf_X2_48 hB1.1 rfl dX2_become_18 ?_
  refine ab_p2 (ty := .int) C lf_X2_48 rfl (by decide +kernel) rfl rfl (Nat.le_of_ble_eq_true rfl) hB0.1 dX2_become_21 (fun g3 eg3 og3 => ?_)
  have hB0 : X2_at g3 a0 (sI (sI (sI S0 0 (S1.1 0)) 2 (S1.1 2)) 3 (S1.1 3)) := X2_p3 hB0 eg3 og3
  have hB1 : X2_at g3 a1 S1 := X2_off hB1 (fun q i1 i2 => og3 q (by omega))
  have hFr : ∀ q, (q < a0 ∨ a0 + 8 ≤ q) → g3 q = h q := fun q u0 => (og3 q (by omega)).trans (hFr q u0)
  refine ab_aload_n C 0 rfl rfl dX2_become_24 ?_
  refine ab_aload_n C 1 rfl rfl dX2_become_25 ?_
  refine ab_g2 (v := .int (S1.1 4)) C lf_X2_38 hB1.1 rfl dX2_become_26 ?_
  refine ab_p2 (ty := .int) C lf_X2_38 rfl (by decide +kernel) rfl rfl (Nat.le_of_ble_eq_true rfl) hB0.1 dX2_become_29 (fun g4 eg4 og4 => ?_)
  have hB0 : X2_at g4 a0 (sI (sI (sI (sI S0 0 (S1.1 0)) 2 (S1.1 2)) 3 (S1.1 3)) 4 (S1.1 4)) := X2_p4 hB0 eg4 og4
  have hB1 : X2_at g4 a1 S1 := X2_off hB1 (fun q i1 i2 => og4 q (by omega))
  have hFr : ∀ q, (q < a0 ∨ a0 + 8 ≤ q) → g4 q = h q := fun q u0 => (og4 q (by omega)).trans (hFr q u0)
  refine ab_aload_n C 0 rfl rfl dX2_become_32 ?_
  refine ab_aload_n C 1 rfl rfl dX2_become_33 ?_
  refine ab_g2 (v := .int (S1.1 8)) C lf_X2_51 hB1.1 rfl dX2_become_34 ?_
  refine ab_p2 (ty := .int) C lf_X2_51 rfl (by decide +kernel) rfl rfl (Nat.le_of_ble_eq_true rfl) hB0.1 dX2_become_37 (fun g5 eg5 og5 => ?_)
  have hB0 : X2_at g5 a0 (sI (sI (sI (sI (sI S0 0 (S1.1 0)) 2 (S1.1 2)) 3 (S1.1 3)) 4 (S1.1 4)) 8 (S1.1 8)) := X2_p8 hB0 eg5 og5
  have hB1 : X2_at g5 a1 S1 := X2_off hB1 (fun q i1 i2 => og5 q (by omega))
  have hFr : ∀ q, (q < a0 ∨ a0 + 8 ≤ q) → g5 q = h q := fun q u0 => (og5 q (by omega)).trans (hFr q u0)
  refine ab_aload_n C 1 rfl rfl dX2_become_40 ?_
  refine ab_g2 (v := .ref (a1 + 1)) C lf_X2_9 hB1.1 rfl dX2_become_41 ?_
  refine ab_iconst (v := (0 : Int32)) C dX2_become_44 (by decide) ?_
  refine ab_aload_n C 0 rfl rfl dX2_become_45 ?_
  refine ab_g2 (v := .ref (a0 + 1)) C lf_X2_9 hB0.1 rfl dX2_become_46 ?_
  refine ab_iconst (v := (0 : Int32)) C dX2_become_49 (by decide) ?_
  refine ab_bipush (v := (6 : Int32)) C dX2_become_50 (by decide) ?_
  refine ab_copyi C (X2_r1 hB1) (X2_r1 hB0) (a_mem 454 (by decide +kernel) (by decide +kernel)) (a_mem 456 (by decide +kernel) (by decide +kernel)) (a_mem 455 (by decide +kernel) (by decide +kernel)) (a_mem 69 (by decide +kernel) (by decide +kernel)) (by decide) (by decide) (by decide) (by decide) (by decide) (by decide) (by decide) dX2_become_52 (fun g6 eg6 og6 => ?_)
  have hB0 : X2_at g6 a0 (sA (sI (sI (sI (sI (sI S0 0 (S1.1 0)) 2 (S1.1 2)) 3 (S1.1 3)) 4 (S1.1 4)) 8 (S1.1 8)) 1 (va_cpy (S1.2.1 1) ((sI (sI (sI (sI (sI S0 0 (S1.1 0)) 2 (S1.1 2)) 3 (S1.1 3)) 4 (S1.1 4)) 8 (S1.1 8)).2.1 1) 0 0 6)) := X2_w1 hB0 eg6 og6
  have hB1 : X2_at g6 a1 S1 := X2_off hB1 (fun q i1 i2 => og6 q (by omega))
  have hFr : ∀ q, (q < a0 ∨ a0 + 8 ≤ q) → g6 q = h q := fun q u0 => (og6 q (by omega)).trans (hFr q u0)
  refine ab_aload_n C 1 rfl rfl dX2_become_55 ?_
  refine ab_g2 (v := .ref (a1 + 2)) C lf_X2_15 hB1.1 rfl dX2_become_56 ?_
  refine ab_iconst (v := (0 : Int32)) C dX2_become_59 (by decide) ?_
  refine ab_aload_n C 0 rfl rfl dX2_become_60 ?_
  refine ab_g2 (v := .ref (a0 + 2)) C lf_X2_15 hB0.1 rfl dX2_become_61 ?_
  refine ab_iconst (v := (0 : Int32)) C dX2_become_64 (by decide) ?_
  refine ab_iconst (v := (4 : Int32)) C dX2_become_65 (by decide) ?_
  refine ab_copyi C (X2_r5 hB1) (X2_r5 hB0) (a_mem 454 (by decide +kernel) (by decide +kernel)) (a_mem 456 (by decide +kernel) (by decide +kernel)) (a_mem 455 (by decide +kernel) (by decide +kernel)) (a_mem 69 (by decide +kernel) (by decide +kernel)) (by decide) (by decide) (by decide) (by decide) (by decide) (by decide) (by decide) dX2_become_66 (fun g7 eg7 og7 => ?_)
  have hB0 : X2_at g7 a0 (sA (sA (sI (sI (sI (sI (sI S0 0 (S1.1 0)) 2 (S1.1 2)) 3 (S1.1 3)) 4 (S1.1 4)) 8 (S1.1 8)) 1 (va_cpy (S1.2.1 1) ((sI (sI (sI (sI (sI S0 0 (S1.1 0)) 2 (S1.1 2)) 3 (S1.1 3)) 4 (S1.1 4)) 8 (S1.1 8)).2.1 1) 0 0 6)) 5 (va_cpy (S1.2.1 5) ((sA (sI (sI (sI (sI (sI S0 0 (S1.1 0)) 2 (S1.1 2)) 3 (S1.1 3)) 4 (S1.1 4)) 8 (S1.1 8)) 1 (va_cpy (S1.2.1 1) ((sI (sI (sI (sI (sI S0 0 (S1.1 0)) 2 (S1.1 2)) 3 (S1.1 3)) 4 (S1.1 4)) 8 (S1.1 8)).2.1 1) 0 0 6)).2.1 5) 0 0 4)) := X2_w5 hB0 eg7 og7
  have hB1 : X2_at g7 a1 S1 := X2_off hB1 (fun q i1 i2 => og7 q (by omega))
  have hFr : ∀ q, (q < a0 ∨ a0 + 8 ≤ q) → g7 q = h q := fun q u0 => (og7 q (by omega)).trans (hFr q u0)
  refine ab_aload_n C 1 rfl rfl dX2_become_69 ?_
  refine ab_g2 (v := .ref (a1 + 3)) C lf_X2_18 hB1.1 rfl dX2_become_70 ?_
  refine ab_iconst (v := (0 : Int32)) C dX2_become_73 (by decide) ?_
  refine ab_aload_n C 0 rfl rfl dX2_become_74 ?_
  refine ab_g2 (v := .ref (a0 + 3)) C lf_X2_18 hB0.1 rfl dX2_become_75 ?_
  refine ab_iconst (v := (0 : Int32)) C dX2_become_78 (by decide) ?_
  refine ab_iconst (v := (4 : Int32)) C dX2_become_79 (by decide) ?_
  refine ab_copyi C (X2_r6 hB1) (X2_r6 hB0) (a_mem 454 (by decide +kernel) (by decide +kernel)) (a_mem 456 (by decide +kernel) (by decide +kernel)) (a_mem 455 (by decide +kernel) (by decide +kernel)) (a_mem 69 (by decide +kernel) (by decide +kernel)) (by decide) (by decide) (by decide) (by decide) (by decide) (by decide) (by decide) dX2_become_80 (fun g8 eg8 og8 => ?_)
  have hB0 : X2_at g8 a0 (sA (sA (sA (sI (sI (sI (sI (sI S0 0 (S1.1 0)) 2 (S1.1 2)) 3 (S1.1 3)) 4 (S1.1 4)) 8 (S1.1 8)) 1 (va_cpy (S1.2.1 1) ((sI (sI (sI (sI (sI S0 0 (S1.1 0)) 2 (S1.1 2)) 3 (S1.1 3)) 4 (S1.1 4)) 8 (S1.1 8)).2.1 1) 0 0 6)) 5 (va_cpy (S1.2.1 5) ((sA (sI (sI (sI (sI (sI S0 0 (S1.1 0)) 2 (S1.1 2)) 3 (S1.1 3)) 4 (S1.1 4)) 8 (S1.1 8)) 1 (va_cpy (S1.2.1 1) ((sI (sI (sI (sI (sI S0 0 (S1.1 0)) 2 (S1.1 2)) 3 (S1.1 3)) 4 (S1.1 4)) 8 (S1.1 8)).2.1 1) 0 0 6)).2.1 5) 0 0 4)) 6 (va_cpy (S1.2.1 6) ((sA (sA (sI (sI (sI (sI (sI S0 0 (S1.1 0)) 2 (S1.1 2)) 3 (S1.1 3)) 4 (S1.1 4)) 8 (S1.1 8)) 1 (va_cpy (S1.2.1 1) ((sI (sI (sI (sI (sI S0 0 (S1.1 0)) 2 (S1.1 2)) 3 (S1.1 3)) 4 (S1.1 4)) 8 (S1.1 8)).2.1 1) 0 0 6)) 5 (va_cpy (S1.2.1 5) ((sA (sI (sI (sI (sI (sI S0 0 (S1.1 0)) 2 (S1.1 2)) 3 (S1.1 3)) 4 (S1.1 4)) 8 (S1.1 8)) 1 (va_cpy (S1.2.1 1) ((sI (sI (sI (sI (sI S0 0 (S1.1 0)) 2 (S1.1 2)) 3 (S1.1 3)) 4 (S1.1 4)) 8 (S1.1 8)).2.1 1) 0 0 6)).2.1 5) 0 0 4)).2.1 6) 0 0 4)) := X2_w6 hB0 eg8 og8
  have hB1 : X2_at g8 a1 S1 := X2_off hB1 (fun q i1 i2 => og8 q (by omega))
  have hFr : ∀ q, (q < a0 ∨ a0 + 8 ≤ q) → g8 q = h q := fun q u0 => (og8 q (by omega)).trans (hFr q u0)
  refine ab_aload_n C 1 rfl rfl dX2_become_83 ?_
  refine ab_g2 (v := .ref (a1 + 4)) C lf_X2_21 hB1.1 rfl dX2_become_84 ?_
  refine ab_iconst (v := (0 : Int32)) C dX2_become_87 (by decide) ?_
  refine ab_aload_n C 0 rfl rfl dX2_become_88 ?_
  refine ab_g2 (v := .ref (a0 + 4)) C lf_X2_21 hB0.1 rfl dX2_become_89 ?_
  refine ab_iconst (v := (0 : Int32)) C dX2_become_92 (by decide) ?_
  refine ab_iconst (v := (5 : Int32)) C dX2_become_93 (by decide) ?_
  refine ab_copyi C (X2_r7 hB1) (X2_r7 hB0) (a_mem 454 (by decide +kernel) (by decide +kernel)) (a_mem 456 (by decide +kernel) (by decide +kernel)) (a_mem 455 (by decide +kernel) (by decide +kernel)) (a_mem 69 (by decide +kernel) (by decide +kernel)) (by decide) (by decide) (by decide) (by decide) (by decide) (by decide) (by decide) dX2_become_94 (fun g9 eg9 og9 => ?_)
  have hB0 : X2_at g9 a0 (sA (sA (sA (sA (sI (sI (sI (sI (sI S0 0 (S1.1 0)) 2 (S1.1 2)) 3 (S1.1 3)) 4 (S1.1 4)) 8 (S1.1 8)) 1 (va_cpy (S1.2.1 1) ((sI (sI (sI (sI (sI S0 0 (S1.1 0)) 2 (S1.1 2)) 3 (S1.1 3)) 4 (S1.1 4)) 8 (S1.1 8)).2.1 1) 0 0 6)) 5 (va_cpy (S1.2.1 5) ((sA (sI (sI (sI (sI (sI S0 0 (S1.1 0)) 2 (S1.1 2)) 3 (S1.1 3)) 4 (S1.1 4)) 8 (S1.1 8)) 1 (va_cpy (S1.2.1 1) ((sI (sI (sI (sI (sI S0 0 (S1.1 0)) 2 (S1.1 2)) 3 (S1.1 3)) 4 (S1.1 4)) 8 (S1.1 8)).2.1 1) 0 0 6)).2.1 5) 0 0 4)) 6 (va_cpy (S1.2.1 6) ((sA (sA (sI (sI (sI (sI (sI S0 0 (S1.1 0)) 2 (S1.1 2)) 3 (S1.1 3)) 4 (S1.1 4)) 8 (S1.1 8)) 1 (va_cpy (S1.2.1 1) ((sI (sI (sI (sI (sI S0 0 (S1.1 0)) 2 (S1.1 2)) 3 (S1.1 3)) 4 (S1.1 4)) 8 (S1.1 8)).2.1 1) 0 0 6)) 5 (va_cpy (S1.2.1 5) ((sA (sI (sI (sI (sI (sI S0 0 (S1.1 0)) 2 (S1.1 2)) 3 (S1.1 3)) 4 (S1.1 4)) 8 (S1.1 8)) 1 (va_cpy (S1.2.1 1) ((sI (sI (sI (sI (sI S0 0 (S1.1 0)) 2 (S1.1 2)) 3 (S1.1 3)) 4 (S1.1 4)) 8 (S1.1 8)).2.1 1) 0 0 6)).2.1 5) 0 0 4)).2.1 6) 0 0 4)) 7 (va_cpy (S1.2.1 7) ((sA (sA (sA (sI (sI (sI (sI (sI S0 0 (S1.1 0)) 2 (S1.1 2)) 3 (S1.1 3)) 4 (S1.1 4)) 8 (S1.1 8)) 1 (va_cpy (S1.2.1 1) ((sI (sI (sI (sI (sI S0 0 (S1.1 0)) 2 (S1.1 2)) 3 (S1.1 3)) 4 (S1.1 4)) 8 (S1.1 8)).2.1 1) 0 0 6)) 5 (va_cpy (S1.2.1 5) ((sA (sI (sI (sI (sI (sI S0 0 (S1.1 0)) 2 (S1.1 2)) 3 (S1.1 3)) 4 (S1.1 4)) 8 (S1.1 8)) 1 (va_cpy (S1.2.1 1) ((sI (sI (sI (sI (sI S0 0 (S1.1 0)) 2 (S1.1 2)) 3 (S1.1 3)) 4 (S1.1 4)) 8 (S1.1 8)).2.1 1) 0 0 6)).2.1 5) 0 0 4)) 6 (va_cpy (S1.2.1 6) ((sA (sA (sI (sI (sI (sI (sI S0 0 (S1.1 0)) 2 (S1.1 2)) 3 (S1.1 3)) 4 (S1.1 4)) 8 (S1.1 8)) 1 (va_cpy (S1.2.1 1) ((sI (sI (sI (sI (sI S0 0 (S1.1 0)) 2 (S1.1 2)) 3 (S1.1 3)) 4 (S1.1 4)) 8 (S1.1 8)).2.1 1) 0 0 6)) 5 (va_cpy (S1.2.1 5) ((sA (sI (sI (sI (sI (sI S0 0 (S1.1 0)) 2 (S1.1 2)) 3 (S1.1 3)) 4 (S1.1 4)) 8 (S1.1 8)) 1 (va_cpy (S1.2.1 1) ((sI (sI (sI (sI (sI S0 0 (S1.1 0)) 2 (S1.1 2)) 3 (S1.1 3)) 4 (S1.1 4)) 8 (S1.1 8)).2.1 1) 0 0 6)).2.1 5) 0 0 4)).2.1 6) 0 0 4)).2.1 7) 0 0 5)) := X2_w7 hB0 eg9 og9
  have hB1 : X2_at g9 a1 S1 := X2_off hB1 (fun q i1 i2 => og9 q (by omega))
  have hFr : ∀ q, (q < a0 ∨ a0 + 8 ≤ q) → g9 q = h q := fun q u0 => (og9 q (by omega)).trans (hFr q u0)
  refine ab_aload_n C 1 rfl rfl dX2_become_97 ?_
  refine ab_g2 (v := .ref (a1 + 5)) C lf_X2_24 hB1.1 rfl dX2_become_98 ?_
  refine ab_iconst (v := (0 : Int32)) C dX2_become_101 (by decide) ?_
  refine ab_aload_n C 0 rfl rfl dX2_become_102 ?_
  refine ab_g2 (v := .ref (a0 + 5)) C lf_X2_24 hB0.1 rfl dX2_become_103 ?_
  refine ab_iconst (v := (0 : Int32)) C dX2_become_106 (by decide) ?_
  refine ab_bipush (v := (6 : Int32)) C dX2_become_107 (by decide) ?_
  refine ab_copyl C (X2_r9 hB1) (X2_r9 hB0) (a_mem 454 (by decide +kernel) (by decide +kernel)) (a_mem 456 (by decide +kernel) (by decide +kernel)) (a_mem 455 (by decide +kernel) (by decide +kernel)) (a_mem 69 (by decide +kernel) (by decide +kernel)) (by decide) (by decide) (by decide) (by decide) (by decide) (by decide) (by decide) dX2_become_109 (fun g10 eg10 og10 => ?_)
  have hB0 : X2_at g10 a0 (sL (sA (sA (sA (sA (sI (sI (sI (sI (sI S0 0 (S1.1 0)) 2 (S1.1 2)) 3 (S1.1 3)) 4 (S1.1 4)) 8 (S1.1 8)) 1 (va_cpy (S1.2.1 1) ((sI (sI (sI (sI (sI S0 0 (S1.1 0)) 2 (S1.1 2)) 3 (S1.1 3)) 4 (S1.1 4)) 8 (S1.1 8)).2.1 1) 0 0 6)) 5 (va_cpy (S1.2.1 5) ((sA (sI (sI (sI (sI (sI S0 0 (S1.1 0)) 2 (S1.1 2)) 3 (S1.1 3)) 4 (S1.1 4)) 8 (S1.1 8)) 1 (va_cpy (S1.2.1 1) ((sI (sI (sI (sI (sI S0 0 (S1.1 0)) 2 (S1.1 2)) 3 (S1.1 3)) 4 (S1.1 4)) 8 (S1.1 8)).2.1 1) 0 0 6)).2.1 5) 0 0 4)) 6 (va_cpy (S1.2.1 6) ((sA (sA (sI (sI (sI (sI (sI S0 0 (S1.1 0)) 2 (S1.1 2)) 3 (S1.1 3)) 4 (S1.1 4)) 8 (S1.1 8)) 1 (va_cpy (S1.2.1 1) ((sI (sI (sI (sI (sI S0 0 (S1.1 0)) 2 (S1.1 2)) 3 (S1.1 3)) 4 (S1.1 4)) 8 (S1.1 8)).2.1 1) 0 0 6)) 5 (va_cpy (S1.2.1 5) ((sA (sI (sI (sI (sI (sI S0 0 (S1.1 0)) 2 (S1.1 2)) 3 (S1.1 3)) 4 (S1.1 4)) 8 (S1.1 8)) 1 (va_cpy (S1.2.1 1) ((sI (sI (sI (sI (sI S0 0 (S1.1 0)) 2 (S1.1 2)) 3 (S1.1 3)) 4 (S1.1 4)) 8 (S1.1 8)).2.1 1) 0 0 6)).2.1 5) 0 0 4)).2.1 6) 0 0 4)) 7 (va_cpy (S1.2.1 7) ((sA (sA (sA (sI (sI (sI (sI (sI S0 0 (S1.1 0)) 2 (S1.1 2)) 3 (S1.1 3)) 4 (S1.1 4)) 8 (S1.1 8)) 1 (va_cpy (S1.2.1 1) ((sI (sI (sI (sI (sI S0 0 (S1.1 0)) 2 (S1.1 2)) 3 (S1.1 3)) 4 (S1.1 4)) 8 (S1.1 8)).2.1 1) 0 0 6)) 5 (va_cpy (S1.2.1 5) ((sA (sI (sI (sI (sI (sI S0 0 (S1.1 0)) 2 (S1.1 2)) 3 (S1.1 3)) 4 (S1.1 4)) 8 (S1.1 8)) 1 (va_cpy (S1.2.1 1) ((sI (sI (sI (sI (sI S0 0 (S1.1 0)) 2 (S1.1 2)) 3 (S1.1 3)) 4 (S1.1 4)) 8 (S1.1 8)).2.1 1) 0 0 6)).2.1 5) 0 0 4)) 6 (va_cpy (S1.2.1 6) ((sA (sA (sI (sI (sI (sI (sI S0 0 (S1.1 0)) 2 (S1.1 2)) 3 (S1.1 3)) 4 (S1.1 4)) 8 (S1.1 8)) 1 (va_cpy (S1.2.1 1) ((sI (sI (sI (sI (sI S0 0 (S1.1 0)) 2 (S1.1 2)) 3 (S1.1 3)) 4 (S1.1 4)) 8 (S1.1 8)).2.1 1) 0 0 6)) 5 (va_cpy (S1.2.1 5) ((sA (sI (sI (sI (sI (sI S0 0 (S1.1 0)) 2 (S1.1 2)) 3 (S1.1 3)) 4 (S1.1 4)) 8 (S1.1 8)) 1 (va_cpy (S1.2.1 1) ((sI (sI (sI (sI (sI S0 0 (S1.1 0)) 2 (S1.1 2)) 3 (S1.1 3)) 4 (S1.1 4)) 8 (S1.1 8)).2.1 1) 0 0 6)).2.1 5) 0 0 4)).2.1 6) 0 0 4)).2.1 7) 0 0 5)) 9 (va_cpy (S1.2.2 9) ((sA (sA (sA (sA (sI (sI (sI (sI (sI S0 0 (S1.1 0)) 2 (S1.1 2)) 3 (S1.1 3)) 4 (S1.1 4)) 8 (S1.1 8)) 1 (va_cpy (S1.2.1 1) ((sI (sI (sI (sI (sI S0 0 (S1.1 0)) 2 (S1.1 2)) 3 (S1.1 3)) 4 (S1.1 4)) 8 (S1.1 8)).2.1 1) 0 0 6)) 5 (va_cpy (S1.2.1 5) ((sA (sI (sI (sI (sI (sI S0 0 (S1.1 0)) 2 (S1.1 2)) 3 (S1.1 3)) 4 (S1.1 4)) 8 (S1.1 8)) 1 (va_cpy (S1.2.1 1) ((sI (sI (sI (sI (sI S0 0 (S1.1 0)) 2 (S1.1 2)) 3 (S1.1 3)) 4 (S1.1 4)) 8 (S1.1 8)).2.1 1) 0 0 6)).2.1 5) 0 0 4)) 6 (va_cpy (S1.2.1 6) ((sA (sA (sI (sI (sI (sI (sI S0 0 (S1.1 0)) 2 (S1.1 2)) 3 (S1.1 3)) 4 (S1.1 4)) 8 (S1.1 8)) 1 (va_cpy (S1.2.1 1) ((sI (sI (sI (sI (sI S0 0 (S1.1 0)) 2 (S1.1 2)) 3 (S1.1 3)) 4 (S1.1 4)) 8 (S1.1 8)).2.1 1) 0 0 6)) 5 (va_cpy (S1.2.1 5) ((sA (sI (sI (sI (sI (sI S0 0 (S1.1 0)) 2 (S1.1 2)) 3 (S1.1 3)) 4 (S1.1 4)) 8 (S1.1 8)) 1 (va_cpy (S1.2.1 1) ((sI (sI (sI (sI (sI S0 0 (S1.1 0)) 2 (S1.1 2)) 3 (S1.1 3)) 4 (S1.1 4)) 8 (S1.1 8)).2.1 1) 0 0 6)).2.1 5) 0 0 4)).2.1 6) 0 0 4)) 7 (va_cpy (S1.2.1 7) ((sA (sA (sA (sI (sI (sI (sI (sI S0 0 (S1.1 0)) 2 (S1.1 2)) 3 (S1.1 3)) 4 (S1.1 4)) 8 (S1.1 8)) 1 (va_cpy (S1.2.1 1) ((sI (sI (sI (sI (sI S0 0 (S1.1 0)) 2 (S1.1 2)) 3 (S1.1 3)) 4 (S1.1 4)) 8 (S1.1 8)).2.1 1) 0 0 6)) 5 (va_cpy (S1.2.1 5) ((sA (sI (sI (sI (sI (sI S0 0 (S1.1 0)) 2 (S1.1 2)) 3 (S1.1 3)) 4 (S1.1 4)) 8 (S1.1 8)) 1 (va_cpy (S1.2.1 1) ((sI (sI (sI (sI (sI S0 0 (S1.1 0)) 2 (S1.1 2)) 3 (S1.1 3)) 4 (S1.1 4)) 8 (S1.1 8)).2.1 1) 0 0 6)).2.1 5) 0 0 4)) 6 (va_cpy (S1.2.1 6) ((sA (sA (sI (sI (sI (sI (sI S0 0 (S1.1 0)) 2 (S1.1 2)) 3 (S1.1 3)) 4 (S1.1 4)) 8 (S1.1 8)) 1 (va_cpy (S1.2.1 1) ((sI (sI (sI (sI (sI S0 0 (S1.1 0)) 2 (S1.1 2)) 3 (S1.1 3)) 4 (S1.1 4)) 8 (S1.1 8)).2.1 1) 0 0 6)) 5 (va_cpy (S1.2.1 5) ((sA (sI (sI (sI (sI (sI S0 0 (S1.1 0)) 2 (S1.1 2)) 3 (S1.1 3)) 4 (S1.1 4)) 8 (S1.1 8)) 1 (va_cpy (S1.2.1 1) ((sI (sI (sI (sI (sI S0 0 (S1.1 0)) 2 (S1.1 2)) 3 (S1.1 3)) 4 (S1.1 4)) 8 (S1.1 8)).2.1 1) 0 0 6)).2.1 5) 0 0 4)).2.1 6) 0 0 4)).2.1 7) 0 0 5)).2.2 9) 0 0 6)) := X2_w9 hB0 eg10 og10
  have hB1 : X2_at g10 a1 S1 := X2_off hB1 (fun q i1 i2 => og10 q (by omega))
  have hFr : ∀ q, (q < a0 ∨ a0 + 8 ≤ q) → g10 q = h q := fun q u0 => (og10 q (by omega)).trans (hFr q u0)
  refine ab_aload_n C 1 rfl rfl dX2_become_112 ?_
  refine ab_g2 (v := .ref (a1 + 6)) C lf_X2_28 hB1.1 rfl dX2_become_113 ?_
  refine ab_iconst (v := (0 : Int32)) C dX2_become_116 (by decide) ?_
  refine ab_aload_n C 0 rfl rfl dX2_become_117 ?_
  refine ab_g2 (v := .ref (a0 + 6)) C lf_X2_28 hB0.1 rfl dX2_become_118 ?_
  refine ab_iconst (v := (0 : Int32)) C dX2_become_121 (by decide) ?_
  refine ab_bipush (v := (7 : Int32)) C dX2_become_122 (by decide) ?_
  refine ab_copyl C (X2_r10 hB1) (X2_r10 hB0) (a_mem 454 (by decide +kernel) (by decide +kernel)) (a_mem 456 (by decide +kernel) (by decide +kernel)) (a_mem 455 (by decide +kernel) (by decide +kernel)) (a_mem 69 (by decide +kernel) (by decide +kernel)) (by decide) (by decide) (by decide) (by decide) (by decide) (by decide) (by decide) dX2_become_124 (fun g11 eg11 og11 => ?_)
  have hB0 : X2_at g11 a0 (sL (sL (sA (sA (sA (sA (sI (sI (sI (sI (sI S0 0 (S1.1 0)) 2 (S1.1 2)) 3 (S1.1 3)) 4 (S1.1 4)) 8 (S1.1 8)) 1 (va_cpy (S1.2.1 1) ((sI (sI (sI (sI (sI S0 0 (S1.1 0)) 2 (S1.1 2)) 3 (S1.1 3)) 4 (S1.1 4)) 8 (S1.1 8)).2.1 1) 0 0 6)) 5 (va_cpy (S1.2.1 5) ((sA (sI (sI (sI (sI (sI S0 0 (S1.1 0)) 2 (S1.1 2)) 3 (S1.1 3)) 4 (S1.1 4)) 8 (S1.1 8)) 1 (va_cpy (S1.2.1 1) ((sI (sI (sI (sI (sI S0 0 (S1.1 0)) 2 (S1.1 2)) 3 (S1.1 3)) 4 (S1.1 4)) 8 (S1.1 8)).2.1 1) 0 0 6)).2.1 5) 0 0 4)) 6 (va_cpy (S1.2.1 6) ((sA (sA (sI (sI (sI (sI (sI S0 0 (S1.1 0)) 2 (S1.1 2)) 3 (S1.1 3)) 4 (S1.1 4)) 8 (S1.1 8)) 1 (va_cpy (S1.2.1 1) ((sI (sI (sI (sI (sI S0 0 (S1.1 0)) 2 (S1.1 2)) 3 (S1.1 3)) 4 (S1.1 4)) 8 (S1.1 8)).2.1 1) 0 0 6)) 5 (va_cpy (S1.2.1 5) ((sA (sI (sI (sI (sI (sI S0 0 (S1.1 0)) 2 (S1.1 2)) 3 (S1.1 3)) 4 (S1.1 4)) 8 (S1.1 8)) 1 (va_cpy (S1.2.1 1) ((sI (sI (sI (sI (sI S0 0 (S1.1 0)) 2 (S1.1 2)) 3 (S1.1 3)) 4 (S1.1 4)) 8 (S1.1 8)).2.1 1) 0 0 6)).2.1 5) 0 0 4)).2.1 6) 0 0 4)) 7 (va_cpy (S1.2.1 7) ((sA (sA (sA (sI (sI (sI (sI (sI S0 0 (S1.1 0)) 2 (S1.1 2)) 3 (S1.1 3)) 4 (S1.1 4)) 8 (S1.1 8)) 1 (va_cpy (S1.2.1 1) ((sI (sI (sI (sI (sI S0 0 (S1.1 0)) 2 (S1.1 2)) 3 (S1.1 3)) 4 (S1.1 4)) 8 (S1.1 8)).2.1 1) 0 0 6)) 5 (va_cpy (S1.2.1 5) ((sA (sI (sI (sI (sI (sI S0 0 (S1.1 0)) 2 (S1.1 2)) 3 (S1.1 3)) 4 (S1.1 4)) 8 (S1.1 8)) 1 (va_cpy (S1.2.1 1) ((sI (sI (sI (sI (sI S0 0 (S1.1 0)) 2 (S1.1 2)) 3 (S1.1 3)) 4 (S1.1 4)) 8 (S1.1 8)).2.1 1) 0 0 6)).2.1 5) 0 0 4)) 6 (va_cpy (S1.2.1 6) ((sA (sA (sI (sI (sI (sI (sI S0 0 (S1.1 0)) 2 (S1.1 2)) 3 (S1.1 3)) 4 (S1.1 4)) 8 (S1.1 8)) 1 (va_cpy (S1.2.1 1) ((sI (sI (sI (sI (sI S0 0 (S1.1 0)) 2 (S1.1 2)) 3 (S1.1 3)) 4 (S1.1 4)) 8 (S1.1 8)).2.1 1) 0 0 6)) 5 (va_cpy (S1.2.1 5) ((sA (sI (sI (sI (sI (sI S0 0 (S1.1 0)) 2 (S1.1 2)) 3 (S1.1 3)) 4 (S1.1 4)) 8 (S1.1 8)) 1 (va_cpy (S1.2.1 1) ((sI (sI (sI (sI (sI S0 0 (S1.1 0)) 2 (S1.1 2)) 3 (S1.1 3)) 4 (S1.1 4)) 8 (S1.1 8)).2.1 1) 0 0 6)).2.1 5) 0 0 4)).2.1 6) 0 0 4)).2.1 7) 0 0 5)) 9 (va_cpy (S1.2.2 9) ((sA (sA (sA (sA (sI (sI (sI (sI (sI S0 0 (S1.1 0)) 2 (S1.1 2)) 3 (S1.1 3)) 4 (S1.1 4)) 8 (S1.1 8)) 1 (va_cpy (S1.2.1 1) ((sI (sI (sI (sI (sI S0 0 (S1.1 0)) 2 (S1.1 2)) 3 (S1.1 3)) 4 (S1.1 4)) 8 (S1.1 8)).2.1 1) 0 0 6)) 5 (va_cpy (S1.2.1 5) ((sA (sI (sI (sI (sI (sI S0 0 (S1.1 0)) 2 (S1.1 2)) 3 (S1.1 3)) 4 (S1.1 4)) 8 (S1.1 8)) 1 (va_cpy (S1.2.1 1) ((sI (sI (sI (sI (sI S0 0 (S1.1 0)) 2 (S1.1 2)) 3 (S1.1 3)) 4 (S1.1 4)) 8 (S1.1 8)).2.1 1) 0 0 6)).2.1 5) 0 0 4)) 6 (va_cpy (S1.2.1 6) ((sA (sA (sI (sI (sI (sI (sI S0 0 (S1.1 0)) 2 (S1.1 2)) 3 (S1.1 3)) 4 (S1.1 4)) 8 (S1.1 8)) 1 (va_cpy (S1.2.1 1) ((sI (sI (sI (sI (sI S0 0 (S1.1 0)) 2 (S1.1 2)) 3 (S1.1 3)) 4 (S1.1 4)) 8 (S1.1 8)).2.1 1) 0 0 6)) 5 (va_cpy (S1.2.1 5) ((sA (sI (sI (sI (sI (sI S0 0 (S1.1 0)) 2 (S1.1 2)) 3 (S1.1 3)) 4 (S1.1 4)) 8 (S1.1 8)) 1 (va_cpy (S1.2.1 1) ((sI (sI (sI (sI (sI S0 0 (S1.1 0)) 2 (S1.1 2)) 3 (S1.1 3)) 4 (S1.1 4)) 8 (S1.1 8)).2.1 1) 0 0 6)).2.1 5) 0 0 4)).2.1 6) 0 0 4)) 7 (va_cpy (S1.2.1 7) ((sA (sA (sA (sI (sI (sI (sI (sI S0 0 (S1.1 0)) 2 (S1.1 2)) 3 (S1.1 3)) 4 (S1.1 4)) 8 (S1.1 8)) 1 (va_cpy (S1.2.1 1) ((sI (sI (sI (sI (sI S0 0 (S1.1 0)) 2 (S1.1 2)) 3 (S1.1 3)) 4 (S1.1 4)) 8 (S1.1 8)).2.1 1) 0 0 6)) 5 (va_cpy (S1.2.1 5) ((sA (sI (sI (sI (sI (sI S0 0 (S1.1 0)) 2 (S1.1 2)) 3 (S1.1 3)) 4 (S1.1 4)) 8 (S1.1 8)) 1 (va_cpy (S1.2.1 1) ((sI (sI (sI (sI (sI S0 0 (S1.1 0)) 2 (S1.1 2)) 3 (S1.1 3)) 4 (S1.1 4)) 8 (S1.1 8)).2.1 1) 0 0 6)).2.1 5) 0 0 4)) 6 (va_cpy (S1.2.1 6) ((sA (sA (sI (sI (sI (sI (sI S0 0 (S1.1 0)) 2 (S1.1 2)) 3 (S1.1 3)) 4 (S1.1 4)) 8 (S1.1 8)) 1 (va_cpy (S1.2.1 1) ((sI (sI (sI (sI (sI S0 0 (S1.1 0)) 2 (S1.1 2)) 3 (S1.1 3)) 4 (S1.1 4)) 8 (S1.1 8)).2.1 1) 0 0 6)) 5 (va_cpy (S1.2.1 5) ((sA (sI (sI (sI (sI (sI S0 0 (S1.1 0)) 2 (S1.1 2)) 3 (S1.1 3)) 4 (S1.1 4)) 8 (S1.1 8)) 1 (va_cpy (S1.2.1 1) ((sI (sI (sI (sI (sI S0 0 (S1.1 0)) 2 (S1.1 2)) 3 (S1.1 3)) 4 (S1.1 4)) 8 (S1.1 8)).2.1 1) 0 0 6)).2.1 5) 0 0 4)).2.1 6) 0 0 4)).2.1 7) 0 0 5)).2.2 9) 0 0 6)) 10 (va_cpy (S1.2.2 10) ((sL (sA (sA (sA (sA (sI (sI (sI (sI (sI S0 0 (S1.1 0)) 2 (S1.1 2)) 3 (S1.1 3)) 4 (S1.1 4)) 8 (S1.1 8)) 1 (va_cpy (S1.2.1 1) ((sI (sI (sI (sI (sI S0 0 (S1.1 0)) 2 (S1.1 2)) 3 (S1.1 3)) 4 (S1.1 4)) 8 (S1.1 8)).2.1 1) 0 0 6)) 5 (va_cpy (S1.2.1 5) ((sA (sI (sI (sI (sI (sI S0 0 (S1.1 0)) 2 (S1.1 2)) 3 (S1.1 3)) 4 (S1.1 4)) 8 (S1.1 8)) 1 (va_cpy (S1.2.1 1) ((sI (sI (sI (sI (sI S0 0 (S1.1 0)) 2 (S1.1 2)) 3 (S1.1 3)) 4 (S1.1 4)) 8 (S1.1 8)).2.1 1) 0 0 6)).2.1 5) 0 0 4)) 6 (va_cpy (S1.2.1 6) ((sA (sA (sI (sI (sI (sI (sI S0 0 (S1.1 0)) 2 (S1.1 2)) 3 (S1.1 3)) 4 (S1.1 4)) 8 (S1.1 8)) 1 (va_cpy (S1.2.1 1) ((sI (sI (sI (sI (sI S0 0 (S1.1 0)) 2 (S1.1 2)) 3 (S1.1 3)) 4 (S1.1 4)) 8 (S1.1 8)).2.1 1) 0 0 6)) 5 (va_cpy (S1.2.1 5) ((sA (sI (sI (sI (sI (sI S0 0 (S1.1 0)) 2 (S1.1 2)) 3 (S1.1 3)) 4 (S1.1 4)) 8 (S1.1 8)) 1 (va_cpy (S1.2.1 1) ((sI (sI (sI (sI (sI S0 0 (S1.1 0)) 2 (S1.1 2)) 3 (S1.1 3)) 4 (S1.1 4)) 8 (S1.1 8)).2.1 1) 0 0 6)).2.1 5) 0 0 4)).2.1 6) 0 0 4)) 7 (va_cpy (S1.2.1 7) ((sA (sA (sA (sI (sI (sI (sI (sI S0 0 (S1.1 0)) 2 (S1.1 2)) 3 (S1.1 3)) 4 (S1.1 4)) 8 (S1.1 8)) 1 (va_cpy (S1.2.1 1) ((sI (sI (sI (sI (sI S0 0 (S1.1 0)) 2 (S1.1 2)) 3 (S1.1 3)) 4 (S1.1 4)) 8 (S1.1 8)).2.1 1) 0 0 6)) 5 (va_cpy (S1.2.1 5) ((sA (sI (sI (sI (sI (sI S0 0 (S1.1 0)) 2 (S1.1 2)) 3 (S1.1 3)) 4 (S1.1 4)) 8 (S1.1 8)) 1 (va_cpy (S1.2.1 1) ((sI (sI (sI (sI (sI S0 0 (S1.1 0)) 2 (S1.1 2)) 3 (S1.1 3)) 4 (S1.1 4)) 8 (S1.1 8)).2.1 1) 0 0 6)).2.1 5) 0 0 4)) 6 (va_cpy (S1.2.1 6) ((sA (sA (sI (sI (sI (sI (sI S0 0 (S1.1 0)) 2 (S1.1 2)) 3 (S1.1 3)) 4 (S1.1 4)) 8 (S1.1 8)) 1 (va_cpy (S1.2.1 1) ((sI (sI (sI (sI (sI S0 0 (S1.1 0)) 2 (S1.1 2)) 3 (S1.1 3)) 4 (S1.1 4)) 8 (S1.1 8)).2.1 1) 0 0 6)) 5 (va_cpy (S1.2.1 5) ((sA (sI (sI (sI (sI (sI S0 0 (S1.1 0)) 2 (S1.1 2)) 3 (S1.1 3)) 4 (S1.1 4)) 8 (S1.1 8)) 1 (va_cpy (S1.2.1 1) ((sI (sI (sI (sI (sI S0 0 (S1.1 0)) 2 (S1.1 2)) 3 (S1.1 3)) 4 (S1.1 4)) 8 (S1.1 8)).2.1 1) 0 0 6)).2.1 5) 0 0 4)).2.1 6) 0 0 4)).2.1 7) 0 0 5)) 9 (va_cpy (S1.2.2 9) ((sA (sA (sA (sA (sI (sI (sI (sI (sI S0 0 (S1.1 0)) 2 (S1.1 2)) 3 (S1.1 3)) 4 (S1.1 4)) 8 (S1.1 8)) 1 (va_cpy (S1.2.1 1) ((sI (sI (sI (sI (sI S0 0 (S1.1 0)) 2 (S1.1 2)) 3 (S1.1 3)) 4 (S1.1 4)) 8 (S1.1 8)).2.1 1) 0 0 6)) 5 (va_cpy (S1.2.1 5) ((sA (sI (sI (sI (sI (sI S0 0 (S1.1 0)) 2 (S1.1 2)) 3 (S1.1 3)) 4 (S1.1 4)) 8 (S1.1 8)) 1 (va_cpy (S1.2.1 1) ((sI (sI (sI (sI (sI S0 0 (S1.1 0)) 2 (S1.1 2)) 3 (S1.1 3)) 4 (S1.1 4)) 8 (S1.1 8)).2.1 1) 0 0 6)).2.1 5) 0 0 4)) 6 (va_cpy (S1.2.1 6) ((sA (sA (sI (sI (sI (sI (sI S0 0 (S1.1 0)) 2 (S1.1 2)) 3 (S1.1 3)) 4 (S1.1 4)) 8 (S1.1 8)) 1 (va_cpy (S1.2.1 1) ((sI (sI (sI (sI (sI S0 0 (S1.1 0)) 2 (S1.1 2)) 3 (S1.1 3)) 4 (S1.1 4)) 8 (S1.1 8)).2.1 1) 0 0 6)) 5 (va_cpy (S1.2.1 5) ((sA (sI (sI (sI (sI (sI S0 0 (S1.1 0)) 2 (S1.1 2)) 3 (S1.1 3)) 4 (S1.1 4)) 8 (S1.1 8)) 1 (va_cpy (S1.2.1 1) ((sI (sI (sI (sI (sI S0 0 (S1.1 0)) 2 (S1.1 2)) 3 (S1.1 3)) 4 (S1.1 4)) 8 (S1.1 8)).2.1 1) 0 0 6)).2.1 5) 0 0 4)).2.1 6) 0 0 4)) 7 (va_cpy (S1.2.1 7) ((sA (sA (sA (sI (sI (sI (sI (sI S0 0 (S1.1 0)) 2 (S1.1 2)) 3 (S1.1 3)) 4 (S1.1 4)) 8 (S1.1 8)) 1 (va_cpy (S1.2.1 1) ((sI (sI (sI (sI (sI S0 0 (S1.1 0)) 2 (S1.1 2)) 3 (S1.1 3)) 4 (S1.1 4)) 8 (S1.1 8)).2.1 1) 0 0 6)) 5 (va_cpy (S1.2.1 5) ((sA (sI (sI (sI (sI (sI S0 0 (S1.1 0)) 2 (S1.1 2)) 3 (S1.1 3)) 4 (S1.1 4)) 8 (S1.1 8)) 1 (va_cpy (S1.2.1 1) ((sI (sI (sI (sI (sI S0 0 (S1.1 0)) 2 (S1.1 2)) 3 (S1.1 3)) 4 (S1.1 4)) 8 (S1.1 8)).2.1 1) 0 0 6)).2.1 5) 0 0 4)) 6 (va_cpy (S1.2.1 6) ((sA (sA (sI (sI (sI (sI (sI S0 0 (S1.1 0)) 2 (S1.1 2)) 3 (S1.1 3)) 4 (S1.1 4)) 8 (S1.1 8)) 1 (va_cpy (S1.2.1 1) ((sI (sI (sI (sI (sI S0 0 (S1.1 0)) 2 (S1.1 2)) 3 (S1.1 3)) 4 (S1.1 4)) 8 (S1.1 8)).2.1 1) 0 0 6)) 5 (va_cpy (S1.2.1 5) ((sA (sI (sI (sI (sI (sI S0 0 (S1.1 0)) 2 (S1.1 2)) 3 (S1.1 3)) 4 (S1.1 4)) 8 (S1.1 8)) 1 (va_cpy (S1.2.1 1) ((sI (sI (sI (sI (sI S0 0 (S1.1 0)) 2 (S1.1 2)) 3 (S1.1 3)) 4 (S1.1 4)) 8 (S1.1 8)).2.1 1) 0 0 6)).2.1 5) 0 0 4)).2.1 6) 0 0 4)).2.1 7) 0 0 5)).2.2 9) 0 0 6)).2.2 10) 0 0 7)) := X2_w10 hB0 eg11 og11
  have hB1 : X2_at g11 a1 S1 := X2_off hB1 (fun q i1 i2 => og11 q (by omega))
  have hFr : ∀ q, (q < a0 ∨ a0 + 8 ≤ q) → g11 q = h q := fun q u0 => (og11 q (by omega)).trans (hFr q u0)
  obtain rfl := hF
  exact ab_vret C R0 dX2_become_127 ⟨rfl, rfl, hB0, hFr⟩
theorem dX2_soundAt_0 : decode cX2_soundAt 0 = .ok (.iconst 0, 1) := by decide +kernel
theorem dX2_soundAt_1 : decode cX2_soundAt 1 = .ok (.istore_n 2, 1) := by decide +kernel
theorem dX2_soundAt_2 : decode cX2_soundAt 2 = .ok (.iload_n 2, 1) := by decide +kernel
theorem dX2_soundAt_3 : decode cX2_soundAt 3 = .ok (.iconst 5, 1) := by decide +kernel
theorem dX2_soundAt_4 : decode cX2_soundAt 4 = .ok (.if_icmp .ge 26, 3) := by decide +kernel
theorem dX2_soundAt_7 : decode cX2_soundAt 7 = .ok (.aload_n 0, 1) := by decide +kernel
theorem dX2_soundAt_8 : decode cX2_soundAt 8 = .ok (.getfield 24, 3) := by decide +kernel
theorem dX2_soundAt_11 : decode cX2_soundAt 11 = .ok (.iload_n 2, 1) := by decide +kernel
theorem dX2_soundAt_12 : decode cX2_soundAt 12 = .ok (.laload, 1) := by decide +kernel
theorem dX2_soundAt_13 : decode cX2_soundAt 13 = .ok (.iload_n 1, 1) := by decide +kernel
theorem dX2_soundAt_14 : decode cX2_soundAt 14 = .ok (.lushr, 1) := by decide +kernel
theorem dX2_soundAt_15 : decode cX2_soundAt 15 = .ok (.lconst 1, 1) := by decide +kernel
theorem dX2_soundAt_16 : decode cX2_soundAt 16 = .ok (.land, 1) := by decide +kernel
theorem dX2_soundAt_17 : decode cX2_soundAt 17 = .ok (.lconst 0, 1) := by decide +kernel
theorem dX2_soundAt_18 : decode cX2_soundAt 18 = .ok (.lcmp, 1) := by decide +kernel
theorem dX2_soundAt_19 : decode cX2_soundAt 19 = .ok (.ifCond .eq 5, 3) := by decide +kernel
theorem dX2_soundAt_22 : decode cX2_soundAt 22 = .ok (.iload_n 2, 1) := by decide +kernel
theorem dX2_soundAt_23 : decode cX2_soundAt 23 = .ok (.ireturn, 1) := by decide +kernel
theorem dX2_soundAt_24 : decode cX2_soundAt 24 = .ok (.iinc 2 1, 3) := by decide +kernel
theorem dX2_soundAt_27 : decode cX2_soundAt 27 = .ok (.goto (-25), 3) := by decide +kernel
theorem dX2_soundAt_30 : decode cX2_soundAt 30 = .ok (.iconst 5, 1) := by decide +kernel
theorem dX2_soundAt_31 : decode cX2_soundAt 31 = .ok (.ireturn, 1) := by decide +kernel
def X2_soundAt_L2 (S0 : Rec) (x1 : Int32) : Nat → Int32 → Option ((Int32) ⊕ (Unit))
  | 0, _ => none
  | n2 + 1, v1 => if (5 : Int32) ≤ v1 then
      some (.inr ())
    else
      (rdL (S0.2.2 9) 6 v1).bind fun v3 =>
      if (lg_cmp (((v3.toUInt64 >>> (x1.toInt64.toUInt64 &&& Int64.toUInt64 63)).toInt64) &&& (1 : Int64)) (0 : Int64)) = 0 then
        aLet (v1 + (1 : Int32)) fun v5 =>
        X2_soundAt_L2 S0 x1 n2 v5
      else
        some (.inl v1)
def X2_soundAt (S0 : Rec) (x1 : Int32) : Option (Int32) :=
  (X2_soundAt_L2 S0 x1 aFu (0 : Int32)).bind fun e6 =>
  aCs e6 (fun t8 => some t8) (fun s7 =>
    some (5 : Int32))
set_option maxRecDepth 100000 in
set_option maxHeartbeats 4000000 in
theorem X2_soundAt_ok (l : Launch) {h : aH} {nx : Nat} {a0 : Nat} {S0 : Rec} {x1 : Int32} (hB0 : X2_at h a0 S0) {r : Int32} (hF : X2_soundAt S0 x1 = some r) : aOk l 0 0 0 yX2_soundAt cX2_soundAt 3 (some .int) [.ref a0, .int x1] h nx (aRd (.int r) h nx) := by
  refine aOk.of (by decide +kernel) (Nat.le_of_ble_eq_true rfl) (fun X G hX C R0 _ => ?_)
  subst hX
  show aV X G 3 0 [(0, .ref a0), (1, .int x1)] [] h nx 0 0
  rw [X2_soundAt] at hF
  refine ab_iconst (v := (0 : Int32)) C dX2_soundAt_0 (by decide) ?_
  refine ab_istore_n (lv' := [(2, .int (0 : Int32)), (0, .ref a0), (1, .int x1)]) C dX2_soundAt_1 rfl (by decide) rfl ?_
  have L2 : ∀ (n2 : Nat) (v1 : Int32), ∀ (res2 : (Int32) ⊕ (Unit)), X2_soundAt_L2 S0 x1 n2 v1 = some res2 → (∀ (s : Unit), res2 = .inr s → aV X G 3 30 [] [] h nx 0 0) → (∀ (t : Int32), res2 = .inl t → aRd (.int r) h nx (some (.int t)) h nx) → aV X G 3 2 [(0, .ref a0), (1, .int x1), (2, .int v1)] [] h nx 0 0 := by
    intro n2
    induction n2 with
    | zero => intro v1 res2 hF KX2 KR2; cases (show (none : Option ((Int32) ⊕ (Unit))) = some res2 from hF)
    | succ n2 ih2 =>
      intro v1 res2 hF KX2 KR2
      rw [X2_soundAt_L2] at hF
      refine ab_iload_n C 2 rfl rfl dX2_soundAt_2 ?_
      refine ab_iconst (v := (5 : Int32)) C dX2_soundAt_3 (by decide) ?_
      refine ab_icmp_ge C 30 dX2_soundAt_4 (by decide) (fun c2 => ?_) (fun c2 => ?_)
      · replace hF := (if_pos c2).symm.trans hF
        obtain rfl := Option.some.inj hF
        refine aV.sub (lv' := []) [] rfl ?_
        exact KX2 () rfl
      · replace hF := (if_neg c2).symm.trans hF
        refine ab_aload_n C 0 rfl rfl dX2_soundAt_7 ?_
        refine ab_g2 (v := .ref (a0 + 5)) C lf_X2_24 hB0.1 rfl dX2_soundAt_8 ?_
        refine ab_iload_n C 2 rfl rfl dX2_soundAt_11 ?_
        obtain ⟨v3, hxv3, hF⟩ := Option.bind_eq_some_iff.mp hF
        refine ab_lald C (X2_r9 hB0) hxv3 dX2_soundAt_12 ?_
        refine ab_iload_n C 1 rfl rfl dX2_soundAt_13 ?_
        refine ab_lushr C dX2_soundAt_14 ?_
        refine ab_lconst (v := (1 : Int64)) C dX2_soundAt_15 (by decide) ?_
        refine ab_land C dX2_soundAt_16 ?_
        refine ab_lconst (v := (0 : Int64)) C dX2_soundAt_17 (by decide) ?_
        refine ab_lcmp C dX2_soundAt_18 ?_
        refine ab_if_eq C 24 dX2_soundAt_19 (by decide) (fun c4 => ?_) (fun c4 => ?_)
        · replace hF := (if_pos c4).symm.trans hF
          obtain ⟨v5, qv5⟩ : ∃ y : Int32, y = (v1 + (1 : Int32)) := ⟨_, rfl⟩
          replace hF := aLet_e hF v5 qv5
          refine ab_iinc (lv' := [(2, .int v5), (0, .ref a0), (1, .int x1)]) C 2 rfl dX2_soundAt_24 (by rw [qv5]; rfl) (by decide) rfl ?_
          refine ab_goto C 2 dX2_soundAt_27 (by decide) ?_
          refine aV.sub (lv' := [(0, .ref a0), (1, .int x1), (2, .int v5)]) [1, 2, 0] rfl ?_
          exact ih2 v5 res2 hF KX2 KR2
        · replace hF := (if_neg c4).symm.trans hF
          refine ab_iload_n C 2 rfl rfl dX2_soundAt_22 ?_
          obtain rfl := Option.some.inj hF
          exact ab_iret C R0 rfl dX2_soundAt_23 (KR2 v1 rfl)
  refine aV.sub (lv' := [(0, .ref a0), (1, .int x1), (2, .int (0 : Int32))]) [1, 2, 0] rfl ?_
  obtain ⟨e6, he6, hF⟩ := Option.bind_eq_some_iff.mp hF
  refine L2 aFu (0 : Int32) e6 he6 (fun s7 eqs7 => ?_) (fun t8 eqt8 => ?_)
  · subst eqs7
    replace hF := aCs_r hF
    refine ab_iconst (v := (5 : Int32)) C dX2_soundAt_30 (by decide) ?_
    obtain rfl := Option.some.inj hF
    exact ab_iret C R0 rfl dX2_soundAt_31 ⟨rfl, rfl, rfl⟩
  · subst eqt8
    replace hF := aCs_l hF
    obtain rfl := Option.some.inj hF
    exact ⟨rfl, rfl, rfl⟩
theorem dX2_holderAt_0 : decode cX2_holderAt 0 = .ok (.iconst 0, 1) := by decide +kernel
theorem dX2_holderAt_1 : decode cX2_holderAt 1 = .ok (.istore_n 2, 1) := by decide +kernel
theorem dX2_holderAt_2 : decode cX2_holderAt 2 = .ok (.iload_n 2, 1) := by decide +kernel
theorem dX2_holderAt_3 : decode cX2_holderAt 3 = .ok (.bipush 6, 2) := by decide +kernel
theorem dX2_holderAt_5 : decode cX2_holderAt 5 = .ok (.if_icmp .ge 26, 3) := by decide +kernel
theorem dX2_holderAt_8 : decode cX2_holderAt 8 = .ok (.aload_n 0, 1) := by decide +kernel
theorem dX2_holderAt_9 : decode cX2_holderAt 9 = .ok (.getfield 28, 3) := by decide +kernel
theorem dX2_holderAt_12 : decode cX2_holderAt 12 = .ok (.iload_n 2, 1) := by decide +kernel
theorem dX2_holderAt_13 : decode cX2_holderAt 13 = .ok (.laload, 1) := by decide +kernel
theorem dX2_holderAt_14 : decode cX2_holderAt 14 = .ok (.iload_n 1, 1) := by decide +kernel
theorem dX2_holderAt_15 : decode cX2_holderAt 15 = .ok (.lushr, 1) := by decide +kernel
theorem dX2_holderAt_16 : decode cX2_holderAt 16 = .ok (.lconst 1, 1) := by decide +kernel
theorem dX2_holderAt_17 : decode cX2_holderAt 17 = .ok (.land, 1) := by decide +kernel
theorem dX2_holderAt_18 : decode cX2_holderAt 18 = .ok (.lconst 0, 1) := by decide +kernel
theorem dX2_holderAt_19 : decode cX2_holderAt 19 = .ok (.lcmp, 1) := by decide +kernel
theorem dX2_holderAt_20 : decode cX2_holderAt 20 = .ok (.ifCond .eq 5, 3) := by decide +kernel
theorem dX2_holderAt_23 : decode cX2_holderAt 23 = .ok (.iload_n 2, 1) := by decide +kernel
theorem dX2_holderAt_24 : decode cX2_holderAt 24 = .ok (.ireturn, 1) := by decide +kernel
theorem dX2_holderAt_25 : decode cX2_holderAt 25 = .ok (.iinc 2 1, 3) := by decide +kernel
theorem dX2_holderAt_28 : decode cX2_holderAt 28 = .ok (.goto (-26), 3) := by decide +kernel
theorem dX2_holderAt_31 : decode cX2_holderAt 31 = .ok (.bipush (-4), 2) := by decide +kernel
theorem dX2_holderAt_33 : decode cX2_holderAt 33 = .ok (.ireturn, 1) := by decide +kernel
def X2_holderAt_L2 (S0 : Rec) (x1 : Int32) : Nat → Int32 → Option ((Int32) ⊕ (Unit))
  | 0, _ => none
  | n2 + 1, v1 => if (6 : Int32) ≤ v1 then
      some (.inr ())
    else
      (rdL (S0.2.2 10) 7 v1).bind fun v3 =>
      if (lg_cmp (((v3.toUInt64 >>> (x1.toInt64.toUInt64 &&& Int64.toUInt64 63)).toInt64) &&& (1 : Int64)) (0 : Int64)) = 0 then
        aLet (v1 + (1 : Int32)) fun v5 =>
        X2_holderAt_L2 S0 x1 n2 v5
      else
        some (.inl v1)
def X2_holderAt (S0 : Rec) (x1 : Int32) : Option (Int32) :=
  (X2_holderAt_L2 S0 x1 aFu (0 : Int32)).bind fun e6 =>
  aCs e6 (fun t8 => some t8) (fun s7 =>
    some (-4 : Int32))
set_option maxRecDepth 100000 in
set_option maxHeartbeats 4000000 in
theorem X2_holderAt_ok (l : Launch) {h : aH} {nx : Nat} {a0 : Nat} {S0 : Rec} {x1 : Int32} (hB0 : X2_at h a0 S0) {r : Int32} (hF : X2_holderAt S0 x1 = some r) : aOk l 0 0 0 yX2_holderAt cX2_holderAt 3 (some .int) [.ref a0, .int x1] h nx (aRd (.int r) h nx) := by
  refine aOk.of (by decide +kernel) (Nat.le_of_ble_eq_true rfl) (fun X G hX C R0 _ => ?_)
  subst hX
  show aV X G 3 0 [(0, .ref a0), (1, .int x1)] [] h nx 0 0
  rw [X2_holderAt] at hF
  refine ab_iconst (v := (0 : Int32)) C dX2_holderAt_0 (by decide) ?_
  refine ab_istore_n (lv' := [(2, .int (0 : Int32)), (0, .ref a0), (1, .int x1)]) C dX2_holderAt_1 rfl (by decide) rfl ?_
  have L2 : ∀ (n2 : Nat) (v1 : Int32), ∀ (res2 : (Int32) ⊕ (Unit)), X2_holderAt_L2 S0 x1 n2 v1 = some res2 → (∀ (s : Unit), res2 = .inr s → aV X G 3 31 [] [] h nx 0 0) → (∀ (t : Int32), res2 = .inl t → aRd (.int r) h nx (some (.int t)) h nx) → aV X G 3 2 [(0, .ref a0), (1, .int x1), (2, .int v1)] [] h nx 0 0 := by
    intro n2
    induction n2 with
    | zero => intro v1 res2 hF KX2 KR2; cases (show (none : Option ((Int32) ⊕ (Unit))) = some res2 from hF)
    | succ n2 ih2 =>
      intro v1 res2 hF KX2 KR2
      rw [X2_holderAt_L2] at hF
      refine ab_iload_n C 2 rfl rfl dX2_holderAt_2 ?_
      refine ab_bipush (v := (6 : Int32)) C dX2_holderAt_3 (by decide) ?_
      refine ab_icmp_ge C 31 dX2_holderAt_5 (by decide) (fun c2 => ?_) (fun c2 => ?_)
      · replace hF := (if_pos c2).symm.trans hF
        obtain rfl := Option.some.inj hF
        refine aV.sub (lv' := []) [] rfl ?_
        exact KX2 () rfl
      · replace hF := (if_neg c2).symm.trans hF
        refine ab_aload_n C 0 rfl rfl dX2_holderAt_8 ?_
        refine ab_g2 (v := .ref (a0 + 6)) C lf_X2_28 hB0.1 rfl dX2_holderAt_9 ?_
        refine ab_iload_n C 2 rfl rfl dX2_holderAt_12 ?_
        obtain ⟨v3, hxv3, hF⟩ := Option.bind_eq_some_iff.mp hF
        refine ab_lald C (X2_r10 hB0) hxv3 dX2_holderAt_13 ?_
        refine ab_iload_n C 1 rfl rfl dX2_holderAt_14 ?_
        refine ab_lushr C dX2_holderAt_15 ?_
        refine ab_lconst (v := (1 : Int64)) C dX2_holderAt_16 (by decide) ?_
        refine ab_land C dX2_holderAt_17 ?_
        refine ab_lconst (v := (0 : Int64)) C dX2_holderAt_18 (by decide) ?_
        refine ab_lcmp C dX2_holderAt_19 ?_
        refine ab_if_eq C 25 dX2_holderAt_20 (by decide) (fun c4 => ?_) (fun c4 => ?_)
        · replace hF := (if_pos c4).symm.trans hF
          obtain ⟨v5, qv5⟩ : ∃ y : Int32, y = (v1 + (1 : Int32)) := ⟨_, rfl⟩
          replace hF := aLet_e hF v5 qv5
          refine ab_iinc (lv' := [(2, .int v5), (0, .ref a0), (1, .int x1)]) C 2 rfl dX2_holderAt_25 (by rw [qv5]; rfl) (by decide) rfl ?_
          refine ab_goto C 2 dX2_holderAt_28 (by decide) ?_
          refine aV.sub (lv' := [(0, .ref a0), (1, .int x1), (2, .int v5)]) [1, 2, 0] rfl ?_
          exact ih2 v5 res2 hF KX2 KR2
        · replace hF := (if_neg c4).symm.trans hF
          refine ab_iload_n C 2 rfl rfl dX2_holderAt_23 ?_
          obtain rfl := Option.some.inj hF
          exact ab_iret C R0 rfl dX2_holderAt_24 (KR2 v1 rfl)
  refine aV.sub (lv' := [(0, .ref a0), (1, .int x1), (2, .int (0 : Int32))]) [1, 2, 0] rfl ?_
  obtain ⟨e6, he6, hF⟩ := Option.bind_eq_some_iff.mp hF
  refine L2 aFu (0 : Int32) e6 he6 (fun s7 eqs7 => ?_) (fun t8 eqt8 => ?_)
  · subst eqs7
    replace hF := aCs_r hF
    refine ab_bipush (v := (-4 : Int32)) C dX2_holderAt_31 (by decide) ?_
    obtain rfl := Option.some.inj hF
    exact ab_iret C R0 rfl dX2_holderAt_33 ⟨rfl, rfl, rfl⟩
  · subst eqt8
    replace hF := aCs_l hF
    obtain rfl := Option.some.inj hF
    exact ⟨rfl, rfl, rfl⟩
theorem dX2_hand_0 : decode cX2_hand 0 = .ok (.iconst 0, 1) := by decide +kernel
theorem dX2_hand_1 : decode cX2_hand 1 = .ok (.istore 4, 2) := by decide +kernel
theorem dX2_hand_3 : decode cX2_hand 3 = .ok (.iload 4, 2) := by decide +kernel
theorem dX2_hand_5 : decode cX2_hand 5 = .ok (.bipush 6, 2) := by decide +kernel
theorem dX2_hand_7 : decode cX2_hand 7 = .ok (.if_icmp .gt 47, 3) := by decide +kernel
theorem dX2_hand_10 : decode cX2_hand 10 = .ok (.aload_n 0, 1) := by decide +kernel
theorem dX2_hand_11 : decode cX2_hand 11 = .ok (.getfield 28, 3) := by decide +kernel
theorem dX2_hand_14 : decode cX2_hand 14 = .ok (.iload 4, 2) := by decide +kernel
theorem dX2_hand_16 : decode cX2_hand 16 = .ok (.iload 4, 2) := by decide +kernel
theorem dX2_hand_18 : decode cX2_hand 18 = .ok (.iload_n 3, 1) := by decide +kernel
theorem dX2_hand_19 : decode cX2_hand 19 = .ok (.if_icmp .ne 15, 3) := by decide +kernel
theorem dX2_hand_22 : decode cX2_hand 22 = .ok (.aload_n 0, 1) := by decide +kernel
theorem dX2_hand_23 : decode cX2_hand 23 = .ok (.getfield 28, 3) := by decide +kernel
theorem dX2_hand_26 : decode cX2_hand 26 = .ok (.iload 4, 2) := by decide +kernel
theorem dX2_hand_28 : decode cX2_hand 28 = .ok (.laload, 1) := by decide +kernel
theorem dX2_hand_29 : decode cX2_hand 29 = .ok (.lload_n 1, 1) := by decide +kernel
theorem dX2_hand_30 : decode cX2_hand 30 = .ok (.lor, 1) := by decide +kernel
theorem dX2_hand_31 : decode cX2_hand 31 = .ok (.goto 16, 3) := by decide +kernel
theorem dX2_hand_34 : decode cX2_hand 34 = .ok (.aload_n 0, 1) := by decide +kernel
theorem dX2_hand_35 : decode cX2_hand 35 = .ok (.getfield 28, 3) := by decide +kernel
theorem dX2_hand_38 : decode cX2_hand 38 = .ok (.iload 4, 2) := by decide +kernel
theorem dX2_hand_40 : decode cX2_hand 40 = .ok (.laload, 1) := by decide +kernel
theorem dX2_hand_41 : decode cX2_hand 41 = .ok (.lload_n 1, 1) := by decide +kernel
theorem dX2_hand_42 : decode cX2_hand 42 = .ok (.ldc2_w 60, 3) := by decide +kernel
theorem dX2_hand_45 : decode cX2_hand 45 = .ok (.lxor, 1) := by decide +kernel
theorem dX2_hand_46 : decode cX2_hand 46 = .ok (.land, 1) := by decide +kernel
theorem dX2_hand_47 : decode cX2_hand 47 = .ok (.lastore, 1) := by decide +kernel
theorem dX2_hand_48 : decode cX2_hand 48 = .ok (.iinc 4 1, 3) := by decide +kernel
theorem dX2_hand_51 : decode cX2_hand 51 = .ok (.goto (-48), 3) := by decide +kernel
theorem dX2_hand_54 : decode cX2_hand 54 = .ok (.return_, 1) := by decide +kernel
def X2_hand_L3 (x3 : Int32) (y1 : Int64) : Nat → Int32 → Rec → Option (Rec)
  | 0, _, _ => none
  | n3 + 1, v1, Z2 => if (6 : Int32) < v1 then
      some Z2
    else
      if v1 = x3 then
        (rdL (Z2.2.2 10) 7 v1).bind fun v10 =>
        (wrL (Z2.2.2 10) 7 v1 (v10 ||| y1)).bind fun w11 =>
        aLet (v1 + (1 : Int32)) fun v13 =>
        X2_hand_L3 x3 y1 n3 v13 (sL Z2 10 w11)
      else
        (rdL (Z2.2.2 10) 7 v1).bind fun v6 =>
        (wrL (Z2.2.2 10) 7 v1 (v6 &&& (y1 ^^^ (-1 : Int64)))).bind fun w7 =>
        aLet (v1 + (1 : Int32)) fun v9 =>
        X2_hand_L3 x3 y1 n3 v9 (sL Z2 10 w7)
def X2_hand (S0 : Rec) (y1 : Int64) (x3 : Int32) : Option (Rec) :=
  (X2_hand_L3 x3 y1 aFu (0 : Int32) S0).bind fun e14 =>
  some e14
set_option maxRecDepth 100000 in
set_option maxHeartbeats 4000000 in
theorem X2_hand_ok (l : Launch) {h : aH} {nx : Nat} {a0 : Nat} {S0 : Rec} {y1 : Int64} {x3 : Int32} (hB0 : X2_at h a0 S0) {r : Rec} (hF : X2_hand S0 y1 x3 = some r) : aOk l 0 0 0 yX2_hand cX2_hand 5 none [.ref a0, .long y1, .int x3] h nx (aMt none nx (fun h1 => X2_at h1 a0 r ∧ (∀ q, (q < a0 ∨ a0 + 8 ≤ q) → h1 q = h q))) := by
  refine aOk.of (by decide +kernel) (Nat.le_of_ble_eq_true rfl) (fun X G hX C R0 _ => ?_)
  subst hX
  show aV X G 5 0 [(0, .ref a0), (1, .long y1), (3, .int x3)] [] h nx 0 0
  have hFr : ∀ q, (q < a0 ∨ a0 + 8 ≤ q) → h q = h q := fun _ _ => rfl
  rw [X2_hand] at hF
  refine ab_iconst (v := (0 : Int32)) C dX2_hand_0 (by decide) ?_
  refine ab_istore (lv' := [(4, .int (0 : Int32)), (0, .ref a0), (1, .long y1), (3, .int x3)]) C dX2_hand_1 (by decide) rfl ?_
  have L3 : ∀ (n3 : Nat) (v1 : Int32) (Z2 : Rec) (g3 : aH), (X2_at g3 a0 Z2) → (∀ q, (q < a0 ∨ a0 + 8 ≤ q) → g3 q = h q) → ∀ (res3 : Rec), X2_hand_L3 x3 y1 n3 v1 Z2 = some res3 → (∀ (q9 : aH), (X2_at q9 a0 res3) → (∀ q, (q < a0 ∨ a0 + 8 ≤ q) → q9 q = h q) → aV X G 5 54 [] [] q9 nx 0 0) → aV X G 5 3 [(0, .ref a0), (1, .long y1), (3, .int x3), (4, .int v1)] [] g3 nx 0 0 := by
    intro n3
    induction n3 with
    | zero => intro v1 Z2 g3 hB0 hFr res3 hF KX3; cases (show (none : Option (Rec)) = some res3 from hF)
    | succ n3 ih3 =>
      intro v1 Z2 g3 hB0 hFr res3 hF KX3
      rw [X2_hand_L3] at hF
      refine ab_iload C 3 rfl dX2_hand_3 ?_
      refine ab_bipush (v := (6 : Int32)) C dX2_hand_5 (by decide) ?_
      refine ab_icmp_gt C 54 dX2_hand_7 (by decide) (fun c4 => ?_) (fun c4 => ?_)
      · replace hF := (if_pos c4).symm.trans hF
        obtain rfl := Option.some.inj hF
        refine aV.sub (lv' := []) [] rfl ?_
        exact KX3 g3 hB0 hFr
      · replace hF := (if_neg c4).symm.trans hF
        refine ab_aload_n C 0 rfl rfl dX2_hand_10 ?_
        refine ab_g2 (v := .ref (a0 + 6)) C lf_X2_28 hB0.1 rfl dX2_hand_11 ?_
        refine ab_iload C 3 rfl dX2_hand_14 ?_
        refine ab_iload C 3 rfl dX2_hand_16 ?_
        refine ab_iload_n C 2 rfl rfl dX2_hand_18 ?_
        refine ab_icmp_ne C 34 dX2_hand_19 (by decide) (fun c5 => ?_) (fun c5 => ?_)
        · replace hF := (if_neg c5).symm.trans hF
          refine ab_aload_n C 0 rfl rfl dX2_hand_34 ?_
          refine ab_g2 (v := .ref (a0 + 6)) C lf_X2_28 hB0.1 rfl dX2_hand_35 ?_
          refine ab_iload C 3 rfl dX2_hand_38 ?_
          obtain ⟨v6, hxv6, hF⟩ := Option.bind_eq_some_iff.mp hF
          refine ab_lald C (X2_r10 hB0) hxv6 dX2_hand_40 ?_
          refine ab_lload_n C 1 rfl rfl dX2_hand_41 ?_
          refine ab_ldc2 (v := (-1 : Int64)) C dX2_hand_42 lq_X2_60 ?_
          refine ab_lxor C dX2_hand_45 ?_
          refine ab_land C dX2_hand_46 ?_
          obtain ⟨w7, hxw7, hF⟩ := Option.bind_eq_some_iff.mp hF
          refine ab_last C (X2_r10 hB0) hxw7 dX2_hand_47 (fun g8 eg8 og8 => ?_)
          have hB0 : X2_at g8 a0 (sL Z2 10 w7) := X2_w10 hB0 eg8 og8
          have hFr : ∀ q, (q < a0 ∨ a0 + 8 ≤ q) → g8 q = h q := fun q u0 => (og8 q (by omega)).trans (hFr q u0)
          obtain ⟨v9, qv9⟩ : ∃ y : Int32, y = (v1 + (1 : Int32)) := ⟨_, rfl⟩
          replace hF := aLet_e hF v9 qv9
          refine ab_iinc (lv' := [(4, .int v9), (0, .ref a0), (1, .long y1), (3, .int x3)]) C 3 rfl dX2_hand_48 (by rw [qv9]; rfl) (by decide) rfl ?_
          refine ab_goto C 3 dX2_hand_51 (by decide) ?_
          refine aV.sub (lv' := [(0, .ref a0), (1, .long y1), (3, .int x3), (4, .int v9)]) [1, 2, 3, 0] rfl ?_
          exact ih3 v9 (sL Z2 10 w7) g8 hB0 hFr res3 hF KX3
        · replace hF := (if_pos c5).symm.trans hF
          refine ab_aload_n C 0 rfl rfl dX2_hand_22 ?_
          refine ab_g2 (v := .ref (a0 + 6)) C lf_X2_28 hB0.1 rfl dX2_hand_23 ?_
          refine ab_iload C 3 rfl dX2_hand_26 ?_
          obtain ⟨v10, hxv10, hF⟩ := Option.bind_eq_some_iff.mp hF
          refine ab_lald C (X2_r10 hB0) hxv10 dX2_hand_28 ?_
          refine ab_lload_n C 1 rfl rfl dX2_hand_29 ?_
          refine ab_lor C dX2_hand_30 ?_
          refine ab_goto C 47 dX2_hand_31 (by decide) ?_
          obtain ⟨w11, hxw11, hF⟩ := Option.bind_eq_some_iff.mp hF
          refine ab_last C (X2_r10 hB0) hxw11 dX2_hand_47 (fun g12 eg12 og12 => ?_)
          have hB0 : X2_at g12 a0 (sL Z2 10 w11) := X2_w10 hB0 eg12 og12
          have hFr : ∀ q, (q < a0 ∨ a0 + 8 ≤ q) → g12 q = h q := fun q u0 => (og12 q (by omega)).trans (hFr q u0)
          obtain ⟨v13, qv13⟩ : ∃ y : Int32, y = (v1 + (1 : Int32)) := ⟨_, rfl⟩
          replace hF := aLet_e hF v13 qv13
          refine ab_iinc (lv' := [(4, .int v13), (0, .ref a0), (1, .long y1), (3, .int x3)]) C 3 rfl dX2_hand_48 (by rw [qv13]; rfl) (by decide) rfl ?_
          refine ab_goto C 3 dX2_hand_51 (by decide) ?_
          refine aV.sub (lv' := [(0, .ref a0), (1, .long y1), (3, .int x3), (4, .int v13)]) [1, 2, 3, 0] rfl ?_
          exact ih3 v13 (sL Z2 10 w11) g12 hB0 hFr res3 hF KX3
  refine aV.sub (lv' := [(0, .ref a0), (1, .long y1), (3, .int x3), (4, .int (0 : Int32))]) [1, 2, 3, 0] rfl ?_
  obtain ⟨e14, he14, hF⟩ := Option.bind_eq_some_iff.mp hF
  refine L3 aFu (0 : Int32) S0 h hB0 hFr e14 he14 (fun g15 hB0 hFr => ?_)
  obtain rfl := Option.some.inj hF
  exact ab_vret C R0 dX2_hand_54 ⟨rfl, rfl, hB0, hFr⟩
theorem dX2_tune_0 : decode cX2_tune 0 = .ok (.iconst 0, 1) := by decide +kernel
theorem dX2_tune_1 : decode cX2_tune 1 = .ok (.istore 4, 2) := by decide +kernel
theorem dX2_tune_3 : decode cX2_tune 3 = .ok (.iload 4, 2) := by decide +kernel
theorem dX2_tune_5 : decode cX2_tune 5 = .ok (.bipush 6, 2) := by decide +kernel
theorem dX2_tune_7 : decode cX2_tune 7 = .ok (.if_icmp .ge 47, 3) := by decide +kernel
theorem dX2_tune_10 : decode cX2_tune 10 = .ok (.aload_n 0, 1) := by decide +kernel
theorem dX2_tune_11 : decode cX2_tune 11 = .ok (.getfield 24, 3) := by decide +kernel
theorem dX2_tune_14 : decode cX2_tune 14 = .ok (.iload 4, 2) := by decide +kernel
theorem dX2_tune_16 : decode cX2_tune 16 = .ok (.iload 4, 2) := by decide +kernel
theorem dX2_tune_18 : decode cX2_tune 18 = .ok (.iload_n 3, 1) := by decide +kernel
theorem dX2_tune_19 : decode cX2_tune 19 = .ok (.if_icmp .ne 15, 3) := by decide +kernel
theorem dX2_tune_22 : decode cX2_tune 22 = .ok (.aload_n 0, 1) := by decide +kernel
theorem dX2_tune_23 : decode cX2_tune 23 = .ok (.getfield 24, 3) := by decide +kernel
theorem dX2_tune_26 : decode cX2_tune 26 = .ok (.iload 4, 2) := by decide +kernel
theorem dX2_tune_28 : decode cX2_tune 28 = .ok (.laload, 1) := by decide +kernel
theorem dX2_tune_29 : decode cX2_tune 29 = .ok (.lload_n 1, 1) := by decide +kernel
theorem dX2_tune_30 : decode cX2_tune 30 = .ok (.lor, 1) := by decide +kernel
theorem dX2_tune_31 : decode cX2_tune 31 = .ok (.goto 16, 3) := by decide +kernel
theorem dX2_tune_34 : decode cX2_tune 34 = .ok (.aload_n 0, 1) := by decide +kernel
theorem dX2_tune_35 : decode cX2_tune 35 = .ok (.getfield 24, 3) := by decide +kernel
theorem dX2_tune_38 : decode cX2_tune 38 = .ok (.iload 4, 2) := by decide +kernel
theorem dX2_tune_40 : decode cX2_tune 40 = .ok (.laload, 1) := by decide +kernel
theorem dX2_tune_41 : decode cX2_tune 41 = .ok (.lload_n 1, 1) := by decide +kernel
theorem dX2_tune_42 : decode cX2_tune 42 = .ok (.ldc2_w 60, 3) := by decide +kernel
theorem dX2_tune_45 : decode cX2_tune 45 = .ok (.lxor, 1) := by decide +kernel
theorem dX2_tune_46 : decode cX2_tune 46 = .ok (.land, 1) := by decide +kernel
theorem dX2_tune_47 : decode cX2_tune 47 = .ok (.lastore, 1) := by decide +kernel
theorem dX2_tune_48 : decode cX2_tune 48 = .ok (.iinc 4 1, 3) := by decide +kernel
theorem dX2_tune_51 : decode cX2_tune 51 = .ok (.goto (-48), 3) := by decide +kernel
theorem dX2_tune_54 : decode cX2_tune 54 = .ok (.return_, 1) := by decide +kernel
def X2_tune_L3 (x3 : Int32) (y1 : Int64) : Nat → Int32 → Rec → Option (Rec)
  | 0, _, _ => none
  | n3 + 1, v1, Z2 => if (6 : Int32) ≤ v1 then
      some Z2
    else
      if v1 = x3 then
        (rdL (Z2.2.2 9) 6 v1).bind fun v10 =>
        (wrL (Z2.2.2 9) 6 v1 (v10 ||| y1)).bind fun w11 =>
        aLet (v1 + (1 : Int32)) fun v13 =>
        X2_tune_L3 x3 y1 n3 v13 (sL Z2 9 w11)
      else
        (rdL (Z2.2.2 9) 6 v1).bind fun v6 =>
        (wrL (Z2.2.2 9) 6 v1 (v6 &&& (y1 ^^^ (-1 : Int64)))).bind fun w7 =>
        aLet (v1 + (1 : Int32)) fun v9 =>
        X2_tune_L3 x3 y1 n3 v9 (sL Z2 9 w7)
def X2_tune (S0 : Rec) (y1 : Int64) (x3 : Int32) : Option (Rec) :=
  (X2_tune_L3 x3 y1 aFu (0 : Int32) S0).bind fun e14 =>
  some e14
set_option maxRecDepth 100000 in
set_option maxHeartbeats 4000000 in
theorem X2_tune_ok (l : Launch) {h : aH} {nx : Nat} {a0 : Nat} {S0 : Rec} {y1 : Int64} {x3 : Int32} (hB0 : X2_at h a0 S0) {r : Rec} (hF : X2_tune S0 y1 x3 = some r) : aOk l 0 0 0 yX2_tune cX2_tune 5 none [.ref a0, .long y1, .int x3] h nx (aMt none nx (fun h1 => X2_at h1 a0 r ∧ (∀ q, (q < a0 ∨ a0 + 8 ≤ q) → h1 q = h q))) := by
  refine aOk.of (by decide +kernel) (Nat.le_of_ble_eq_true rfl) (fun X G hX C R0 _ => ?_)
  subst hX
  show aV X G 5 0 [(0, .ref a0), (1, .long y1), (3, .int x3)] [] h nx 0 0
  have hFr : ∀ q, (q < a0 ∨ a0 + 8 ≤ q) → h q = h q := fun _ _ => rfl
  rw [X2_tune] at hF
  refine ab_iconst (v := (0 : Int32)) C dX2_tune_0 (by decide) ?_
  refine ab_istore (lv' := [(4, .int (0 : Int32)), (0, .ref a0), (1, .long y1), (3, .int x3)]) C dX2_tune_1 (by decide) rfl ?_
  have L3 : ∀ (n3 : Nat) (v1 : Int32) (Z2 : Rec) (g3 : aH), (X2_at g3 a0 Z2) → (∀ q, (q < a0 ∨ a0 + 8 ≤ q) → g3 q = h q) → ∀ (res3 : Rec), X2_tune_L3 x3 y1 n3 v1 Z2 = some res3 → (∀ (q9 : aH), (X2_at q9 a0 res3) → (∀ q, (q < a0 ∨ a0 + 8 ≤ q) → q9 q = h q) → aV X G 5 54 [] [] q9 nx 0 0) → aV X G 5 3 [(0, .ref a0), (1, .long y1), (3, .int x3), (4, .int v1)] [] g3 nx 0 0 := by
    intro n3
    induction n3 with
    | zero => intro v1 Z2 g3 hB0 hFr res3 hF KX3; cases (show (none : Option (Rec)) = some res3 from hF)
    | succ n3 ih3 =>
      intro v1 Z2 g3 hB0 hFr res3 hF KX3
      rw [X2_tune_L3] at hF
      refine ab_iload C 3 rfl dX2_tune_3 ?_
      refine ab_bipush (v := (6 : Int32)) C dX2_tune_5 (by decide) ?_
      refine ab_icmp_ge C 54 dX2_tune_7 (by decide) (fun c4 => ?_) (fun c4 => ?_)
      · replace hF := (if_pos c4).symm.trans hF
        obtain rfl := Option.some.inj hF
        refine aV.sub (lv' := []) [] rfl ?_
        exact KX3 g3 hB0 hFr
      · replace hF := (if_neg c4).symm.trans hF
        refine ab_aload_n C 0 rfl rfl dX2_tune_10 ?_
        refine ab_g2 (v := .ref (a0 + 5)) C lf_X2_24 hB0.1 rfl dX2_tune_11 ?_
        refine ab_iload C 3 rfl dX2_tune_14 ?_
        refine ab_iload C 3 rfl dX2_tune_16 ?_
        refine ab_iload_n C 2 rfl rfl dX2_tune_18 ?_
        refine ab_icmp_ne C 34 dX2_tune_19 (by decide) (fun c5 => ?_) (fun c5 => ?_)
        · replace hF := (if_neg c5).symm.trans hF
          refine ab_aload_n C 0 rfl rfl dX2_tune_34 ?_
          refine ab_g2 (v := .ref (a0 + 5)) C lf_X2_24 hB0.1 rfl dX2_tune_35 ?_
          refine ab_iload C 3 rfl dX2_tune_38 ?_
          obtain ⟨v6, hxv6, hF⟩ := Option.bind_eq_some_iff.mp hF
          refine ab_lald C (X2_r9 hB0) hxv6 dX2_tune_40 ?_
          refine ab_lload_n C 1 rfl rfl dX2_tune_41 ?_
          refine ab_ldc2 (v := (-1 : Int64)) C dX2_tune_42 lq_X2_60 ?_
          refine ab_lxor C dX2_tune_45 ?_
          refine ab_land C dX2_tune_46 ?_
          obtain ⟨w7, hxw7, hF⟩ := Option.bind_eq_some_iff.mp hF
          refine ab_last C (X2_r9 hB0) hxw7 dX2_tune_47 (fun g8 eg8 og8 => ?_)
          have hB0 : X2_at g8 a0 (sL Z2 9 w7) := X2_w9 hB0 eg8 og8
          have hFr : ∀ q, (q < a0 ∨ a0 + 8 ≤ q) → g8 q = h q := fun q u0 => (og8 q (by omega)).trans (hFr q u0)
          obtain ⟨v9, qv9⟩ : ∃ y : Int32, y = (v1 + (1 : Int32)) := ⟨_, rfl⟩
          replace hF := aLet_e hF v9 qv9
          refine ab_iinc (lv' := [(4, .int v9), (0, .ref a0), (1, .long y1), (3, .int x3)]) C 3 rfl dX2_tune_48 (by rw [qv9]; rfl) (by decide) rfl ?_
          refine ab_goto C 3 dX2_tune_51 (by decide) ?_
          refine aV.sub (lv' := [(0, .ref a0), (1, .long y1), (3, .int x3), (4, .int v9)]) [1, 2, 3, 0] rfl ?_
          exact ih3 v9 (sL Z2 9 w7) g8 hB0 hFr res3 hF KX3
        · replace hF := (if_pos c5).symm.trans hF
          refine ab_aload_n C 0 rfl rfl dX2_tune_22 ?_
          refine ab_g2 (v := .ref (a0 + 5)) C lf_X2_24 hB0.1 rfl dX2_tune_23 ?_
          refine ab_iload C 3 rfl dX2_tune_26 ?_
          obtain ⟨v10, hxv10, hF⟩ := Option.bind_eq_some_iff.mp hF
          refine ab_lald C (X2_r9 hB0) hxv10 dX2_tune_28 ?_
          refine ab_lload_n C 1 rfl rfl dX2_tune_29 ?_
          refine ab_lor C dX2_tune_30 ?_
          refine ab_goto C 47 dX2_tune_31 (by decide) ?_
          obtain ⟨w11, hxw11, hF⟩ := Option.bind_eq_some_iff.mp hF
          refine ab_last C (X2_r9 hB0) hxw11 dX2_tune_47 (fun g12 eg12 og12 => ?_)
          have hB0 : X2_at g12 a0 (sL Z2 9 w11) := X2_w9 hB0 eg12 og12
          have hFr : ∀ q, (q < a0 ∨ a0 + 8 ≤ q) → g12 q = h q := fun q u0 => (og12 q (by omega)).trans (hFr q u0)
          obtain ⟨v13, qv13⟩ : ∃ y : Int32, y = (v1 + (1 : Int32)) := ⟨_, rfl⟩
          replace hF := aLet_e hF v13 qv13
          refine ab_iinc (lv' := [(4, .int v13), (0, .ref a0), (1, .long y1), (3, .int x3)]) C 3 rfl dX2_tune_48 (by rw [qv13]; rfl) (by decide) rfl ?_
          refine ab_goto C 3 dX2_tune_51 (by decide) ?_
          refine aV.sub (lv' := [(0, .ref a0), (1, .long y1), (3, .int x3), (4, .int v13)]) [1, 2, 3, 0] rfl ?_
          exact ih3 v13 (sL Z2 9 w11) g12 hB0 hFr res3 hF KX3
  refine aV.sub (lv' := [(0, .ref a0), (1, .long y1), (3, .int x3), (4, .int (0 : Int32))]) [1, 2, 3, 0] rfl ?_
  obtain ⟨e14, he14, hF⟩ := Option.bind_eq_some_iff.mp hF
  refine L3 aFu (0 : Int32) S0 h hB0 hFr e14 he14 (fun g15 hB0 hFr => ?_)
  obtain rfl := Option.some.inj hF
  exact ab_vret C R0 dX2_tune_54 ⟨rfl, rfl, hB0, hFr⟩
theorem dJ13_bitCount_95d88_0 : decode cJ13_bitCount_95d88 0 = .ok (.lload_n 0, 1) := by decide +kernel
theorem dJ13_bitCount_95d88_1 : decode cJ13_bitCount_95d88 1 = .ok (.lload_n 0, 1) := by decide +kernel
theorem dJ13_bitCount_95d88_2 : decode cJ13_bitCount_95d88 2 = .ok (.iconst 1, 1) := by decide +kernel
theorem dJ13_bitCount_95d88_3 : decode cJ13_bitCount_95d88 3 = .ok (.lushr, 1) := by decide +kernel
theorem dJ13_bitCount_95d88_4 : decode cJ13_bitCount_95d88 4 = .ok (.ldc2_w 314, 3) := by decide +kernel
theorem dJ13_bitCount_95d88_7 : decode cJ13_bitCount_95d88 7 = .ok (.land, 1) := by decide +kernel
theorem dJ13_bitCount_95d88_8 : decode cJ13_bitCount_95d88 8 = .ok (.lsub, 1) := by decide +kernel
theorem dJ13_bitCount_95d88_9 : decode cJ13_bitCount_95d88 9 = .ok (.lstore_n 0, 1) := by decide +kernel
theorem dJ13_bitCount_95d88_10 : decode cJ13_bitCount_95d88 10 = .ok (.lload_n 0, 1) := by decide +kernel
theorem dJ13_bitCount_95d88_11 : decode cJ13_bitCount_95d88 11 = .ok (.ldc2_w 316, 3) := by decide +kernel
theorem dJ13_bitCount_95d88_14 : decode cJ13_bitCount_95d88 14 = .ok (.land, 1) := by decide +kernel
theorem dJ13_bitCount_95d88_15 : decode cJ13_bitCount_95d88 15 = .ok (.lload_n 0, 1) := by decide +kernel
theorem dJ13_bitCount_95d88_16 : decode cJ13_bitCount_95d88 16 = .ok (.iconst 2, 1) := by decide +kernel
theorem dJ13_bitCount_95d88_17 : decode cJ13_bitCount_95d88 17 = .ok (.lushr, 1) := by decide +kernel
theorem dJ13_bitCount_95d88_18 : decode cJ13_bitCount_95d88 18 = .ok (.ldc2_w 316, 3) := by decide +kernel
theorem dJ13_bitCount_95d88_21 : decode cJ13_bitCount_95d88 21 = .ok (.land, 1) := by decide +kernel
theorem dJ13_bitCount_95d88_22 : decode cJ13_bitCount_95d88 22 = .ok (.ladd, 1) := by decide +kernel
theorem dJ13_bitCount_95d88_23 : decode cJ13_bitCount_95d88 23 = .ok (.lstore_n 0, 1) := by decide +kernel
theorem dJ13_bitCount_95d88_24 : decode cJ13_bitCount_95d88 24 = .ok (.lload_n 0, 1) := by decide +kernel
theorem dJ13_bitCount_95d88_25 : decode cJ13_bitCount_95d88 25 = .ok (.lload_n 0, 1) := by decide +kernel
theorem dJ13_bitCount_95d88_26 : decode cJ13_bitCount_95d88 26 = .ok (.iconst 4, 1) := by decide +kernel
theorem dJ13_bitCount_95d88_27 : decode cJ13_bitCount_95d88 27 = .ok (.lushr, 1) := by decide +kernel
theorem dJ13_bitCount_95d88_28 : decode cJ13_bitCount_95d88 28 = .ok (.ladd, 1) := by decide +kernel
theorem dJ13_bitCount_95d88_29 : decode cJ13_bitCount_95d88 29 = .ok (.ldc2_w 318, 3) := by decide +kernel
theorem dJ13_bitCount_95d88_32 : decode cJ13_bitCount_95d88 32 = .ok (.land, 1) := by decide +kernel
theorem dJ13_bitCount_95d88_33 : decode cJ13_bitCount_95d88 33 = .ok (.lstore_n 0, 1) := by decide +kernel
theorem dJ13_bitCount_95d88_34 : decode cJ13_bitCount_95d88 34 = .ok (.lload_n 0, 1) := by decide +kernel
theorem dJ13_bitCount_95d88_35 : decode cJ13_bitCount_95d88 35 = .ok (.lload_n 0, 1) := by decide +kernel
theorem dJ13_bitCount_95d88_36 : decode cJ13_bitCount_95d88 36 = .ok (.bipush 8, 2) := by decide +kernel
theorem dJ13_bitCount_95d88_38 : decode cJ13_bitCount_95d88 38 = .ok (.lushr, 1) := by decide +kernel
theorem dJ13_bitCount_95d88_39 : decode cJ13_bitCount_95d88 39 = .ok (.ladd, 1) := by decide +kernel
theorem dJ13_bitCount_95d88_40 : decode cJ13_bitCount_95d88 40 = .ok (.lstore_n 0, 1) := by decide +kernel
theorem dJ13_bitCount_95d88_41 : decode cJ13_bitCount_95d88 41 = .ok (.lload_n 0, 1) := by decide +kernel
theorem dJ13_bitCount_95d88_42 : decode cJ13_bitCount_95d88 42 = .ok (.lload_n 0, 1) := by decide +kernel
theorem dJ13_bitCount_95d88_43 : decode cJ13_bitCount_95d88 43 = .ok (.bipush 16, 2) := by decide +kernel
theorem dJ13_bitCount_95d88_45 : decode cJ13_bitCount_95d88 45 = .ok (.lushr, 1) := by decide +kernel
theorem dJ13_bitCount_95d88_46 : decode cJ13_bitCount_95d88 46 = .ok (.ladd, 1) := by decide +kernel
theorem dJ13_bitCount_95d88_47 : decode cJ13_bitCount_95d88 47 = .ok (.lstore_n 0, 1) := by decide +kernel
theorem dJ13_bitCount_95d88_48 : decode cJ13_bitCount_95d88 48 = .ok (.lload_n 0, 1) := by decide +kernel
theorem dJ13_bitCount_95d88_49 : decode cJ13_bitCount_95d88 49 = .ok (.lload_n 0, 1) := by decide +kernel
theorem dJ13_bitCount_95d88_50 : decode cJ13_bitCount_95d88 50 = .ok (.bipush 32, 2) := by decide +kernel
theorem dJ13_bitCount_95d88_52 : decode cJ13_bitCount_95d88 52 = .ok (.lushr, 1) := by decide +kernel
theorem dJ13_bitCount_95d88_53 : decode cJ13_bitCount_95d88 53 = .ok (.ladd, 1) := by decide +kernel
theorem dJ13_bitCount_95d88_54 : decode cJ13_bitCount_95d88 54 = .ok (.lstore_n 0, 1) := by decide +kernel
theorem dJ13_bitCount_95d88_55 : decode cJ13_bitCount_95d88 55 = .ok (.lload_n 0, 1) := by decide +kernel
theorem dJ13_bitCount_95d88_56 : decode cJ13_bitCount_95d88 56 = .ok (.l2i, 1) := by decide +kernel
theorem dJ13_bitCount_95d88_57 : decode cJ13_bitCount_95d88 57 = .ok (.bipush 127, 2) := by decide +kernel
theorem dJ13_bitCount_95d88_59 : decode cJ13_bitCount_95d88 59 = .ok (.iand, 1) := by decide +kernel
theorem dJ13_bitCount_95d88_60 : decode cJ13_bitCount_95d88 60 = .ok (.ireturn, 1) := by decide +kernel
def J13_bitCount_95d88 (y0 : Int64) : Int32 :=
  aLet (y0 - (((y0.toUInt64 >>> ((1 : Int32).toInt64.toUInt64 &&& Int64.toUInt64 63)).toInt64) &&& (6148914691236517205 : Int64))) fun v1 =>
  aLet ((v1 &&& (3689348814741910323 : Int64)) + (((v1.toUInt64 >>> ((2 : Int32).toInt64.toUInt64 &&& Int64.toUInt64 63)).toInt64) &&& (3689348814741910323 : Int64))) fun v2 =>
  aLet ((v2 + ((v2.toUInt64 >>> ((4 : Int32).toInt64.toUInt64 &&& Int64.toUInt64 63)).toInt64)) &&& (1085102592571150095 : Int64)) fun v3 =>
  aLet (v3 + ((v3.toUInt64 >>> ((8 : Int32).toInt64.toUInt64 &&& Int64.toUInt64 63)).toInt64)) fun v4 =>
  aLet (v4 + ((v4.toUInt64 >>> ((16 : Int32).toInt64.toUInt64 &&& Int64.toUInt64 63)).toInt64)) fun v5 =>
  aLet (v5 + ((v5.toUInt64 >>> ((32 : Int32).toInt64.toUInt64 &&& Int64.toUInt64 63)).toInt64)) fun v6 =>
  ((v6.toInt32) &&& (127 : Int32))
set_option maxRecDepth 100000 in
set_option maxHeartbeats 4000000 in
theorem J13_bitCount_95d88_ok (l : Launch) {h : aH} {nx : Nat} {y0 : Int64} {r : Int32} (hF : J13_bitCount_95d88 y0 = r) : aOk l 0 0 0 yJ13_bitCount_95d88 cJ13_bitCount_95d88 2 (some .int) [.long y0] h nx (aRd (.int r) h nx) := by
  refine aOk.of (by decide +kernel) (Nat.le_of_ble_eq_true rfl) (fun X G hX C R0 _ => ?_)
  subst hX
  show aV X G 2 0 [(0, .long y0)] [] h nx 0 0
  rw [J13_bitCount_95d88] at hF
  refine ab_lload_n C 0 rfl rfl dJ13_bitCount_95d88_0 ?_
  refine ab_lload_n C 0 rfl rfl dJ13_bitCount_95d88_1 ?_
  refine ab_iconst (v := (1 : Int32)) C dJ13_bitCount_95d88_2 (by decide) ?_
  refine ab_lushr C dJ13_bitCount_95d88_3 ?_
  refine ab_ldc2 (v := (6148914691236517205 : Int64)) C dJ13_bitCount_95d88_4 lq_J13_314 ?_
  refine ab_land C dJ13_bitCount_95d88_7 ?_
  refine ab_lsub C dJ13_bitCount_95d88_8 ?_
  refine ab_topl (fun v1 qv1 => ?_)
  replace hF := aLet_e hF v1 qv1
  refine ab_lstore_n (lv' := [(0, .long v1)]) C dJ13_bitCount_95d88_9 rfl ⟨by decide, by decide⟩ rfl ?_
  refine ab_lload_n C 0 rfl rfl dJ13_bitCount_95d88_10 ?_
  refine ab_ldc2 (v := (3689348814741910323 : Int64)) C dJ13_bitCount_95d88_11 lq_J13_316 ?_
  refine ab_land C dJ13_bitCount_95d88_14 ?_
  refine ab_lload_n C 0 rfl rfl dJ13_bitCount_95d88_15 ?_
  refine ab_iconst (v := (2 : Int32)) C dJ13_bitCount_95d88_16 (by decide) ?_
  refine ab_lushr C dJ13_bitCount_95d88_17 ?_
  refine ab_ldc2 (v := (3689348814741910323 : Int64)) C dJ13_bitCount_95d88_18 lq_J13_316 ?_
  refine ab_land C dJ13_bitCount_95d88_21 ?_
  refine ab_ladd C dJ13_bitCount_95d88_22 ?_
  refine ab_topl (fun v2 qv2 => ?_)
  replace hF := aLet_e hF v2 qv2
  refine ab_lstore_n (lv' := [(0, .long v2)]) C dJ13_bitCount_95d88_23 rfl ⟨by decide, by decide⟩ rfl ?_
  refine ab_lload_n C 0 rfl rfl dJ13_bitCount_95d88_24 ?_
  refine ab_lload_n C 0 rfl rfl dJ13_bitCount_95d88_25 ?_
  refine ab_iconst (v := (4 : Int32)) C dJ13_bitCount_95d88_26 (by decide) ?_
  refine ab_lushr C dJ13_bitCount_95d88_27 ?_
  refine ab_ladd C dJ13_bitCount_95d88_28 ?_
  refine ab_ldc2 (v := (1085102592571150095 : Int64)) C dJ13_bitCount_95d88_29 lq_J13_318 ?_
  refine ab_land C dJ13_bitCount_95d88_32 ?_
  refine ab_topl (fun v3 qv3 => ?_)
  replace hF := aLet_e hF v3 qv3
  refine ab_lstore_n (lv' := [(0, .long v3)]) C dJ13_bitCount_95d88_33 rfl ⟨by decide, by decide⟩ rfl ?_
  refine ab_lload_n C 0 rfl rfl dJ13_bitCount_95d88_34 ?_
  refine ab_lload_n C 0 rfl rfl dJ13_bitCount_95d88_35 ?_
  refine ab_bipush (v := (8 : Int32)) C dJ13_bitCount_95d88_36 (by decide) ?_
  refine ab_lushr C dJ13_bitCount_95d88_38 ?_
  refine ab_ladd C dJ13_bitCount_95d88_39 ?_
  refine ab_topl (fun v4 qv4 => ?_)
  replace hF := aLet_e hF v4 qv4
  refine ab_lstore_n (lv' := [(0, .long v4)]) C dJ13_bitCount_95d88_40 rfl ⟨by decide, by decide⟩ rfl ?_
  refine ab_lload_n C 0 rfl rfl dJ13_bitCount_95d88_41 ?_
  refine ab_lload_n C 0 rfl rfl dJ13_bitCount_95d88_42 ?_
  refine ab_bipush (v := (16 : Int32)) C dJ13_bitCount_95d88_43 (by decide) ?_
  refine ab_lushr C dJ13_bitCount_95d88_45 ?_
  refine ab_ladd C dJ13_bitCount_95d88_46 ?_
  refine ab_topl (fun v5 qv5 => ?_)
  replace hF := aLet_e hF v5 qv5
  refine ab_lstore_n (lv' := [(0, .long v5)]) C dJ13_bitCount_95d88_47 rfl ⟨by decide, by decide⟩ rfl ?_
  refine ab_lload_n C 0 rfl rfl dJ13_bitCount_95d88_48 ?_
  refine ab_lload_n C 0 rfl rfl dJ13_bitCount_95d88_49 ?_
  refine ab_bipush (v := (32 : Int32)) C dJ13_bitCount_95d88_50 (by decide) ?_
  refine ab_lushr C dJ13_bitCount_95d88_52 ?_
  refine ab_ladd C dJ13_bitCount_95d88_53 ?_
  refine ab_topl (fun v6 qv6 => ?_)
  replace hF := aLet_e hF v6 qv6
  refine ab_lstore_n (lv' := [(0, .long v6)]) C dJ13_bitCount_95d88_54 rfl ⟨by decide, by decide⟩ rfl ?_
  refine ab_lload_n C 0 rfl rfl dJ13_bitCount_95d88_55 ?_
  refine ab_l2i C dJ13_bitCount_95d88_56 ?_
  refine ab_bipush (v := (127 : Int32)) C dJ13_bitCount_95d88_57 (by decide) ?_
  refine ab_iand C dJ13_bitCount_95d88_59 ?_
  obtain rfl := hF
  exact ab_iret C R0 rfl dJ13_bitCount_95d88_60 ⟨rfl, rfl, rfl⟩
theorem dX2_passYear_0 : decode cX2_passYear 0 = .ok (.iconst 0, 1) := by decide +kernel
theorem dX2_passYear_1 : decode cX2_passYear 1 = .ok (.istore_n 1, 1) := by decide +kernel
theorem dX2_passYear_2 : decode cX2_passYear 2 = .ok (.iload_n 1, 1) := by decide +kernel
theorem dX2_passYear_3 : decode cX2_passYear 3 = .ok (.iconst 5, 1) := by decide +kernel
theorem dX2_passYear_4 : decode cX2_passYear 4 = .ok (.if_icmp .ge 16, 3) := by decide +kernel
theorem dX2_passYear_7 : decode cX2_passYear 7 = .ok (.aload_n 0, 1) := by decide +kernel
theorem dX2_passYear_8 : decode cX2_passYear 8 = .ok (.getfield 31, 3) := by decide +kernel
theorem dX2_passYear_11 : decode cX2_passYear 11 = .ok (.iload_n 1, 1) := by decide +kernel
theorem dX2_passYear_12 : decode cX2_passYear 12 = .ok (.lconst 0, 1) := by decide +kernel
theorem dX2_passYear_13 : decode cX2_passYear 13 = .ok (.lastore, 1) := by decide +kernel
theorem dX2_passYear_14 : decode cX2_passYear 14 = .ok (.iinc 1 1, 3) := by decide +kernel
theorem dX2_passYear_17 : decode cX2_passYear 17 = .ok (.goto (-15), 3) := by decide +kernel
theorem dX2_passYear_20 : decode cX2_passYear 20 = .ok (.iconst 0, 1) := by decide +kernel
theorem dX2_passYear_21 : decode cX2_passYear 21 = .ok (.istore_n 1, 1) := by decide +kernel
theorem dX2_passYear_22 : decode cX2_passYear 22 = .ok (.iconst 0, 1) := by decide +kernel
theorem dX2_passYear_23 : decode cX2_passYear 23 = .ok (.istore_n 2, 1) := by decide +kernel
theorem dX2_passYear_24 : decode cX2_passYear 24 = .ok (.iload_n 2, 1) := by decide +kernel
theorem dX2_passYear_25 : decode cX2_passYear 25 = .ok (.iconst 5, 1) := by decide +kernel
theorem dX2_passYear_26 : decode cX2_passYear 26 = .ok (.if_icmp .ge 61, 3) := by decide +kernel
theorem dX2_passYear_29 : decode cX2_passYear 29 = .ok (.aload_n 0, 1) := by decide +kernel
theorem dX2_passYear_30 : decode cX2_passYear 30 = .ok (.getfield 21, 3) := by decide +kernel
theorem dX2_passYear_33 : decode cX2_passYear 33 = .ok (.iload_n 2, 1) := by decide +kernel
theorem dX2_passYear_34 : decode cX2_passYear 34 = .ok (.iaload, 1) := by decide +kernel
theorem dX2_passYear_35 : decode cX2_passYear 35 = .ok (.istore_n 3, 1) := by decide +kernel
theorem dX2_passYear_36 : decode cX2_passYear 36 = .ok (.iload_n 3, 1) := by decide +kernel
theorem dX2_passYear_37 : decode cX2_passYear 37 = .ok (.ifCond .lt 44, 3) := by decide +kernel
theorem dX2_passYear_40 : decode cX2_passYear 40 = .ok (.iload_n 3, 1) := by decide +kernel
theorem dX2_passYear_41 : decode cX2_passYear 41 = .ok (.iconst 5, 1) := by decide +kernel
theorem dX2_passYear_42 : decode cX2_passYear 42 = .ok (.if_icmp .ge 39, 3) := by decide +kernel
theorem dX2_passYear_45 : decode cX2_passYear 45 = .ok (.aload_n 0, 1) := by decide +kernel
theorem dX2_passYear_46 : decode cX2_passYear 46 = .ok (.getfield 31, 3) := by decide +kernel
theorem dX2_passYear_49 : decode cX2_passYear 49 = .ok (.iload_n 3, 1) := by decide +kernel
theorem dX2_passYear_50 : decode cX2_passYear 50 = .ok (.dup2, 1) := by decide +kernel
theorem dX2_passYear_51 : decode cX2_passYear 51 = .ok (.laload, 1) := by decide +kernel
theorem dX2_passYear_52 : decode cX2_passYear 52 = .ok (.aload_n 0, 1) := by decide +kernel
theorem dX2_passYear_53 : decode cX2_passYear 53 = .ok (.getfield 24, 3) := by decide +kernel
theorem dX2_passYear_56 : decode cX2_passYear 56 = .ok (.iload_n 2, 1) := by decide +kernel
theorem dX2_passYear_57 : decode cX2_passYear 57 = .ok (.laload, 1) := by decide +kernel
theorem dX2_passYear_58 : decode cX2_passYear 58 = .ok (.lor, 1) := by decide +kernel
theorem dX2_passYear_59 : decode cX2_passYear 59 = .ok (.lastore, 1) := by decide +kernel
theorem dX2_passYear_60 : decode cX2_passYear 60 = .ok (.iload_n 1, 1) := by decide +kernel
theorem dX2_passYear_61 : decode cX2_passYear 61 = .ok (.iload_n 3, 1) := by decide +kernel
theorem dX2_passYear_62 : decode cX2_passYear 62 = .ok (.iload_n 2, 1) := by decide +kernel
theorem dX2_passYear_63 : decode cX2_passYear 63 = .ok (.if_icmp .ne 7, 3) := by decide +kernel
theorem dX2_passYear_66 : decode cX2_passYear 66 = .ok (.iconst 0, 1) := by decide +kernel
theorem dX2_passYear_67 : decode cX2_passYear 67 = .ok (.goto 12, 3) := by decide +kernel
theorem dX2_passYear_70 : decode cX2_passYear 70 = .ok (.aload_n 0, 1) := by decide +kernel
theorem dX2_passYear_71 : decode cX2_passYear 71 = .ok (.getfield 24, 3) := by decide +kernel
theorem dX2_passYear_74 : decode cX2_passYear 74 = .ok (.iload_n 2, 1) := by decide +kernel
theorem dX2_passYear_75 : decode cX2_passYear 75 = .ok (.laload, 1) := by decide +kernel
theorem dX2_passYear_76 : decode cX2_passYear 76 = .ok (.invokestatic 62, 3) := by decide +kernel
theorem dX2_passYear_79 : decode cX2_passYear 79 = .ok (.iadd, 1) := by decide +kernel
theorem dX2_passYear_80 : decode cX2_passYear 80 = .ok (.istore_n 1, 1) := by decide +kernel
theorem dX2_passYear_81 : decode cX2_passYear 81 = .ok (.iinc 2 1, 3) := by decide +kernel
theorem dX2_passYear_84 : decode cX2_passYear 84 = .ok (.goto (-60), 3) := by decide +kernel
theorem dX2_passYear_87 : decode cX2_passYear 87 = .ok (.aload_n 0, 1) := by decide +kernel
theorem dX2_passYear_88 : decode cX2_passYear 88 = .ok (.getfield 31, 3) := by decide +kernel
theorem dX2_passYear_91 : decode cX2_passYear 91 = .ok (.iconst 0, 1) := by decide +kernel
theorem dX2_passYear_92 : decode cX2_passYear 92 = .ok (.aload_n 0, 1) := by decide +kernel
theorem dX2_passYear_93 : decode cX2_passYear 93 = .ok (.getfield 24, 3) := by decide +kernel
theorem dX2_passYear_96 : decode cX2_passYear 96 = .ok (.iconst 0, 1) := by decide +kernel
theorem dX2_passYear_97 : decode cX2_passYear 97 = .ok (.iconst 5, 1) := by decide +kernel
theorem dX2_passYear_98 : decode cX2_passYear 98 = .ok (.invokestatic 54, 3) := by decide +kernel
theorem dX2_passYear_101 : decode cX2_passYear 101 = .ok (.aload_n 0, 1) := by decide +kernel
theorem dX2_passYear_102 : decode cX2_passYear 102 = .ok (.dup, 1) := by decide +kernel
theorem dX2_passYear_103 : decode cX2_passYear 103 = .ok (.getfield 51, 3) := by decide +kernel
theorem dX2_passYear_106 : decode cX2_passYear 106 = .ok (.iconst 1, 1) := by decide +kernel
theorem dX2_passYear_107 : decode cX2_passYear 107 = .ok (.iadd, 1) := by decide +kernel
theorem dX2_passYear_108 : decode cX2_passYear 108 = .ok (.putfield 51, 3) := by decide +kernel
theorem dX2_passYear_111 : decode cX2_passYear 111 = .ok (.iload_n 1, 1) := by decide +kernel
theorem dX2_passYear_112 : decode cX2_passYear 112 = .ok (.ireturn, 1) := by decide +kernel
def X2_passYear_L2 : Nat → Int32 → Rec → Option (Rec)
  | 0, _, _ => none
  | n2 + 1, v1, Z2 => if (5 : Int32) ≤ v1 then
      some Z2
    else
      (wrL (Z2.2.2 11) 6 v1 (0 : Int64)).bind fun w5 =>
      aLet (v1 + (1 : Int32)) fun v7 =>
      X2_passYear_L2 n2 v7 (sL Z2 11 w5)
def X2_passYear_L24 : Nat → Int32 → Int32 → Rec → Option (Int32 × Rec)
  | 0, _, _, _ => none
  | n24 + 1, v10, v11, Z12 => if (5 : Int32) ≤ v11 then
      some (v10, Z12)
    else
      (rdI (Z12.2.1 7) 5 v11).bind fun v15 =>
      if v15 < 0 then
        aLet (v11 + (1 : Int32)) fun v17 =>
        X2_passYear_L24 n24 v10 v17 Z12
      else
        if (5 : Int32) ≤ v15 then
          aLet (v11 + (1 : Int32)) fun v19 =>
          X2_passYear_L24 n24 v10 v19 Z12
        else
          (rdL (Z12.2.2 11) 6 v15).bind fun v20 =>
          (rdL (Z12.2.2 9) 6 v11).bind fun v21 =>
          (wrL (Z12.2.2 11) 6 v15 (v20 ||| v21)).bind fun w22 =>
          if v15 = v11 then
            aLet (v10 + (0 : Int32)) fun v28 =>
            aLet (v11 + (1 : Int32)) fun v29 =>
            X2_passYear_L24 n24 v28 v29 (sL Z12 11 w22)
          else
            (rdL ((sL Z12 11 w22).2.2 9) 6 v11).bind fun v25 =>
            aLet (v10 + (J13_bitCount_95d88 v25)) fun v26 =>
            aLet (v11 + (1 : Int32)) fun v27 =>
            X2_passYear_L24 n24 v26 v27 (sL Z12 11 w22)
def X2_passYear (S0 : Rec) : Option (Int32 × Rec) :=
  (X2_passYear_L2 aFu (0 : Int32) S0).bind fun e8 =>
  (X2_passYear_L24 aFu (0 : Int32) (0 : Int32) e8).bind fun e30 =>
  some (e30.1, (sI (sL e30.2 9 (va_cpy (e30.2.2.2 11) (e30.2.2.2 9) 0 0 5)) 8 (((sL e30.2 9 (va_cpy (e30.2.2.2 11) (e30.2.2.2 9) 0 0 5)).1 8) + (1 : Int32))))
set_option maxRecDepth 100000 in
set_option maxHeartbeats 4000000 in
theorem X2_passYear_ok (l : Launch) {h : aH} {nx : Nat} {a0 : Nat} {S0 : Rec} (hB0 : X2_at h a0 S0) {r : Int32 × Rec} (hF : X2_passYear S0 = some r) : aOk l 1 0 0 yX2_passYear cX2_passYear 4 (some .int) [.ref a0] h nx (aMt (some (.int r.1)) nx (fun h1 => X2_at h1 a0 r.2 ∧ (∀ q, (q < a0 ∨ a0 + 8 ≤ q) → h1 q = h q))) := by
  refine aOk.of (by decide +kernel) (Nat.le_of_ble_eq_true rfl) (fun X G hX C R0 _ => ?_)
  subst hX
  show aV X G 4 0 [(0, .ref a0)] [] h nx 0 0
  have hFr : ∀ q, (q < a0 ∨ a0 + 8 ≤ q) → h q = h q := fun _ _ => rfl
  rw [X2_passYear] at hF
  refine ab_iconst (v := (0 : Int32)) C dX2_passYear_0 (by decide) ?_
  refine ab_istore_n (lv' := [(1, .int (0 : Int32)), (0, .ref a0)]) C dX2_passYear_1 rfl (by decide) rfl ?_
  have L2 : ∀ (n2 : Nat) (v1 : Int32) (Z2 : Rec) (g3 : aH), (X2_at g3 a0 Z2) → (∀ q, (q < a0 ∨ a0 + 8 ≤ q) → g3 q = h q) → ∀ (res2 : Rec), X2_passYear_L2 n2 v1 Z2 = some res2 → (∀ (q9 : aH), (X2_at q9 a0 res2) → (∀ q, (q < a0 ∨ a0 + 8 ≤ q) → q9 q = h q) → aV X G 4 20 [(0, .ref a0)] [] q9 nx 0 0) → aV X G 4 2 [(0, .ref a0), (1, .int v1)] [] g3 nx 0 0 := by
    intro n2
    induction n2 with
    | zero => intro v1 Z2 g3 hB0 hFr res2 hF KX2; cases (show (none : Option (Rec)) = some res2 from hF)
    | succ n2 ih2 =>
      intro v1 Z2 g3 hB0 hFr res2 hF KX2
      rw [X2_passYear_L2] at hF
      refine ab_iload_n C 1 rfl rfl dX2_passYear_2 ?_
      refine ab_iconst (v := (5 : Int32)) C dX2_passYear_3 (by decide) ?_
      refine ab_icmp_ge C 20 dX2_passYear_4 (by decide) (fun c4 => ?_) (fun c4 => ?_)
      · replace hF := (if_pos c4).symm.trans hF
        obtain rfl := Option.some.inj hF
        refine aV.sub (lv' := [(0, .ref a0)]) [0] rfl ?_
        exact KX2 g3 hB0 hFr
      · replace hF := (if_neg c4).symm.trans hF
        refine ab_aload_n C 0 rfl rfl dX2_passYear_7 ?_
        refine ab_g2 (v := .ref (a0 + 7)) C lf_X2_31 hB0.1 rfl dX2_passYear_8 ?_
        refine ab_iload_n C 1 rfl rfl dX2_passYear_11 ?_
        refine ab_lconst (v := (0 : Int64)) C dX2_passYear_12 (by decide) ?_
        obtain ⟨w5, hxw5, hF⟩ := Option.bind_eq_some_iff.mp hF
        refine ab_last C (X2_r11 hB0) hxw5 dX2_passYear_13 (fun g6 eg6 og6 => ?_)
        have hB0 : X2_at g6 a0 (sL Z2 11 w5) := X2_w11 hB0 eg6 og6
        have hFr : ∀ q, (q < a0 ∨ a0 + 8 ≤ q) → g6 q = h q := fun q u0 => (og6 q (by omega)).trans (hFr q u0)
        obtain ⟨v7, qv7⟩ : ∃ y : Int32, y = (v1 + (1 : Int32)) := ⟨_, rfl⟩
        replace hF := aLet_e hF v7 qv7
        refine ab_iinc (lv' := [(1, .int v7), (0, .ref a0)]) C 1 rfl dX2_passYear_14 (by rw [qv7]; rfl) (by decide) rfl ?_
        refine ab_goto C 2 dX2_passYear_17 (by decide) ?_
        refine aV.sub (lv' := [(0, .ref a0), (1, .int v7)]) [1, 0] rfl ?_
        exact ih2 v7 (sL Z2 11 w5) g6 hB0 hFr res2 hF KX2
  refine aV.sub (lv' := [(0, .ref a0), (1, .int (0 : Int32))]) [1, 0] rfl ?_
  obtain ⟨e8, he8, hF⟩ := Option.bind_eq_some_iff.mp hF
  refine L2 aFu (0 : Int32) S0 h hB0 hFr e8 he8 (fun g9 hB0 hFr => ?_)
  refine ab_iconst (v := (0 : Int32)) C dX2_passYear_20 (by decide) ?_
  refine ab_istore_n (lv' := [(1, .int (0 : Int32)), (0, .ref a0)]) C dX2_passYear_21 rfl (by decide) rfl ?_
  refine ab_iconst (v := (0 : Int32)) C dX2_passYear_22 (by decide) ?_
  refine ab_istore_n (lv' := [(2, .int (0 : Int32)), (1, .int (0 : Int32)), (0, .ref a0)]) C dX2_passYear_23 rfl (by decide) rfl ?_
  have L24 : ∀ (n24 : Nat) (v10 : Int32) (v11 : Int32) (Z12 : Rec) (g13 : aH), (X2_at g13 a0 Z12) → (∀ q, (q < a0 ∨ a0 + 8 ≤ q) → g13 q = h q) → ∀ (res24 : Int32 × Rec), X2_passYear_L24 n24 v10 v11 Z12 = some res24 → (∀ (q9 : aH), (X2_at q9 a0 res24.2) → (∀ q, (q < a0 ∨ a0 + 8 ≤ q) → q9 q = h q) → aV X G 4 87 [(0, .ref a0), (1, .int res24.1)] [] q9 nx 0 0) → aV X G 4 24 [(0, .ref a0), (1, .int v10), (2, .int v11)] [] g13 nx 0 0 := by
    intro n24
    induction n24 with
    | zero => intro v10 v11 Z12 g13 hB0 hFr res24 hF KX24; cases (show (none : Option (Int32 × Rec)) = some res24 from hF)
    | succ n24 ih24 =>
      intro v10 v11 Z12 g13 hB0 hFr res24 hF KX24
      rw [X2_passYear_L24] at hF
      refine ab_iload_n C 2 rfl rfl dX2_passYear_24 ?_
      refine ab_iconst (v := (5 : Int32)) C dX2_passYear_25 (by decide) ?_
      refine ab_icmp_ge C 87 dX2_passYear_26 (by decide) (fun c14 => ?_) (fun c14 => ?_)
      · replace hF := (if_pos c14).symm.trans hF
        obtain rfl := Option.some.inj hF
        refine aV.sub (lv' := [(0, .ref a0), (1, .int v10)]) [0, 1] rfl ?_
        exact KX24 g13 hB0 hFr
      · replace hF := (if_neg c14).symm.trans hF
        refine ab_aload_n C 0 rfl rfl dX2_passYear_29 ?_
        refine ab_g2 (v := .ref (a0 + 4)) C lf_X2_21 hB0.1 rfl dX2_passYear_30 ?_
        refine ab_iload_n C 2 rfl rfl dX2_passYear_33 ?_
        obtain ⟨v15, hxv15, hF⟩ := Option.bind_eq_some_iff.mp hF
        refine ab_iald C (X2_r7 hB0) hxv15 dX2_passYear_34 ?_
        refine ab_istore_n (lv' := [(3, .int v15), (0, .ref a0), (1, .int v10), (2, .int v11)]) C dX2_passYear_35 rfl (by decide) rfl ?_
        refine ab_iload_n C 0 rfl rfl dX2_passYear_36 ?_
        refine ab_if_lt C 81 dX2_passYear_37 (by decide) (fun c16 => ?_) (fun c16 => ?_)
        · replace hF := (if_pos c16).symm.trans hF
          obtain ⟨v17, qv17⟩ : ∃ y : Int32, y = (v11 + (1 : Int32)) := ⟨_, rfl⟩
          replace hF := aLet_e hF v17 qv17
          refine ab_iinc (lv' := [(2, .int v17), (3, .int v15), (0, .ref a0), (1, .int v10)]) C 3 rfl dX2_passYear_81 (by rw [qv17]; rfl) (by decide) rfl ?_
          refine ab_goto C 24 dX2_passYear_84 (by decide) ?_
          refine aV.sub (lv' := [(0, .ref a0), (1, .int v10), (2, .int v17)]) [2, 3, 0] rfl ?_
          exact ih24 v10 v17 Z12 g13 hB0 hFr res24 hF KX24
        · replace hF := (if_neg c16).symm.trans hF
          refine ab_iload_n C 0 rfl rfl dX2_passYear_40 ?_
          refine ab_iconst (v := (5 : Int32)) C dX2_passYear_41 (by decide) ?_
          refine ab_icmp_ge C 81 dX2_passYear_42 (by decide) (fun c18 => ?_) (fun c18 => ?_)
          · replace hF := (if_pos c18).symm.trans hF
            obtain ⟨v19, qv19⟩ : ∃ y : Int32, y = (v11 + (1 : Int32)) := ⟨_, rfl⟩
            replace hF := aLet_e hF v19 qv19
            refine ab_iinc (lv' := [(2, .int v19), (3, .int v15), (0, .ref a0), (1, .int v10)]) C 3 rfl dX2_passYear_81 (by rw [qv19]; rfl) (by decide) rfl ?_
            refine ab_goto C 24 dX2_passYear_84 (by decide) ?_
            refine aV.sub (lv' := [(0, .ref a0), (1, .int v10), (2, .int v19)]) [2, 3, 0] rfl ?_
            exact ih24 v10 v19 Z12 g13 hB0 hFr res24 hF KX24
          · replace hF := (if_neg c18).symm.trans hF
            refine ab_aload_n C 1 rfl rfl dX2_passYear_45 ?_
            refine ab_g2 (v := .ref (a0 + 7)) C lf_X2_31 hB0.1 rfl dX2_passYear_46 ?_
            refine ab_iload_n C 0 rfl rfl dX2_passYear_49 ?_
            refine ab_dup2_11 C rfl rfl dX2_passYear_50 ?_
            obtain ⟨v20, hxv20, hF⟩ := Option.bind_eq_some_iff.mp hF
            refine ab_lald C (X2_r11 hB0) hxv20 dX2_passYear_51 ?_
            refine ab_aload_n C 1 rfl rfl dX2_passYear_52 ?_
            refine ab_g2 (v := .ref (a0 + 5)) C lf_X2_24 hB0.1 rfl dX2_passYear_53 ?_
            refine ab_iload_n C 3 rfl rfl dX2_passYear_56 ?_
            obtain ⟨v21, hxv21, hF⟩ := Option.bind_eq_some_iff.mp hF
            refine ab_lald C (X2_r9 hB0) hxv21 dX2_passYear_57 ?_
            refine ab_lor C dX2_passYear_58 ?_
            obtain ⟨w22, hxw22, hF⟩ := Option.bind_eq_some_iff.mp hF
            refine ab_last C (X2_r11 hB0) hxw22 dX2_passYear_59 (fun g23 eg23 og23 => ?_)
            have hB0 : X2_at g23 a0 (sL Z12 11 w22) := X2_w11 hB0 eg23 og23
            have hFr : ∀ q, (q < a0 ∨ a0 + 8 ≤ q) → g23 q = h q := fun q u0 => (og23 q (by omega)).trans (hFr q u0)
            refine ab_iload_n C 2 rfl rfl dX2_passYear_60 ?_
            refine ab_iload_n C 0 rfl rfl dX2_passYear_61 ?_
            refine ab_iload_n C 3 rfl rfl dX2_passYear_62 ?_
            refine ab_icmp_ne C 70 dX2_passYear_63 (by decide) (fun c24 => ?_) (fun c24 => ?_)
            · replace hF := (if_neg c24).symm.trans hF
              refine ab_aload_n C 1 rfl rfl dX2_passYear_70 ?_
              refine ab_g2 (v := .ref (a0 + 5)) C lf_X2_24 hB0.1 rfl dX2_passYear_71 ?_
              refine ab_iload_n C 3 rfl rfl dX2_passYear_74 ?_
              obtain ⟨v25, hxv25, hF⟩ := Option.bind_eq_some_iff.mp hF
              refine ab_lald C (X2_r9 hB0) hxv25 dX2_passYear_75 ?_
              refine ab_cSR (v := .int (J13_bitCount_95d88 v25)) (st := [.int v10]) C lm_X2_62 (J13_bitCount_95d88_ok (xl X) (r := (J13_bitCount_95d88 v25)) rfl) rfl rfl (by decide) ⟨Nat.zero_le _, Nat.zero_le _⟩ (Nat.le_of_ble_eq_true rfl) dX2_passYear_76 ?_
              refine ab_iadd C dX2_passYear_79 ?_
              refine ab_topi (fun v26 qv26 => ?_)
              replace hF := aLet_e hF v26 qv26
              refine ab_istore_n (lv' := [(1, .int v26), (3, .int v15), (0, .ref a0), (2, .int v11)]) C dX2_passYear_80 rfl (by decide) rfl ?_
              obtain ⟨v27, qv27⟩ : ∃ y : Int32, y = (v11 + (1 : Int32)) := ⟨_, rfl⟩
              replace hF := aLet_e hF v27 qv27
              refine ab_iinc (lv' := [(2, .int v27), (1, .int v26), (3, .int v15), (0, .ref a0)]) C 3 rfl dX2_passYear_81 (by rw [qv27]; rfl) (by decide) rfl ?_
              refine ab_goto C 24 dX2_passYear_84 (by decide) ?_
              refine aV.sub (lv' := [(0, .ref a0), (1, .int v26), (2, .int v27)]) [3, 1, 0] rfl ?_
              exact ih24 v26 v27 (sL Z12 11 w22) g23 hB0 hFr res24 hF KX24
            · replace hF := (if_pos c24).symm.trans hF
              refine ab_iconst (v := (0 : Int32)) C dX2_passYear_66 (by decide) ?_
              refine ab_goto C 79 dX2_passYear_67 (by decide) ?_
              refine ab_iadd C dX2_passYear_79 ?_
              refine ab_topi (fun v28 qv28 => ?_)
              replace hF := aLet_e hF v28 qv28
              refine ab_istore_n (lv' := [(1, .int v28), (3, .int v15), (0, .ref a0), (2, .int v11)]) C dX2_passYear_80 rfl (by decide) rfl ?_
              obtain ⟨v29, qv29⟩ : ∃ y : Int32, y = (v11 + (1 : Int32)) := ⟨_, rfl⟩
              replace hF := aLet_e hF v29 qv29
              refine ab_iinc (lv' := [(2, .int v29), (1, .int v28), (3, .int v15), (0, .ref a0)]) C 3 rfl dX2_passYear_81 (by rw [qv29]; rfl) (by decide) rfl ?_
              refine ab_goto C 24 dX2_passYear_84 (by decide) ?_
              refine aV.sub (lv' := [(0, .ref a0), (1, .int v28), (2, .int v29)]) [3, 1, 0] rfl ?_
              exact ih24 v28 v29 (sL Z12 11 w22) g23 hB0 hFr res24 hF KX24
  refine aV.sub (lv' := [(0, .ref a0), (1, .int (0 : Int32)), (2, .int (0 : Int32))]) [2, 1, 0] rfl ?_
  obtain ⟨e30, he30, hF⟩ := Option.bind_eq_some_iff.mp hF
  refine L24 aFu (0 : Int32) (0 : Int32) e8 g9 hB0 hFr e30 he30 (fun g31 hB0 hFr => ?_)
  refine ab_aload_n C 0 rfl rfl dX2_passYear_87 ?_
  refine ab_g2 (v := .ref (a0 + 7)) C lf_X2_31 hB0.1 rfl dX2_passYear_88 ?_
  refine ab_iconst (v := (0 : Int32)) C dX2_passYear_91 (by decide) ?_
  refine ab_aload_n C 0 rfl rfl dX2_passYear_92 ?_
  refine ab_g2 (v := .ref (a0 + 5)) C lf_X2_24 hB0.1 rfl dX2_passYear_93 ?_
  refine ab_iconst (v := (0 : Int32)) C dX2_passYear_96 (by decide) ?_
  refine ab_iconst (v := (5 : Int32)) C dX2_passYear_97 (by decide) ?_
  refine ab_copyl C (X2_r11 hB0) (X2_r9 hB0) (a_mem 454 (by decide +kernel) (by decide +kernel)) (a_mem 456 (by decide +kernel) (by decide +kernel)) (a_mem 455 (by decide +kernel) (by decide +kernel)) (a_mem 69 (by decide +kernel) (by decide +kernel)) (by decide) (by decide) (by decide) (by decide) (by decide) (by decide) (by decide) dX2_passYear_98 (fun g32 eg32 og32 => ?_)
  have hB0 : X2_at g32 a0 (sL e30.2 9 (va_cpy (e30.2.2.2 11) (e30.2.2.2 9) 0 0 5)) := X2_w9 hB0 eg32 og32
  have hFr : ∀ q, (q < a0 ∨ a0 + 8 ≤ q) → g32 q = h q := fun q u0 => (og32 q (by omega)).trans (hFr q u0)
  refine ab_aload_n C 0 rfl rfl dX2_passYear_101 ?_
  refine ab_dup C rfl dX2_passYear_102 ?_
  refine ab_g2 (v := .int ((sL e30.2 9 (va_cpy (e30.2.2.2 11) (e30.2.2.2 9) 0 0 5)).1 8)) C lf_X2_51 hB0.1 rfl dX2_passYear_103 ?_
  refine ab_iconst (v := (1 : Int32)) C dX2_passYear_106 (by decide) ?_
  refine ab_iadd C dX2_passYear_107 ?_
  refine ab_p2 (ty := .int) C lf_X2_51 rfl (by decide +kernel) rfl rfl (Nat.le_of_ble_eq_true rfl) hB0.1 dX2_passYear_108 (fun g33 eg33 og33 => ?_)
  have hB0 : X2_at g33 a0 (sI (sL e30.2 9 (va_cpy (e30.2.2.2 11) (e30.2.2.2 9) 0 0 5)) 8 (((sL e30.2 9 (va_cpy (e30.2.2.2 11) (e30.2.2.2 9) 0 0 5)).1 8) + (1 : Int32))) := X2_p8 hB0 eg33 og33
  have hFr : ∀ q, (q < a0 ∨ a0 + 8 ≤ q) → g33 q = h q := fun q u0 => (og33 q (by omega)).trans (hFr q u0)
  refine ab_iload_n C 1 rfl rfl dX2_passYear_111 ?_
  obtain rfl := Option.some.inj hF
  exact ab_iret C R0 rfl dX2_passYear_112 ⟨rfl, rfl, hB0, hFr⟩
theorem dX2_soundsLike_0 : decode cX2_soundsLike 0 = .ok (.iconst 0, 1) := by decide +kernel
theorem dX2_soundsLike_1 : decode cX2_soundsLike 1 = .ok (.istore_n 2, 1) := by decide +kernel
theorem dX2_soundsLike_2 : decode cX2_soundsLike 2 = .ok (.iload_n 2, 1) := by decide +kernel
theorem dX2_soundsLike_3 : decode cX2_soundsLike 3 = .ok (.bipush 6, 2) := by decide +kernel
theorem dX2_soundsLike_5 : decode cX2_soundsLike 5 = .ok (.if_icmp .ge 27, 3) := by decide +kernel
theorem dX2_soundsLike_8 : decode cX2_soundsLike 8 = .ok (.aload_n 0, 1) := by decide +kernel
theorem dX2_soundsLike_9 : decode cX2_soundsLike 9 = .ok (.getfield 24, 3) := by decide +kernel
theorem dX2_soundsLike_12 : decode cX2_soundsLike 12 = .ok (.iload_n 2, 1) := by decide +kernel
theorem dX2_soundsLike_13 : decode cX2_soundsLike 13 = .ok (.laload, 1) := by decide +kernel
theorem dX2_soundsLike_14 : decode cX2_soundsLike 14 = .ok (.aload_n 1, 1) := by decide +kernel
theorem dX2_soundsLike_15 : decode cX2_soundsLike 15 = .ok (.getfield 24, 3) := by decide +kernel
theorem dX2_soundsLike_18 : decode cX2_soundsLike 18 = .ok (.iload_n 2, 1) := by decide +kernel
theorem dX2_soundsLike_19 : decode cX2_soundsLike 19 = .ok (.laload, 1) := by decide +kernel
theorem dX2_soundsLike_20 : decode cX2_soundsLike 20 = .ok (.lcmp, 1) := by decide +kernel
theorem dX2_soundsLike_21 : decode cX2_soundsLike 21 = .ok (.ifCond .eq 5, 3) := by decide +kernel
theorem dX2_soundsLike_24 : decode cX2_soundsLike 24 = .ok (.iconst 0, 1) := by decide +kernel
theorem dX2_soundsLike_25 : decode cX2_soundsLike 25 = .ok (.ireturn, 1) := by decide +kernel
theorem dX2_soundsLike_26 : decode cX2_soundsLike 26 = .ok (.iinc 2 1, 3) := by decide +kernel
theorem dX2_soundsLike_29 : decode cX2_soundsLike 29 = .ok (.goto (-27), 3) := by decide +kernel
theorem dX2_soundsLike_32 : decode cX2_soundsLike 32 = .ok (.iconst 1, 1) := by decide +kernel
theorem dX2_soundsLike_33 : decode cX2_soundsLike 33 = .ok (.ireturn, 1) := by decide +kernel
def X2_soundsLike_L2 (S0 : Rec) (S1 : Rec) : Nat → Int32 → Option ((Int32) ⊕ (Unit))
  | 0, _ => none
  | n2 + 1, v1 => if (6 : Int32) ≤ v1 then
      some (.inr ())
    else
      (rdL (S0.2.2 9) 6 v1).bind fun v3 =>
      (rdL (S1.2.2 9) 6 v1).bind fun v4 =>
      if (lg_cmp v3 v4) = 0 then
        aLet (v1 + (1 : Int32)) fun v6 =>
        X2_soundsLike_L2 S0 S1 n2 v6
      else
        some (.inl (0 : Int32))
def X2_soundsLike (S0 : Rec) (S1 : Rec) : Option (Int32) :=
  (X2_soundsLike_L2 S0 S1 aFu (0 : Int32)).bind fun e7 =>
  aCs e7 (fun t9 => some t9) (fun s8 =>
    some (1 : Int32))
set_option maxRecDepth 100000 in
set_option maxHeartbeats 4000000 in
theorem X2_soundsLike_ok (l : Launch) {h : aH} {nx : Nat} {a0 : Nat} {a1 : Nat} {S0 : Rec} {S1 : Rec} (hB0 : X2_at h a0 S0) (hB1 : X2_at h a1 S1) {r : Int32} (hF : X2_soundsLike S0 S1 = some r) : aOk l 0 0 0 yX2_soundsLike cX2_soundsLike 3 (some .boolean) [.ref a0, .ref a1] h nx (aRd (.int r) h nx) := by
  refine aOk.of (by decide +kernel) (Nat.le_of_ble_eq_true rfl) (fun X G hX C R0 _ => ?_)
  subst hX
  show aV X G 3 0 [(0, .ref a0), (1, .ref a1)] [] h nx 0 0
  rw [X2_soundsLike] at hF
  refine ab_iconst (v := (0 : Int32)) C dX2_soundsLike_0 (by decide) ?_
  refine ab_istore_n (lv' := [(2, .int (0 : Int32)), (0, .ref a0), (1, .ref a1)]) C dX2_soundsLike_1 rfl (by decide) rfl ?_
  have L2 : ∀ (n2 : Nat) (v1 : Int32), ∀ (res2 : (Int32) ⊕ (Unit)), X2_soundsLike_L2 S0 S1 n2 v1 = some res2 → (∀ (s : Unit), res2 = .inr s → aV X G 3 32 [] [] h nx 0 0) → (∀ (t : Int32), res2 = .inl t → aRd (.int r) h nx (some (.int t)) h nx) → aV X G 3 2 [(0, .ref a0), (1, .ref a1), (2, .int v1)] [] h nx 0 0 := by
    intro n2
    induction n2 with
    | zero => intro v1 res2 hF KX2 KR2; cases (show (none : Option ((Int32) ⊕ (Unit))) = some res2 from hF)
    | succ n2 ih2 =>
      intro v1 res2 hF KX2 KR2
      rw [X2_soundsLike_L2] at hF
      refine ab_iload_n C 2 rfl rfl dX2_soundsLike_2 ?_
      refine ab_bipush (v := (6 : Int32)) C dX2_soundsLike_3 (by decide) ?_
      refine ab_icmp_ge C 32 dX2_soundsLike_5 (by decide) (fun c2 => ?_) (fun c2 => ?_)
      · replace hF := (if_pos c2).symm.trans hF
        obtain rfl := Option.some.inj hF
        refine aV.sub (lv' := []) [] rfl ?_
        exact KX2 () rfl
      · replace hF := (if_neg c2).symm.trans hF
        refine ab_aload_n C 0 rfl rfl dX2_soundsLike_8 ?_
        refine ab_g2 (v := .ref (a0 + 5)) C lf_X2_24 hB0.1 rfl dX2_soundsLike_9 ?_
        refine ab_iload_n C 2 rfl rfl dX2_soundsLike_12 ?_
        obtain ⟨v3, hxv3, hF⟩ := Option.bind_eq_some_iff.mp hF
        refine ab_lald C (X2_r9 hB0) hxv3 dX2_soundsLike_13 ?_
        refine ab_aload_n C 1 rfl rfl dX2_soundsLike_14 ?_
        refine ab_g2 (v := .ref (a1 + 5)) C lf_X2_24 hB1.1 rfl dX2_soundsLike_15 ?_
        refine ab_iload_n C 2 rfl rfl dX2_soundsLike_18 ?_
        obtain ⟨v4, hxv4, hF⟩ := Option.bind_eq_some_iff.mp hF
        refine ab_lald C (X2_r9 hB1) hxv4 dX2_soundsLike_19 ?_
        refine ab_lcmp C dX2_soundsLike_20 ?_
        refine ab_if_eq C 26 dX2_soundsLike_21 (by decide) (fun c5 => ?_) (fun c5 => ?_)
        · replace hF := (if_pos c5).symm.trans hF
          obtain ⟨v6, qv6⟩ : ∃ y : Int32, y = (v1 + (1 : Int32)) := ⟨_, rfl⟩
          replace hF := aLet_e hF v6 qv6
          refine ab_iinc (lv' := [(2, .int v6), (0, .ref a0), (1, .ref a1)]) C 2 rfl dX2_soundsLike_26 (by rw [qv6]; rfl) (by decide) rfl ?_
          refine ab_goto C 2 dX2_soundsLike_29 (by decide) ?_
          refine aV.sub (lv' := [(0, .ref a0), (1, .ref a1), (2, .int v6)]) [1, 2, 0] rfl ?_
          exact ih2 v6 res2 hF KX2 KR2
        · replace hF := (if_neg c5).symm.trans hF
          refine ab_iconst (v := (0 : Int32)) C dX2_soundsLike_24 (by decide) ?_
          obtain rfl := Option.some.inj hF
          exact ab_iret C R0 rfl dX2_soundsLike_25 (KR2 (0 : Int32) rfl)
  refine aV.sub (lv' := [(0, .ref a0), (1, .ref a1), (2, .int (0 : Int32))]) [1, 2, 0] rfl ?_
  obtain ⟨e7, he7, hF⟩ := Option.bind_eq_some_iff.mp hF
  refine L2 aFu (0 : Int32) e7 he7 (fun s8 eqs8 => ?_) (fun t9 eqt9 => ?_)
  · subst eqs8
    replace hF := aCs_r hF
    refine ab_iconst (v := (1 : Int32)) C dX2_soundsLike_32 (by decide) ?_
    obtain rfl := Option.some.inj hF
    exact ab_iret C R0 rfl dX2_soundsLike_33 ⟨rfl, rfl, rfl⟩
  · subst eqt9
    replace hF := aCs_l hF
    obtain rfl := Option.some.inj hF
    exact ⟨rfl, rfl, rfl⟩
theorem dX2_sellDrawn_0 : decode cX2_sellDrawn 0 = .ok (.aload_n 0, 1) := by decide +kernel
theorem dX2_sellDrawn_1 : decode cX2_sellDrawn 1 = .ok (.invokevirtual 68, 3) := by decide +kernel
theorem dX2_sellDrawn_4 : decode cX2_sellDrawn 4 = .ok (.istore_n 3, 1) := by decide +kernel
theorem dX2_sellDrawn_5 : decode cX2_sellDrawn 5 = .ok (.aload_n 0, 1) := by decide +kernel
theorem dX2_sellDrawn_6 : decode cX2_sellDrawn 6 = .ok (.getfield 34, 3) := by decide +kernel
theorem dX2_sellDrawn_9 : decode cX2_sellDrawn 9 = .ok (.ifCond .le 14, 3) := by decide +kernel
theorem dX2_sellDrawn_12 : decode cX2_sellDrawn 12 = .ok (.aload_n 0, 1) := by decide +kernel
theorem dX2_sellDrawn_13 : decode cX2_sellDrawn 13 = .ok (.getfield 48, 3) := by decide +kernel
theorem dX2_sellDrawn_16 : decode cX2_sellDrawn 16 = .ok (.ifCond .le 7, 3) := by decide +kernel
theorem dX2_sellDrawn_19 : decode cX2_sellDrawn 19 = .ok (.iload_n 3, 1) := by decide +kernel
theorem dX2_sellDrawn_20 : decode cX2_sellDrawn 20 = .ok (.ifCond .gt 4, 3) := by decide +kernel
theorem dX2_sellDrawn_23 : decode cX2_sellDrawn 23 = .ok (.return_, 1) := by decide +kernel
theorem dX2_sellDrawn_24 : decode cX2_sellDrawn 24 = .ok (.lload_n 1, 1) := by decide +kernel
theorem dX2_sellDrawn_25 : decode cX2_sellDrawn 25 = .ok (.iload_n 3, 1) := by decide +kernel
theorem dX2_sellDrawn_26 : decode cX2_sellDrawn 26 = .ok (.i2l, 1) := by decide +kernel
theorem dX2_sellDrawn_27 : decode cX2_sellDrawn 27 = .ok (.lrem, 1) := by decide +kernel
theorem dX2_sellDrawn_28 : decode cX2_sellDrawn 28 = .ok (.l2i, 1) := by decide +kernel
theorem dX2_sellDrawn_29 : decode cX2_sellDrawn 29 = .ok (.istore 4, 2) := by decide +kernel
theorem dX2_sellDrawn_31 : decode cX2_sellDrawn 31 = .ok (.lload_n 1, 1) := by decide +kernel
theorem dX2_sellDrawn_32 : decode cX2_sellDrawn 32 = .ok (.ldc2_w 72, 3) := by decide +kernel
theorem dX2_sellDrawn_35 : decode cX2_sellDrawn 35 = .ok (.ldiv, 1) := by decide +kernel
theorem dX2_sellDrawn_36 : decode cX2_sellDrawn 36 = .ok (.aload_n 0, 1) := by decide +kernel
theorem dX2_sellDrawn_37 : decode cX2_sellDrawn 37 = .ok (.getfield 34, 3) := by decide +kernel
theorem dX2_sellDrawn_40 : decode cX2_sellDrawn 40 = .ok (.i2l, 1) := by decide +kernel
theorem dX2_sellDrawn_41 : decode cX2_sellDrawn 41 = .ok (.lrem, 1) := by decide +kernel
theorem dX2_sellDrawn_42 : decode cX2_sellDrawn 42 = .ok (.l2i, 1) := by decide +kernel
theorem dX2_sellDrawn_43 : decode cX2_sellDrawn 43 = .ok (.istore 5, 2) := by decide +kernel
theorem dX2_sellDrawn_45 : decode cX2_sellDrawn 45 = .ok (.aload_n 0, 1) := by decide +kernel
theorem dX2_sellDrawn_46 : decode cX2_sellDrawn 46 = .ok (.lconst 1, 1) := by decide +kernel
theorem dX2_sellDrawn_47 : decode cX2_sellDrawn 47 = .ok (.bipush 8, 2) := by decide +kernel
theorem dX2_sellDrawn_49 : decode cX2_sellDrawn 49 = .ok (.iload 4, 2) := by decide +kernel
theorem dX2_sellDrawn_51 : decode cX2_sellDrawn 51 = .ok (.aload_n 0, 1) := by decide +kernel
theorem dX2_sellDrawn_52 : decode cX2_sellDrawn 52 = .ok (.getfield 48, 3) := by decide +kernel
theorem dX2_sellDrawn_55 : decode cX2_sellDrawn 55 = .ok (.idiv, 1) := by decide +kernel
theorem dX2_sellDrawn_56 : decode cX2_sellDrawn 56 = .ok (.imul, 1) := by decide +kernel
theorem dX2_sellDrawn_57 : decode cX2_sellDrawn 57 = .ok (.iload 4, 2) := by decide +kernel
theorem dX2_sellDrawn_59 : decode cX2_sellDrawn 59 = .ok (.aload_n 0, 1) := by decide +kernel
theorem dX2_sellDrawn_60 : decode cX2_sellDrawn 60 = .ok (.getfield 48, 3) := by decide +kernel
theorem dX2_sellDrawn_63 : decode cX2_sellDrawn 63 = .ok (.irem, 1) := by decide +kernel
theorem dX2_sellDrawn_64 : decode cX2_sellDrawn 64 = .ok (.iadd, 1) := by decide +kernel
theorem dX2_sellDrawn_65 : decode cX2_sellDrawn 65 = .ok (.lshl, 1) := by decide +kernel
theorem dX2_sellDrawn_66 : decode cX2_sellDrawn 66 = .ok (.iload 5, 2) := by decide +kernel
theorem dX2_sellDrawn_68 : decode cX2_sellDrawn 68 = .ok (.invokevirtual 74, 3) := by decide +kernel
theorem dX2_sellDrawn_71 : decode cX2_sellDrawn 71 = .ok (.return_, 1) := by decide +kernel
def X2_sellDrawn (S0 : Rec) (y1 : Int64) : Option (Rec) :=
  aLet (X2_cells S0) fun v1 =>
  if (S0.1 0) ≤ 0 then
    some S0
  else
    if (S0.1 3) ≤ 0 then
      some S0
    else
      if 0 < v1 then
        if (v1.toInt64) = (0 : Int64) then none else
        aLet ((y1 - y1 / (v1.toInt64) * (v1.toInt64)).toInt32) fun v6 =>
        if ((S0.1 0).toInt64) = (0 : Int64) then none else
        aLet (((y1 / (8 : Int64)) - (y1 / (8 : Int64)) / ((S0.1 0).toInt64) * ((S0.1 0).toInt64)).toInt32) fun v8 =>
        if (S0.1 3) = (0 : Int32) then none else
        if (S0.1 3) = (0 : Int32) then none else
        (X2_hand S0 ((1 : Int64) <<< ((((8 : Int32) * (v6 / (S0.1 3))) + (v6 - v6 / (S0.1 3) * (S0.1 3))).toInt64 &&& 63)) v8).bind fun v11 =>
        some v11
      else
        some S0
set_option maxRecDepth 100000 in
set_option maxHeartbeats 4000000 in
theorem X2_sellDrawn_ok (l : Launch) {h : aH} {nx : Nat} {a0 : Nat} {S0 : Rec} {y1 : Int64} (hB0 : X2_at h a0 S0) {r : Rec} (hF : X2_sellDrawn S0 y1 = some r) : aOk l 1 0 0 yX2_sellDrawn cX2_sellDrawn 6 none [.ref a0, .long y1] h nx (aMt none nx (fun h1 => X2_at h1 a0 r ∧ (∀ q, (q < a0 ∨ a0 + 8 ≤ q) → h1 q = h q))) := by
  refine aOk.of (by decide +kernel) (Nat.le_of_ble_eq_true rfl) (fun X G hX C R0 _ => ?_)
  subst hX
  show aV X G 6 0 [(0, .ref a0), (1, .long y1)] [] h nx 0 0
  have hFr : ∀ q, (q < a0 ∨ a0 + 8 ≤ q) → h q = h q := fun _ _ => rfl
  rw [X2_sellDrawn] at hF
  refine ab_aload_n C 0 rfl rfl dX2_sellDrawn_0 ?_
  refine ab_cVR (v := .int (X2_cells S0)) (st := []) C lm_X2_68 (X2_cells_ok (xl X) hB0 (r := (X2_cells S0)) rfl) [] rfl hB0.1 rfl rfl rfl (by decide) ⟨Nat.zero_le _, Nat.zero_le _⟩ (Nat.le_of_ble_eq_true rfl) dX2_sellDrawn_1 ?_
  refine ab_topi (fun v1 qv1 => ?_)
  replace hF := aLet_e hF v1 qv1
  refine ab_istore_n (lv' := [(3, .int v1), (0, .ref a0), (1, .long y1)]) C dX2_sellDrawn_4 rfl (by decide) rfl ?_
  refine ab_aload_n C 1 rfl rfl dX2_sellDrawn_5 ?_
  refine ab_g2 (v := .int (S0.1 0)) C lf_X2_34 hB0.1 rfl dX2_sellDrawn_6 ?_
  refine ab_if_le C 23 dX2_sellDrawn_9 (by decide) (fun c2 => ?_) (fun c2 => ?_)
  · replace hF := (if_pos c2).symm.trans hF
    obtain rfl := Option.some.inj hF
    exact ab_vret C R0 dX2_sellDrawn_23 ⟨rfl, rfl, hB0, hFr⟩
  · replace hF := (if_neg c2).symm.trans hF
    refine ab_aload_n C 1 rfl rfl dX2_sellDrawn_12 ?_
    refine ab_g2 (v := .int (S0.1 3)) C lf_X2_48 hB0.1 rfl dX2_sellDrawn_13 ?_
    refine ab_if_le C 23 dX2_sellDrawn_16 (by decide) (fun c3 => ?_) (fun c3 => ?_)
    · replace hF := (if_pos c3).symm.trans hF
      obtain rfl := Option.some.inj hF
      exact ab_vret C R0 dX2_sellDrawn_23 ⟨rfl, rfl, hB0, hFr⟩
    · replace hF := (if_neg c3).symm.trans hF
      refine ab_iload_n C 0 rfl rfl dX2_sellDrawn_19 ?_
      refine ab_if_gt C 24 dX2_sellDrawn_20 (by decide) (fun c4 => ?_) (fun c4 => ?_)
      · replace hF := (if_pos c4).symm.trans hF
        refine ab_lload_n C 2 rfl rfl dX2_sellDrawn_24 ?_
        refine ab_iload_n C 0 rfl rfl dX2_sellDrawn_25 ?_
        refine ab_i2l C dX2_sellDrawn_26 ?_
        rcases Classical.em ((v1.toInt64) = (0 : Int64)) with c5 | c5
        · replace hF := (if_pos c5).symm.trans hF
          cases hF
        replace hF := (if_neg c5).symm.trans hF
        refine ab_lrem C c5 dX2_sellDrawn_27 ?_
        refine ab_l2i C dX2_sellDrawn_28 ?_
        refine ab_topi (fun v6 qv6 => ?_)
        replace hF := aLet_e hF v6 qv6
        refine ab_istore (lv' := [(4, .int v6), (3, .int v1), (0, .ref a0), (1, .long y1)]) C dX2_sellDrawn_29 (by decide) rfl ?_
        refine ab_lload_n C 3 rfl rfl dX2_sellDrawn_31 ?_
        refine ab_ldc2 (v := (8 : Int64)) C dX2_sellDrawn_32 lq_X2_72 ?_
        refine ab_ldiv C (by decide) dX2_sellDrawn_35 ?_
        refine ab_aload_n C 2 rfl rfl dX2_sellDrawn_36 ?_
        refine ab_g2 (v := .int (S0.1 0)) C lf_X2_34 hB0.1 rfl dX2_sellDrawn_37 ?_
        refine ab_i2l C dX2_sellDrawn_40 ?_
        rcases Classical.em (((S0.1 0).toInt64) = (0 : Int64)) with c7 | c7
        · replace hF := (if_pos c7).symm.trans hF
          cases hF
        replace hF := (if_neg c7).symm.trans hF
        refine ab_lrem C c7 dX2_sellDrawn_41 ?_
        refine ab_l2i C dX2_sellDrawn_42 ?_
        refine ab_topi (fun v8 qv8 => ?_)
        replace hF := aLet_e hF v8 qv8
        refine ab_istore (lv' := [(5, .int v8), (4, .int v6), (3, .int v1), (0, .ref a0), (1, .long y1)]) C dX2_sellDrawn_43 (by decide) rfl ?_
        refine ab_aload_n C 3 rfl rfl dX2_sellDrawn_45 ?_
        refine ab_lconst (v := (1 : Int64)) C dX2_sellDrawn_46 (by decide) ?_
        refine ab_bipush (v := (8 : Int32)) C dX2_sellDrawn_47 (by decide) ?_
        refine ab_iload C 1 rfl dX2_sellDrawn_49 ?_
        refine ab_aload_n C 3 rfl rfl dX2_sellDrawn_51 ?_
        refine ab_g2 (v := .int (S0.1 3)) C lf_X2_48 hB0.1 rfl dX2_sellDrawn_52 ?_
        rcases Classical.em ((S0.1 3) = (0 : Int32)) with c9 | c9
        · replace hF := (if_pos c9).symm.trans hF
          cases hF
        replace hF := (if_neg c9).symm.trans hF
        refine ab_idiv C c9 dX2_sellDrawn_55 ?_
        refine ab_imul C dX2_sellDrawn_56 ?_
        refine ab_iload C 1 rfl dX2_sellDrawn_57 ?_
        refine ab_aload_n C 3 rfl rfl dX2_sellDrawn_59 ?_
        refine ab_g2 (v := .int (S0.1 3)) C lf_X2_48 hB0.1 rfl dX2_sellDrawn_60 ?_
        rcases Classical.em ((S0.1 3) = (0 : Int32)) with c10 | c10
        · replace hF := (if_pos c10).symm.trans hF
          cases hF
        replace hF := (if_neg c10).symm.trans hF
        refine ab_irem C c10 dX2_sellDrawn_63 ?_
        refine ab_iadd C dX2_sellDrawn_64 ?_
        refine ab_lshl C dX2_sellDrawn_65 ?_
        refine ab_iload C 0 rfl dX2_sellDrawn_66 ?_
        obtain ⟨v11, hxv11, hF⟩ := Option.bind_eq_some_iff.mp hF
        refine ab_cVN (st := []) C lm_X2_74 (X2_hand_ok (xl X) hB0 (r := v11) hxv11) [.long ((1 : Int64) <<< ((((8 : Int32) * (v6 / (S0.1 3))) + (v6 - v6 / (S0.1 3) * (S0.1 3))).toInt64 &&& 63)), .int v8] rfl hB0.1 rfl rfl rfl (by decide) ⟨Nat.zero_le _, Nat.zero_le _⟩ (Nat.le_of_ble_eq_true rfl) dX2_sellDrawn_68 (fun g12 pg12 => ?_)
        obtain ⟨k0, Og12⟩ := pg12
        have hB0 : X2_at g12 a0 v11 := k0
        have hFr : ∀ q, (q < a0 ∨ a0 + 8 ≤ q) → g12 q = h q := fun q u0 => (Og12 q (by omega)).trans (hFr q u0)
        obtain rfl := Option.some.inj hF
        exact ab_vret C R0 dX2_sellDrawn_71 ⟨rfl, rfl, hB0, hFr⟩
      · replace hF := (if_neg c4).symm.trans hF
        obtain rfl := Option.some.inj hF
        exact ab_vret C R0 dX2_sellDrawn_23 ⟨rfl, rfl, hB0, hFr⟩
theorem dX2_vowelsIn_0 : decode cX2_vowelsIn 0 = .ok (.iconst 0, 1) := by decide +kernel
theorem dX2_vowelsIn_1 : decode cX2_vowelsIn 1 = .ok (.istore_n 3, 1) := by decide +kernel
theorem dX2_vowelsIn_2 : decode cX2_vowelsIn 2 = .ok (.iconst 0, 1) := by decide +kernel
theorem dX2_vowelsIn_3 : decode cX2_vowelsIn 3 = .ok (.istore 4, 2) := by decide +kernel
theorem dX2_vowelsIn_5 : decode cX2_vowelsIn 5 = .ok (.iload 4, 2) := by decide +kernel
theorem dX2_vowelsIn_7 : decode cX2_vowelsIn 7 = .ok (.iconst 5, 1) := by decide +kernel
theorem dX2_vowelsIn_8 : decode cX2_vowelsIn 8 = .ok (.if_icmp .ge 30, 3) := by decide +kernel
theorem dX2_vowelsIn_11 : decode cX2_vowelsIn 11 = .ok (.aload_n 0, 1) := by decide +kernel
theorem dX2_vowelsIn_12 : decode cX2_vowelsIn 12 = .ok (.getfield 24, 3) := by decide +kernel
theorem dX2_vowelsIn_15 : decode cX2_vowelsIn 15 = .ok (.iload 4, 2) := by decide +kernel
theorem dX2_vowelsIn_17 : decode cX2_vowelsIn 17 = .ok (.laload, 1) := by decide +kernel
theorem dX2_vowelsIn_18 : decode cX2_vowelsIn 18 = .ok (.lload_n 1, 1) := by decide +kernel
theorem dX2_vowelsIn_19 : decode cX2_vowelsIn 19 = .ok (.land, 1) := by decide +kernel
theorem dX2_vowelsIn_20 : decode cX2_vowelsIn 20 = .ok (.lconst 0, 1) := by decide +kernel
theorem dX2_vowelsIn_21 : decode cX2_vowelsIn 21 = .ok (.lcmp, 1) := by decide +kernel
theorem dX2_vowelsIn_22 : decode cX2_vowelsIn 22 = .ok (.ifCond .eq 10, 3) := by decide +kernel
theorem dX2_vowelsIn_25 : decode cX2_vowelsIn 25 = .ok (.iload_n 3, 1) := by decide +kernel
theorem dX2_vowelsIn_26 : decode cX2_vowelsIn 26 = .ok (.iconst 1, 1) := by decide +kernel
theorem dX2_vowelsIn_27 : decode cX2_vowelsIn 27 = .ok (.iload 4, 2) := by decide +kernel
theorem dX2_vowelsIn_29 : decode cX2_vowelsIn 29 = .ok (.ishl, 1) := by decide +kernel
theorem dX2_vowelsIn_30 : decode cX2_vowelsIn 30 = .ok (.ior, 1) := by decide +kernel
theorem dX2_vowelsIn_31 : decode cX2_vowelsIn 31 = .ok (.istore_n 3, 1) := by decide +kernel
theorem dX2_vowelsIn_32 : decode cX2_vowelsIn 32 = .ok (.iinc 4 1, 3) := by decide +kernel
theorem dX2_vowelsIn_35 : decode cX2_vowelsIn 35 = .ok (.goto (-30), 3) := by decide +kernel
theorem dX2_vowelsIn_38 : decode cX2_vowelsIn 38 = .ok (.iload_n 3, 1) := by decide +kernel
theorem dX2_vowelsIn_39 : decode cX2_vowelsIn 39 = .ok (.ireturn, 1) := by decide +kernel
def X2_vowelsIn_L5 (S0 : Rec) (y1 : Int64) : Nat → Int32 → Int32 → Option (Int32)
  | 0, _, _ => none
  | n5 + 1, v1, v2 => if (5 : Int32) ≤ v2 then
      some v1
    else
      (rdL (S0.2.2 9) 6 v2).bind fun v4 =>
      if (lg_cmp (v4 &&& y1) (0 : Int64)) = 0 then
        aLet (v2 + (1 : Int32)) fun v6 =>
        X2_vowelsIn_L5 S0 y1 n5 v1 v6
      else
        aLet (v1 ||| ((1 : Int32) <<< (v2 &&& 31))) fun v7 =>
        aLet (v2 + (1 : Int32)) fun v8 =>
        X2_vowelsIn_L5 S0 y1 n5 v7 v8
def X2_vowelsIn (S0 : Rec) (y1 : Int64) : Option (Int32) :=
  (X2_vowelsIn_L5 S0 y1 aFu (0 : Int32) (0 : Int32)).bind fun e9 =>
  some e9
set_option maxRecDepth 100000 in
set_option maxHeartbeats 4000000 in
theorem X2_vowelsIn_ok (l : Launch) {h : aH} {nx : Nat} {a0 : Nat} {S0 : Rec} {y1 : Int64} (hB0 : X2_at h a0 S0) {r : Int32} (hF : X2_vowelsIn S0 y1 = some r) : aOk l 0 0 0 yX2_vowelsIn cX2_vowelsIn 5 (some .int) [.ref a0, .long y1] h nx (aRd (.int r) h nx) := by
  refine aOk.of (by decide +kernel) (Nat.le_of_ble_eq_true rfl) (fun X G hX C R0 _ => ?_)
  subst hX
  show aV X G 5 0 [(0, .ref a0), (1, .long y1)] [] h nx 0 0
  rw [X2_vowelsIn] at hF
  refine ab_iconst (v := (0 : Int32)) C dX2_vowelsIn_0 (by decide) ?_
  refine ab_istore_n (lv' := [(3, .int (0 : Int32)), (0, .ref a0), (1, .long y1)]) C dX2_vowelsIn_1 rfl (by decide) rfl ?_
  refine ab_iconst (v := (0 : Int32)) C dX2_vowelsIn_2 (by decide) ?_
  refine ab_istore (lv' := [(4, .int (0 : Int32)), (3, .int (0 : Int32)), (0, .ref a0), (1, .long y1)]) C dX2_vowelsIn_3 (by decide) rfl ?_
  have L5 : ∀ (n5 : Nat) (v1 : Int32) (v2 : Int32), ∀ (res5 : Int32), X2_vowelsIn_L5 S0 y1 n5 v1 v2 = some res5 → (aV X G 5 38 [(3, .int res5)] [] h nx 0 0) → aV X G 5 5 [(0, .ref a0), (1, .long y1), (3, .int v1), (4, .int v2)] [] h nx 0 0 := by
    intro n5
    induction n5 with
    | zero => intro v1 v2 res5 hF KX5; cases (show (none : Option (Int32)) = some res5 from hF)
    | succ n5 ih5 =>
      intro v1 v2 res5 hF KX5
      rw [X2_vowelsIn_L5] at hF
      refine ab_iload C 3 rfl dX2_vowelsIn_5 ?_
      refine ab_iconst (v := (5 : Int32)) C dX2_vowelsIn_7 (by decide) ?_
      refine ab_icmp_ge C 38 dX2_vowelsIn_8 (by decide) (fun c3 => ?_) (fun c3 => ?_)
      · replace hF := (if_pos c3).symm.trans hF
        obtain rfl := Option.some.inj hF
        refine aV.sub (lv' := [(3, .int v1)]) [2] rfl ?_
        exact KX5
      · replace hF := (if_neg c3).symm.trans hF
        refine ab_aload_n C 0 rfl rfl dX2_vowelsIn_11 ?_
        refine ab_g2 (v := .ref (a0 + 5)) C lf_X2_24 hB0.1 rfl dX2_vowelsIn_12 ?_
        refine ab_iload C 3 rfl dX2_vowelsIn_15 ?_
        obtain ⟨v4, hxv4, hF⟩ := Option.bind_eq_some_iff.mp hF
        refine ab_lald C (X2_r9 hB0) hxv4 dX2_vowelsIn_17 ?_
        refine ab_lload_n C 1 rfl rfl dX2_vowelsIn_18 ?_
        refine ab_land C dX2_vowelsIn_19 ?_
        refine ab_lconst (v := (0 : Int64)) C dX2_vowelsIn_20 (by decide) ?_
        refine ab_lcmp C dX2_vowelsIn_21 ?_
        refine ab_if_eq C 32 dX2_vowelsIn_22 (by decide) (fun c5 => ?_) (fun c5 => ?_)
        · replace hF := (if_pos c5).symm.trans hF
          obtain ⟨v6, qv6⟩ : ∃ y : Int32, y = (v2 + (1 : Int32)) := ⟨_, rfl⟩
          replace hF := aLet_e hF v6 qv6
          refine ab_iinc (lv' := [(4, .int v6), (0, .ref a0), (1, .long y1), (3, .int v1)]) C 3 rfl dX2_vowelsIn_32 (by rw [qv6]; rfl) (by decide) rfl ?_
          refine ab_goto C 5 dX2_vowelsIn_35 (by decide) ?_
          refine aV.sub (lv' := [(0, .ref a0), (1, .long y1), (3, .int v1), (4, .int v6)]) [1, 2, 3, 0] rfl ?_
          exact ih5 v1 v6 res5 hF KX5
        · replace hF := (if_neg c5).symm.trans hF
          refine ab_iload_n C 2 rfl rfl dX2_vowelsIn_25 ?_
          refine ab_iconst (v := (1 : Int32)) C dX2_vowelsIn_26 (by decide) ?_
          refine ab_iload C 3 rfl dX2_vowelsIn_27 ?_
          refine ab_ishl C dX2_vowelsIn_29 ?_
          refine ab_ior C dX2_vowelsIn_30 ?_
          refine ab_topi (fun v7 qv7 => ?_)
          replace hF := aLet_e hF v7 qv7
          refine ab_istore_n (lv' := [(3, .int v7), (0, .ref a0), (1, .long y1), (4, .int v2)]) C dX2_vowelsIn_31 rfl (by decide) rfl ?_
          obtain ⟨v8, qv8⟩ : ∃ y : Int32, y = (v2 + (1 : Int32)) := ⟨_, rfl⟩
          replace hF := aLet_e hF v8 qv8
          refine ab_iinc (lv' := [(4, .int v8), (3, .int v7), (0, .ref a0), (1, .long y1)]) C 3 rfl dX2_vowelsIn_32 (by rw [qv8]; rfl) (by decide) rfl ?_
          refine ab_goto C 5 dX2_vowelsIn_35 (by decide) ?_
          refine aV.sub (lv' := [(0, .ref a0), (1, .long y1), (3, .int v7), (4, .int v8)]) [2, 3, 1, 0] rfl ?_
          exact ih5 v7 v8 res5 hF KX5
  refine aV.sub (lv' := [(0, .ref a0), (1, .long y1), (3, .int (0 : Int32)), (4, .int (0 : Int32))]) [2, 3, 1, 0] rfl ?_
  obtain ⟨e9, he9, hF⟩ := Option.bind_eq_some_iff.mp hF
  refine L5 aFu (0 : Int32) (0 : Int32) e9 he9 ?_
  refine ab_iload_n C 0 rfl rfl dX2_vowelsIn_38 ?_
  obtain rfl := Option.some.inj hF
  exact ab_iret C R0 rfl dX2_vowelsIn_39 ⟨rfl, rfl, rfl⟩
theorem dX2_vowelsOnceIn_0 : decode cX2_vowelsOnceIn 0 = .ok (.iconst 0, 1) := by decide +kernel
theorem dX2_vowelsOnceIn_1 : decode cX2_vowelsOnceIn 1 = .ok (.istore_n 3, 1) := by decide +kernel
theorem dX2_vowelsOnceIn_2 : decode cX2_vowelsOnceIn 2 = .ok (.iconst 0, 1) := by decide +kernel
theorem dX2_vowelsOnceIn_3 : decode cX2_vowelsOnceIn 3 = .ok (.istore 4, 2) := by decide +kernel
theorem dX2_vowelsOnceIn_5 : decode cX2_vowelsOnceIn 5 = .ok (.iload 4, 2) := by decide +kernel
theorem dX2_vowelsOnceIn_7 : decode cX2_vowelsOnceIn 7 = .ok (.iconst 5, 1) := by decide +kernel
theorem dX2_vowelsOnceIn_8 : decode cX2_vowelsOnceIn 8 = .ok (.if_icmp .ge 32, 3) := by decide +kernel
theorem dX2_vowelsOnceIn_11 : decode cX2_vowelsOnceIn 11 = .ok (.aload_n 0, 1) := by decide +kernel
theorem dX2_vowelsOnceIn_12 : decode cX2_vowelsOnceIn 12 = .ok (.getfield 24, 3) := by decide +kernel
theorem dX2_vowelsOnceIn_15 : decode cX2_vowelsOnceIn 15 = .ok (.iload 4, 2) := by decide +kernel
theorem dX2_vowelsOnceIn_17 : decode cX2_vowelsOnceIn 17 = .ok (.laload, 1) := by decide +kernel
theorem dX2_vowelsOnceIn_18 : decode cX2_vowelsOnceIn 18 = .ok (.lload_n 1, 1) := by decide +kernel
theorem dX2_vowelsOnceIn_19 : decode cX2_vowelsOnceIn 19 = .ok (.land, 1) := by decide +kernel
theorem dX2_vowelsOnceIn_20 : decode cX2_vowelsOnceIn 20 = .ok (.invokestatic 62, 3) := by decide +kernel
theorem dX2_vowelsOnceIn_23 : decode cX2_vowelsOnceIn 23 = .ok (.iconst 1, 1) := by decide +kernel
theorem dX2_vowelsOnceIn_24 : decode cX2_vowelsOnceIn 24 = .ok (.if_icmp .ne 10, 3) := by decide +kernel
theorem dX2_vowelsOnceIn_27 : decode cX2_vowelsOnceIn 27 = .ok (.iload_n 3, 1) := by decide +kernel
theorem dX2_vowelsOnceIn_28 : decode cX2_vowelsOnceIn 28 = .ok (.iconst 1, 1) := by decide +kernel
theorem dX2_vowelsOnceIn_29 : decode cX2_vowelsOnceIn 29 = .ok (.iload 4, 2) := by decide +kernel
theorem dX2_vowelsOnceIn_31 : decode cX2_vowelsOnceIn 31 = .ok (.ishl, 1) := by decide +kernel
theorem dX2_vowelsOnceIn_32 : decode cX2_vowelsOnceIn 32 = .ok (.ior, 1) := by decide +kernel
theorem dX2_vowelsOnceIn_33 : decode cX2_vowelsOnceIn 33 = .ok (.istore_n 3, 1) := by decide +kernel
theorem dX2_vowelsOnceIn_34 : decode cX2_vowelsOnceIn 34 = .ok (.iinc 4 1, 3) := by decide +kernel
theorem dX2_vowelsOnceIn_37 : decode cX2_vowelsOnceIn 37 = .ok (.goto (-32), 3) := by decide +kernel
theorem dX2_vowelsOnceIn_40 : decode cX2_vowelsOnceIn 40 = .ok (.iload_n 3, 1) := by decide +kernel
theorem dX2_vowelsOnceIn_41 : decode cX2_vowelsOnceIn 41 = .ok (.ireturn, 1) := by decide +kernel
def X2_vowelsOnceIn_L5 (S0 : Rec) (y1 : Int64) : Nat → Int32 → Int32 → Option (Int32)
  | 0, _, _ => none
  | n5 + 1, v1, v2 => if (5 : Int32) ≤ v2 then
      some v1
    else
      (rdL (S0.2.2 9) 6 v2).bind fun v4 =>
      if (J13_bitCount_95d88 (v4 &&& y1)) = (1 : Int32) then
        aLet (v1 ||| ((1 : Int32) <<< (v2 &&& 31))) fun v7 =>
        aLet (v2 + (1 : Int32)) fun v8 =>
        X2_vowelsOnceIn_L5 S0 y1 n5 v7 v8
      else
        aLet (v2 + (1 : Int32)) fun v6 =>
        X2_vowelsOnceIn_L5 S0 y1 n5 v1 v6
def X2_vowelsOnceIn (S0 : Rec) (y1 : Int64) : Option (Int32) :=
  (X2_vowelsOnceIn_L5 S0 y1 aFu (0 : Int32) (0 : Int32)).bind fun e9 =>
  some e9
set_option maxRecDepth 100000 in
set_option maxHeartbeats 4000000 in
theorem X2_vowelsOnceIn_ok (l : Launch) {h : aH} {nx : Nat} {a0 : Nat} {S0 : Rec} {y1 : Int64} (hB0 : X2_at h a0 S0) {r : Int32} (hF : X2_vowelsOnceIn S0 y1 = some r) : aOk l 1 0 0 yX2_vowelsOnceIn cX2_vowelsOnceIn 5 (some .int) [.ref a0, .long y1] h nx (aRd (.int r) h nx) := by
  refine aOk.of (by decide +kernel) (Nat.le_of_ble_eq_true rfl) (fun X G hX C R0 _ => ?_)
  subst hX
  show aV X G 5 0 [(0, .ref a0), (1, .long y1)] [] h nx 0 0
  rw [X2_vowelsOnceIn] at hF
  refine ab_iconst (v := (0 : Int32)) C dX2_vowelsOnceIn_0 (by decide) ?_
  refine ab_istore_n (lv' := [(3, .int (0 : Int32)), (0, .ref a0), (1, .long y1)]) C dX2_vowelsOnceIn_1 rfl (by decide) rfl ?_
  refine ab_iconst (v := (0 : Int32)) C dX2_vowelsOnceIn_2 (by decide) ?_
  refine ab_istore (lv' := [(4, .int (0 : Int32)), (3, .int (0 : Int32)), (0, .ref a0), (1, .long y1)]) C dX2_vowelsOnceIn_3 (by decide) rfl ?_
  have L5 : ∀ (n5 : Nat) (v1 : Int32) (v2 : Int32), ∀ (res5 : Int32), X2_vowelsOnceIn_L5 S0 y1 n5 v1 v2 = some res5 → (aV X G 5 40 [(3, .int res5)] [] h nx 0 0) → aV X G 5 5 [(0, .ref a0), (1, .long y1), (3, .int v1), (4, .int v2)] [] h nx 0 0 := by
    intro n5
    induction n5 with
    | zero => intro v1 v2 res5 hF KX5; cases (show (none : Option (Int32)) = some res5 from hF)
    | succ n5 ih5 =>
      intro v1 v2 res5 hF KX5
      rw [X2_vowelsOnceIn_L5] at hF
      refine ab_iload C 3 rfl dX2_vowelsOnceIn_5 ?_
      refine ab_iconst (v := (5 : Int32)) C dX2_vowelsOnceIn_7 (by decide) ?_
      refine ab_icmp_ge C 40 dX2_vowelsOnceIn_8 (by decide) (fun c3 => ?_) (fun c3 => ?_)
      · replace hF := (if_pos c3).symm.trans hF
        obtain rfl := Option.some.inj hF
        refine aV.sub (lv' := [(3, .int v1)]) [2] rfl ?_
        exact KX5
      · replace hF := (if_neg c3).symm.trans hF
        refine ab_aload_n C 0 rfl rfl dX2_vowelsOnceIn_11 ?_
        refine ab_g2 (v := .ref (a0 + 5)) C lf_X2_24 hB0.1 rfl dX2_vowelsOnceIn_12 ?_
        refine ab_iload C 3 rfl dX2_vowelsOnceIn_15 ?_
        obtain ⟨v4, hxv4, hF⟩ := Option.bind_eq_some_iff.mp hF
        refine ab_lald C (X2_r9 hB0) hxv4 dX2_vowelsOnceIn_17 ?_
        refine ab_lload_n C 1 rfl rfl dX2_vowelsOnceIn_18 ?_
        refine ab_land C dX2_vowelsOnceIn_19 ?_
        refine ab_cSR (v := .int (J13_bitCount_95d88 (v4 &&& y1))) (st := []) C lm_X2_62 (J13_bitCount_95d88_ok (xl X) (r := (J13_bitCount_95d88 (v4 &&& y1))) rfl) rfl rfl (by decide) ⟨Nat.zero_le _, Nat.zero_le _⟩ (Nat.le_of_ble_eq_true rfl) dX2_vowelsOnceIn_20 ?_
        refine ab_iconst (v := (1 : Int32)) C dX2_vowelsOnceIn_23 (by decide) ?_
        refine ab_icmp_ne C 34 dX2_vowelsOnceIn_24 (by decide) (fun c5 => ?_) (fun c5 => ?_)
        · replace hF := (if_neg c5).symm.trans hF
          obtain ⟨v6, qv6⟩ : ∃ y : Int32, y = (v2 + (1 : Int32)) := ⟨_, rfl⟩
          replace hF := aLet_e hF v6 qv6
          refine ab_iinc (lv' := [(4, .int v6), (0, .ref a0), (1, .long y1), (3, .int v1)]) C 3 rfl dX2_vowelsOnceIn_34 (by rw [qv6]; rfl) (by decide) rfl ?_
          refine ab_goto C 5 dX2_vowelsOnceIn_37 (by decide) ?_
          refine aV.sub (lv' := [(0, .ref a0), (1, .long y1), (3, .int v1), (4, .int v6)]) [1, 2, 3, 0] rfl ?_
          exact ih5 v1 v6 res5 hF KX5
        · replace hF := (if_pos c5).symm.trans hF
          refine ab_iload_n C 2 rfl rfl dX2_vowelsOnceIn_27 ?_
          refine ab_iconst (v := (1 : Int32)) C dX2_vowelsOnceIn_28 (by decide) ?_
          refine ab_iload C 3 rfl dX2_vowelsOnceIn_29 ?_
          refine ab_ishl C dX2_vowelsOnceIn_31 ?_
          refine ab_ior C dX2_vowelsOnceIn_32 ?_
          refine ab_topi (fun v7 qv7 => ?_)
          replace hF := aLet_e hF v7 qv7
          refine ab_istore_n (lv' := [(3, .int v7), (0, .ref a0), (1, .long y1), (4, .int v2)]) C dX2_vowelsOnceIn_33 rfl (by decide) rfl ?_
          obtain ⟨v8, qv8⟩ : ∃ y : Int32, y = (v2 + (1 : Int32)) := ⟨_, rfl⟩
          replace hF := aLet_e hF v8 qv8
          refine ab_iinc (lv' := [(4, .int v8), (3, .int v7), (0, .ref a0), (1, .long y1)]) C 3 rfl dX2_vowelsOnceIn_34 (by rw [qv8]; rfl) (by decide) rfl ?_
          refine ab_goto C 5 dX2_vowelsOnceIn_37 (by decide) ?_
          refine aV.sub (lv' := [(0, .ref a0), (1, .long y1), (3, .int v7), (4, .int v8)]) [2, 3, 1, 0] rfl ?_
          exact ih5 v7 v8 res5 hF KX5
  refine aV.sub (lv' := [(0, .ref a0), (1, .long y1), (3, .int (0 : Int32)), (4, .int (0 : Int32))]) [2, 3, 1, 0] rfl ?_
  obtain ⟨e9, he9, hF⟩ := Option.bind_eq_some_iff.mp hF
  refine L5 aFu (0 : Int32) (0 : Int32) e9 he9 ?_
  refine ab_iload_n C 0 rfl rfl dX2_vowelsOnceIn_40 ?_
  obtain rfl := Option.some.inj hF
  exact ab_iret C R0 rfl dX2_vowelsOnceIn_41 ⟨rfl, rfl, rfl⟩
theorem dX2_commonVowels_0 : decode cX2_commonVowels 0 = .ok (.iconst 0, 1) := by decide +kernel
theorem dX2_commonVowels_1 : decode cX2_commonVowels 1 = .ok (.istore_n 1, 1) := by decide +kernel
theorem dX2_commonVowels_2 : decode cX2_commonVowels 2 = .ok (.iconst 0, 1) := by decide +kernel
theorem dX2_commonVowels_3 : decode cX2_commonVowels 3 = .ok (.istore_n 2, 1) := by decide +kernel
theorem dX2_commonVowels_4 : decode cX2_commonVowels 4 = .ok (.iload_n 2, 1) := by decide +kernel
theorem dX2_commonVowels_5 : decode cX2_commonVowels 5 = .ok (.iconst 5, 1) := by decide +kernel
theorem dX2_commonVowels_6 : decode cX2_commonVowels 6 = .ok (.if_icmp .ge 29, 3) := by decide +kernel
theorem dX2_commonVowels_9 : decode cX2_commonVowels 9 = .ok (.aload_n 0, 1) := by decide +kernel
theorem dX2_commonVowels_10 : decode cX2_commonVowels 10 = .ok (.getfield 24, 3) := by decide +kernel
theorem dX2_commonVowels_13 : decode cX2_commonVowels 13 = .ok (.iload_n 2, 1) := by decide +kernel
theorem dX2_commonVowels_14 : decode cX2_commonVowels 14 = .ok (.laload, 1) := by decide +kernel
theorem dX2_commonVowels_15 : decode cX2_commonVowels 15 = .ok (.invokestatic 62, 3) := by decide +kernel
theorem dX2_commonVowels_18 : decode cX2_commonVowels 18 = .ok (.bipush 12, 2) := by decide +kernel
theorem dX2_commonVowels_20 : decode cX2_commonVowels 20 = .ok (.if_icmp .lt 9, 3) := by decide +kernel
theorem dX2_commonVowels_23 : decode cX2_commonVowels 23 = .ok (.iload_n 1, 1) := by decide +kernel
theorem dX2_commonVowels_24 : decode cX2_commonVowels 24 = .ok (.iconst 1, 1) := by decide +kernel
theorem dX2_commonVowels_25 : decode cX2_commonVowels 25 = .ok (.iload_n 2, 1) := by decide +kernel
theorem dX2_commonVowels_26 : decode cX2_commonVowels 26 = .ok (.ishl, 1) := by decide +kernel
theorem dX2_commonVowels_27 : decode cX2_commonVowels 27 = .ok (.ior, 1) := by decide +kernel
theorem dX2_commonVowels_28 : decode cX2_commonVowels 28 = .ok (.istore_n 1, 1) := by decide +kernel
theorem dX2_commonVowels_29 : decode cX2_commonVowels 29 = .ok (.iinc 2 1, 3) := by decide +kernel
theorem dX2_commonVowels_32 : decode cX2_commonVowels 32 = .ok (.goto (-28), 3) := by decide +kernel
theorem dX2_commonVowels_35 : decode cX2_commonVowels 35 = .ok (.iload_n 1, 1) := by decide +kernel
theorem dX2_commonVowels_36 : decode cX2_commonVowels 36 = .ok (.ireturn, 1) := by decide +kernel
def X2_commonVowels_L4 (S0 : Rec) : Nat → Int32 → Int32 → Option (Int32)
  | 0, _, _ => none
  | n4 + 1, v1, v2 => if (5 : Int32) ≤ v2 then
      some v1
    else
      (rdL (S0.2.2 9) 6 v2).bind fun v4 =>
      if (J13_bitCount_95d88 v4) < (12 : Int32) then
        aLet (v2 + (1 : Int32)) fun v6 =>
        X2_commonVowels_L4 S0 n4 v1 v6
      else
        aLet (v1 ||| ((1 : Int32) <<< (v2 &&& 31))) fun v7 =>
        aLet (v2 + (1 : Int32)) fun v8 =>
        X2_commonVowels_L4 S0 n4 v7 v8
def X2_commonVowels (S0 : Rec) : Option (Int32) :=
  (X2_commonVowels_L4 S0 aFu (0 : Int32) (0 : Int32)).bind fun e9 =>
  some e9
set_option maxRecDepth 100000 in
set_option maxHeartbeats 4000000 in
theorem X2_commonVowels_ok (l : Launch) {h : aH} {nx : Nat} {a0 : Nat} {S0 : Rec} (hB0 : X2_at h a0 S0) {r : Int32} (hF : X2_commonVowels S0 = some r) : aOk l 1 0 0 yX2_commonVowels cX2_commonVowels 3 (some .int) [.ref a0] h nx (aRd (.int r) h nx) := by
  refine aOk.of (by decide +kernel) (Nat.le_of_ble_eq_true rfl) (fun X G hX C R0 _ => ?_)
  subst hX
  show aV X G 3 0 [(0, .ref a0)] [] h nx 0 0
  rw [X2_commonVowels] at hF
  refine ab_iconst (v := (0 : Int32)) C dX2_commonVowels_0 (by decide) ?_
  refine ab_istore_n (lv' := [(1, .int (0 : Int32)), (0, .ref a0)]) C dX2_commonVowels_1 rfl (by decide) rfl ?_
  refine ab_iconst (v := (0 : Int32)) C dX2_commonVowels_2 (by decide) ?_
  refine ab_istore_n (lv' := [(2, .int (0 : Int32)), (1, .int (0 : Int32)), (0, .ref a0)]) C dX2_commonVowels_3 rfl (by decide) rfl ?_
  have L4 : ∀ (n4 : Nat) (v1 : Int32) (v2 : Int32), ∀ (res4 : Int32), X2_commonVowels_L4 S0 n4 v1 v2 = some res4 → (aV X G 3 35 [(1, .int res4)] [] h nx 0 0) → aV X G 3 4 [(0, .ref a0), (1, .int v1), (2, .int v2)] [] h nx 0 0 := by
    intro n4
    induction n4 with
    | zero => intro v1 v2 res4 hF KX4; cases (show (none : Option (Int32)) = some res4 from hF)
    | succ n4 ih4 =>
      intro v1 v2 res4 hF KX4
      rw [X2_commonVowels_L4] at hF
      refine ab_iload_n C 2 rfl rfl dX2_commonVowels_4 ?_
      refine ab_iconst (v := (5 : Int32)) C dX2_commonVowels_5 (by decide) ?_
      refine ab_icmp_ge C 35 dX2_commonVowels_6 (by decide) (fun c3 => ?_) (fun c3 => ?_)
      · replace hF := (if_pos c3).symm.trans hF
        obtain rfl := Option.some.inj hF
        refine aV.sub (lv' := [(1, .int v1)]) [1] rfl ?_
        exact KX4
      · replace hF := (if_neg c3).symm.trans hF
        refine ab_aload_n C 0 rfl rfl dX2_commonVowels_9 ?_
        refine ab_g2 (v := .ref (a0 + 5)) C lf_X2_24 hB0.1 rfl dX2_commonVowels_10 ?_
        refine ab_iload_n C 2 rfl rfl dX2_commonVowels_13 ?_
        obtain ⟨v4, hxv4, hF⟩ := Option.bind_eq_some_iff.mp hF
        refine ab_lald C (X2_r9 hB0) hxv4 dX2_commonVowels_14 ?_
        refine ab_cSR (v := .int (J13_bitCount_95d88 v4)) (st := []) C lm_X2_62 (J13_bitCount_95d88_ok (xl X) (r := (J13_bitCount_95d88 v4)) rfl) rfl rfl (by decide) ⟨Nat.zero_le _, Nat.zero_le _⟩ (Nat.le_of_ble_eq_true rfl) dX2_commonVowels_15 ?_
        refine ab_bipush (v := (12 : Int32)) C dX2_commonVowels_18 (by decide) ?_
        refine ab_icmp_lt C 29 dX2_commonVowels_20 (by decide) (fun c5 => ?_) (fun c5 => ?_)
        · replace hF := (if_pos c5).symm.trans hF
          obtain ⟨v6, qv6⟩ : ∃ y : Int32, y = (v2 + (1 : Int32)) := ⟨_, rfl⟩
          replace hF := aLet_e hF v6 qv6
          refine ab_iinc (lv' := [(2, .int v6), (0, .ref a0), (1, .int v1)]) C 2 rfl dX2_commonVowels_29 (by rw [qv6]; rfl) (by decide) rfl ?_
          refine ab_goto C 4 dX2_commonVowels_32 (by decide) ?_
          refine aV.sub (lv' := [(0, .ref a0), (1, .int v1), (2, .int v6)]) [1, 2, 0] rfl ?_
          exact ih4 v1 v6 res4 hF KX4
        · replace hF := (if_neg c5).symm.trans hF
          refine ab_iload_n C 1 rfl rfl dX2_commonVowels_23 ?_
          refine ab_iconst (v := (1 : Int32)) C dX2_commonVowels_24 (by decide) ?_
          refine ab_iload_n C 2 rfl rfl dX2_commonVowels_25 ?_
          refine ab_ishl C dX2_commonVowels_26 ?_
          refine ab_ior C dX2_commonVowels_27 ?_
          refine ab_topi (fun v7 qv7 => ?_)
          replace hF := aLet_e hF v7 qv7
          refine ab_istore_n (lv' := [(1, .int v7), (0, .ref a0), (2, .int v2)]) C dX2_commonVowels_28 rfl (by decide) rfl ?_
          obtain ⟨v8, qv8⟩ : ∃ y : Int32, y = (v2 + (1 : Int32)) := ⟨_, rfl⟩
          replace hF := aLet_e hF v8 qv8
          refine ab_iinc (lv' := [(2, .int v8), (1, .int v7), (0, .ref a0)]) C 2 rfl dX2_commonVowels_29 (by rw [qv8]; rfl) (by decide) rfl ?_
          refine ab_goto C 4 dX2_commonVowels_32 (by decide) ?_
          refine aV.sub (lv' := [(0, .ref a0), (1, .int v7), (2, .int v8)]) [2, 1, 0] rfl ?_
          exact ih4 v7 v8 res4 hF KX4
  refine aV.sub (lv' := [(0, .ref a0), (1, .int (0 : Int32)), (2, .int (0 : Int32))]) [2, 1, 0] rfl ?_
  obtain ⟨e9, he9, hF⟩ := Option.bind_eq_some_iff.mp hF
  refine L4 aFu (0 : Int32) (0 : Int32) e9 he9 ?_
  refine ab_iload_n C 0 rfl rfl dX2_commonVowels_35 ?_
  obtain rfl := Option.some.inj hF
  exact ab_iret C R0 rfl dX2_commonVowels_36 ⟨rfl, rfl, rfl⟩
theorem dX8_beside_0 : decode cX8_beside 0 = .ok (.lload_n 0, 1) := by decide +kernel
theorem dX8_beside_1 : decode cX8_beside 1 = .ok (.iconst 1, 1) := by decide +kernel
theorem dX8_beside_2 : decode cX8_beside 2 = .ok (.lshl, 1) := by decide +kernel
theorem dX8_beside_3 : decode cX8_beside 3 = .ok (.lload_n 0, 1) := by decide +kernel
theorem dX8_beside_4 : decode cX8_beside 4 = .ok (.iconst 1, 1) := by decide +kernel
theorem dX8_beside_5 : decode cX8_beside 5 = .ok (.lushr, 1) := by decide +kernel
theorem dX8_beside_6 : decode cX8_beside 6 = .ok (.lor, 1) := by decide +kernel
theorem dX8_beside_7 : decode cX8_beside 7 = .ok (.lload_n 0, 1) := by decide +kernel
theorem dX8_beside_8 : decode cX8_beside 8 = .ok (.bipush 8, 2) := by decide +kernel
theorem dX8_beside_10 : decode cX8_beside 10 = .ok (.lshl, 1) := by decide +kernel
theorem dX8_beside_11 : decode cX8_beside 11 = .ok (.lor, 1) := by decide +kernel
theorem dX8_beside_12 : decode cX8_beside 12 = .ok (.lload_n 0, 1) := by decide +kernel
theorem dX8_beside_13 : decode cX8_beside 13 = .ok (.bipush 8, 2) := by decide +kernel
theorem dX8_beside_15 : decode cX8_beside 15 = .ok (.lushr, 1) := by decide +kernel
theorem dX8_beside_16 : decode cX8_beside 16 = .ok (.lor, 1) := by decide +kernel
theorem dX8_beside_17 : decode cX8_beside 17 = .ok (.lload_n 0, 1) := by decide +kernel
theorem dX8_beside_18 : decode cX8_beside 18 = .ok (.ldc2_w 197, 3) := by decide +kernel
theorem dX8_beside_21 : decode cX8_beside 21 = .ok (.lxor, 1) := by decide +kernel
theorem dX8_beside_22 : decode cX8_beside 22 = .ok (.land, 1) := by decide +kernel
theorem dX8_beside_23 : decode cX8_beside 23 = .ok (.lreturn, 1) := by decide +kernel
def X8_beside (y0 : Int64) : Int64 :=
  (((((y0 <<< ((1 : Int32).toInt64 &&& 63)) ||| ((y0.toUInt64 >>> ((1 : Int32).toInt64.toUInt64 &&& Int64.toUInt64 63)).toInt64)) ||| (y0 <<< ((8 : Int32).toInt64 &&& 63))) ||| ((y0.toUInt64 >>> ((8 : Int32).toInt64.toUInt64 &&& Int64.toUInt64 63)).toInt64)) &&& (y0 ^^^ (-1 : Int64)))
set_option maxRecDepth 100000 in
set_option maxHeartbeats 4000000 in
theorem X8_beside_ok (l : Launch) {h : aH} {nx : Nat} {y0 : Int64} {r : Int64} (hF : X8_beside y0 = r) : aOk l 0 0 0 yX8_beside cX8_beside 2 (some .long) [.long y0] h nx (aRd (.long r) h nx) := by
  refine aOk.of (by decide +kernel) (Nat.le_of_ble_eq_true rfl) (fun X G hX C R0 _ => ?_)
  subst hX
  show aV X G 2 0 [(0, .long y0)] [] h nx 0 0
  rw [X8_beside] at hF
  refine ab_lload_n C 0 rfl rfl dX8_beside_0 ?_
  refine ab_iconst (v := (1 : Int32)) C dX8_beside_1 (by decide) ?_
  refine ab_lshl C dX8_beside_2 ?_
  refine ab_lload_n C 0 rfl rfl dX8_beside_3 ?_
  refine ab_iconst (v := (1 : Int32)) C dX8_beside_4 (by decide) ?_
  refine ab_lushr C dX8_beside_5 ?_
  refine ab_lor C dX8_beside_6 ?_
  refine ab_lload_n C 0 rfl rfl dX8_beside_7 ?_
  refine ab_bipush (v := (8 : Int32)) C dX8_beside_8 (by decide) ?_
  refine ab_lshl C dX8_beside_10 ?_
  refine ab_lor C dX8_beside_11 ?_
  refine ab_lload_n C 0 rfl rfl dX8_beside_12 ?_
  refine ab_bipush (v := (8 : Int32)) C dX8_beside_13 (by decide) ?_
  refine ab_lushr C dX8_beside_15 ?_
  refine ab_lor C dX8_beside_16 ?_
  refine ab_lload_n C 0 rfl rfl dX8_beside_17 ?_
  refine ab_ldc2 (v := (-1 : Int64)) C dX8_beside_18 lq_X8_197 ?_
  refine ab_lxor C dX8_beside_21 ?_
  refine ab_land C dX8_beside_22 ?_
  obtain rfl := hF
  exact ab_lret C R0 dX8_beside_23 ⟨rfl, rfl, rfl⟩
theorem dX2_speech_0 : decode cX2_speech 0 = .ok (.aload_n 0, 1) := by decide +kernel
theorem dX2_speech_1 : decode cX2_speech 1 = .ok (.invokevirtual 78, 3) := by decide +kernel
theorem dX2_speech_4 : decode cX2_speech 4 = .ok (.istore 6, 2) := by decide +kernel
theorem dX2_speech_6 : decode cX2_speech 6 = .ok (.iload 6, 2) := by decide +kernel
theorem dX2_speech_8 : decode cX2_speech 8 = .ok (.aload_n 0, 1) := by decide +kernel
theorem dX2_speech_9 : decode cX2_speech 9 = .ok (.lload_n 2, 1) := by decide +kernel
theorem dX2_speech_10 : decode cX2_speech 10 = .ok (.invokevirtual 81, 3) := by decide +kernel
theorem dX2_speech_13 : decode cX2_speech 13 = .ok (.ior, 1) := by decide +kernel
theorem dX2_speech_14 : decode cX2_speech 14 = .ok (.istore 7, 2) := by decide +kernel
theorem dX2_speech_16 : decode cX2_speech 16 = .ok (.iload_n 1, 1) := by decide +kernel
theorem dX2_speech_17 : decode cX2_speech 17 = .ok (.tableswitch 85 1 5 #[35, 38, 49, 60, 70], 35) := by decide +kernel
theorem dX2_speech_52 : decode cX2_speech 52 = .ok (.iload 7, 2) := by decide +kernel
theorem dX2_speech_54 : decode cX2_speech 54 = .ok (.ireturn, 1) := by decide +kernel
theorem dX2_speech_55 : decode cX2_speech 55 = .ok (.iload 7, 2) := by decide +kernel
theorem dX2_speech_57 : decode cX2_speech 57 = .ok (.iload 7, 2) := by decide +kernel
theorem dX2_speech_59 : decode cX2_speech 59 = .ok (.iconst 1, 1) := by decide +kernel
theorem dX2_speech_60 : decode cX2_speech 60 = .ok (.ishl, 1) := by decide +kernel
theorem dX2_speech_61 : decode cX2_speech 61 = .ok (.ior, 1) := by decide +kernel
theorem dX2_speech_62 : decode cX2_speech 62 = .ok (.bipush 31, 2) := by decide +kernel
theorem dX2_speech_64 : decode cX2_speech 64 = .ok (.iand, 1) := by decide +kernel
theorem dX2_speech_65 : decode cX2_speech 65 = .ok (.ireturn, 1) := by decide +kernel
theorem dX2_speech_66 : decode cX2_speech 66 = .ok (.iload 7, 2) := by decide +kernel
theorem dX2_speech_68 : decode cX2_speech 68 = .ok (.aload_n 0, 1) := by decide +kernel
theorem dX2_speech_69 : decode cX2_speech 69 = .ok (.lload_n 2, 1) := by decide +kernel
theorem dX2_speech_70 : decode cX2_speech 70 = .ok (.invokevirtual 84, 3) := by decide +kernel
theorem dX2_speech_73 : decode cX2_speech 73 = .ok (.iconst (-1), 1) := by decide +kernel
theorem dX2_speech_74 : decode cX2_speech 74 = .ok (.ixor, 1) := by decide +kernel
theorem dX2_speech_75 : decode cX2_speech 75 = .ok (.iand, 1) := by decide +kernel
theorem dX2_speech_76 : decode cX2_speech 76 = .ok (.ireturn, 1) := by decide +kernel
theorem dX2_speech_77 : decode cX2_speech 77 = .ok (.iload 6, 2) := by decide +kernel
theorem dX2_speech_79 : decode cX2_speech 79 = .ok (.aload_n 0, 1) := by decide +kernel
theorem dX2_speech_80 : decode cX2_speech 80 = .ok (.lload 4, 2) := by decide +kernel
theorem dX2_speech_82 : decode cX2_speech 82 = .ok (.invokevirtual 81, 3) := by decide +kernel
theorem dX2_speech_85 : decode cX2_speech 85 = .ok (.ior, 1) := by decide +kernel
theorem dX2_speech_86 : decode cX2_speech 86 = .ok (.ireturn, 1) := by decide +kernel
theorem dX2_speech_87 : decode cX2_speech 87 = .ok (.iload 6, 2) := by decide +kernel
theorem dX2_speech_89 : decode cX2_speech 89 = .ok (.aload_n 0, 1) := by decide +kernel
theorem dX2_speech_90 : decode cX2_speech 90 = .ok (.lload 4, 2) := by decide +kernel
theorem dX2_speech_92 : decode cX2_speech 92 = .ok (.lload_n 2, 1) := by decide +kernel
theorem dX2_speech_93 : decode cX2_speech 93 = .ok (.invokestatic 87, 3) := by decide +kernel
theorem dX2_speech_96 : decode cX2_speech 96 = .ok (.lor, 1) := by decide +kernel
theorem dX2_speech_97 : decode cX2_speech 97 = .ok (.invokevirtual 81, 3) := by decide +kernel
theorem dX2_speech_100 : decode cX2_speech 100 = .ok (.ior, 1) := by decide +kernel
theorem dX2_speech_101 : decode cX2_speech 101 = .ok (.ireturn, 1) := by decide +kernel
theorem dX2_speech_102 : decode cX2_speech 102 = .ok (.iload 6, 2) := by decide +kernel
theorem dX2_speech_104 : decode cX2_speech 104 = .ok (.ireturn, 1) := by decide +kernel
def X2_speech (S0 : Rec) (x1 : Int32) (y2 : Int64) (y4 : Int64) : Option (Int32) :=
  (X2_commonVowels S0).bind fun v1 =>
  (X2_vowelsIn S0 y2).bind fun v2 =>
  aLet (v1 ||| v2) fun v3 =>
  if x1 = (1 : Int32) then
    some v3
  else if x1 = (2 : Int32) then
    some ((v3 ||| (v3 <<< ((1 : Int32) &&& 31))) &&& (31 : Int32))
  else if x1 = (3 : Int32) then
    (X2_vowelsOnceIn S0 y2).bind fun v7 =>
    some (v3 &&& (v7 ^^^ (-1 : Int32)))
  else if x1 = (4 : Int32) then
    (X2_vowelsIn S0 y4).bind fun v9 =>
    some (v1 ||| v9)
  else if x1 = (5 : Int32) then
    (X2_vowelsIn S0 (y4 ||| (X8_beside y2))).bind fun v11 =>
    some (v1 ||| v11)
  else 
  some v1
set_option maxRecDepth 100000 in
set_option maxHeartbeats 4000000 in
theorem X2_speech_ok (l : Launch) {h : aH} {nx : Nat} {a0 : Nat} {S0 : Rec} {x1 : Int32} {y2 : Int64} {y4 : Int64} (hB0 : X2_at h a0 S0) {r : Int32} (hF : X2_speech S0 x1 y2 y4 = some r) : aOk l 2 0 0 yX2_speech cX2_speech 8 (some .int) [.ref a0, .int x1, .long y2, .long y4] h nx (aRd (.int r) h nx) := by
  refine aOk.of (by decide +kernel) (Nat.le_of_ble_eq_true rfl) (fun X G hX C R0 _ => ?_)
  subst hX
  show aV X G 8 0 [(0, .ref a0), (1, .int x1), (2, .long y2), (4, .long y4)] [] h nx 0 0
  rw [X2_speech] at hF
  refine ab_aload_n C 0 rfl rfl dX2_speech_0 ?_
  obtain ⟨v1, hxv1, hF⟩ := Option.bind_eq_some_iff.mp hF
  refine ab_cVR (v := .int v1) (st := []) C lm_X2_78 (X2_commonVowels_ok (xl X) hB0 (r := v1) hxv1) [] rfl hB0.1 rfl rfl rfl (by decide) ⟨Nat.zero_le _, Nat.zero_le _⟩ (Nat.le_of_ble_eq_true rfl) dX2_speech_1 ?_
  refine ab_istore (lv' := [(6, .int v1), (0, .ref a0), (1, .int x1), (2, .long y2), (4, .long y4)]) C dX2_speech_4 (by decide) rfl ?_
  refine ab_iload C 0 rfl dX2_speech_6 ?_
  refine ab_aload_n C 1 rfl rfl dX2_speech_8 ?_
  refine ab_lload_n C 3 rfl rfl dX2_speech_9 ?_
  obtain ⟨v2, hxv2, hF⟩ := Option.bind_eq_some_iff.mp hF
  refine ab_cVR (v := .int v2) (st := [.int v1]) C lm_X2_81 (X2_vowelsIn_ok (xl X) hB0 (r := v2) hxv2) [.long y2] rfl hB0.1 rfl rfl rfl (by decide) ⟨Nat.zero_le _, Nat.zero_le _⟩ (Nat.le_of_ble_eq_true rfl) dX2_speech_10 ?_
  refine ab_ior C dX2_speech_13 ?_
  refine ab_topi (fun v3 qv3 => ?_)
  replace hF := aLet_e hF v3 qv3
  refine ab_istore (lv' := [(7, .int v3), (6, .int v1), (0, .ref a0), (1, .int x1), (2, .long y2), (4, .long y4)]) C dX2_speech_14 (by decide) rfl ?_
  refine ab_iload_n C 3 rfl rfl dX2_speech_16 ?_
  rcases Classical.em (x1 = (1 : Int32)) with c4 | c4
  · replace hF := (if_pos c4).symm.trans hF
    refine ab_tableIn (off := 35) C 52 dX2_speech_17 (by rw [c4]; decide) (by rw [c4]; decide) (by rw [c4]; rfl) (by decide) ?_
    refine ab_iload C 0 rfl dX2_speech_52 ?_
    obtain rfl := Option.some.inj hF
    exact ab_iret C R0 rfl dX2_speech_54 ⟨rfl, rfl, rfl⟩
  replace hF := (if_neg c4).symm.trans hF
  rcases Classical.em (x1 = (2 : Int32)) with c5 | c5
  · replace hF := (if_pos c5).symm.trans hF
    refine ab_tableIn (off := 38) C 55 dX2_speech_17 (by rw [c5]; decide) (by rw [c5]; decide) (by rw [c5]; rfl) (by decide) ?_
    refine ab_iload C 0 rfl dX2_speech_55 ?_
    refine ab_iload C 0 rfl dX2_speech_57 ?_
    refine ab_iconst (v := (1 : Int32)) C dX2_speech_59 (by decide) ?_
    refine ab_ishl C dX2_speech_60 ?_
    refine ab_ior C dX2_speech_61 ?_
    refine ab_bipush (v := (31 : Int32)) C dX2_speech_62 (by decide) ?_
    refine ab_iand C dX2_speech_64 ?_
    obtain rfl := Option.some.inj hF
    exact ab_iret C R0 rfl dX2_speech_65 ⟨rfl, rfl, rfl⟩
  replace hF := (if_neg c5).symm.trans hF
  rcases Classical.em (x1 = (3 : Int32)) with c6 | c6
  · replace hF := (if_pos c6).symm.trans hF
    refine ab_tableIn (off := 49) C 66 dX2_speech_17 (by rw [c6]; decide) (by rw [c6]; decide) (by rw [c6]; rfl) (by decide) ?_
    refine ab_iload C 0 rfl dX2_speech_66 ?_
    refine ab_aload_n C 2 rfl rfl dX2_speech_68 ?_
    refine ab_lload_n C 4 rfl rfl dX2_speech_69 ?_
    obtain ⟨v7, hxv7, hF⟩ := Option.bind_eq_some_iff.mp hF
    refine ab_cVR (v := .int v7) (st := [.int v3]) C lm_X2_84 (X2_vowelsOnceIn_ok (xl X) hB0 (r := v7) hxv7) [.long y2] rfl hB0.1 rfl rfl rfl (by decide) ⟨Nat.zero_le _, Nat.zero_le _⟩ (Nat.le_of_ble_eq_true rfl) dX2_speech_70 ?_
    refine ab_iconst (v := (-1 : Int32)) C dX2_speech_73 (by decide) ?_
    refine ab_ixor C dX2_speech_74 ?_
    refine ab_iand C dX2_speech_75 ?_
    obtain rfl := Option.some.inj hF
    exact ab_iret C R0 rfl dX2_speech_76 ⟨rfl, rfl, rfl⟩
  replace hF := (if_neg c6).symm.trans hF
  rcases Classical.em (x1 = (4 : Int32)) with c8 | c8
  · replace hF := (if_pos c8).symm.trans hF
    refine ab_tableIn (off := 60) C 77 dX2_speech_17 (by rw [c8]; decide) (by rw [c8]; decide) (by rw [c8]; rfl) (by decide) ?_
    refine ab_iload C 1 rfl dX2_speech_77 ?_
    refine ab_aload_n C 2 rfl rfl dX2_speech_79 ?_
    refine ab_lload C 5 rfl dX2_speech_80 ?_
    obtain ⟨v9, hxv9, hF⟩ := Option.bind_eq_some_iff.mp hF
    refine ab_cVR (v := .int v9) (st := [.int v1]) C lm_X2_81 (X2_vowelsIn_ok (xl X) hB0 (r := v9) hxv9) [.long y4] rfl hB0.1 rfl rfl rfl (by decide) ⟨Nat.zero_le _, Nat.zero_le _⟩ (Nat.le_of_ble_eq_true rfl) dX2_speech_82 ?_
    refine ab_ior C dX2_speech_85 ?_
    obtain rfl := Option.some.inj hF
    exact ab_iret C R0 rfl dX2_speech_86 ⟨rfl, rfl, rfl⟩
  replace hF := (if_neg c8).symm.trans hF
  rcases Classical.em (x1 = (5 : Int32)) with c10 | c10
  · replace hF := (if_pos c10).symm.trans hF
    refine ab_tableIn (off := 70) C 87 dX2_speech_17 (by rw [c10]; decide) (by rw [c10]; decide) (by rw [c10]; rfl) (by decide) ?_
    refine ab_iload C 1 rfl dX2_speech_87 ?_
    refine ab_aload_n C 2 rfl rfl dX2_speech_89 ?_
    refine ab_lload C 5 rfl dX2_speech_90 ?_
    refine ab_lload_n C 4 rfl rfl dX2_speech_92 ?_
    refine ab_cSR (v := .long (X8_beside y2)) (st := [.long y4, .ref a0, .int v1]) C lm_X2_87 (X8_beside_ok (xl X) (r := (X8_beside y2)) rfl) rfl rfl (by decide) ⟨Nat.zero_le _, Nat.zero_le _⟩ (Nat.le_of_ble_eq_true rfl) dX2_speech_93 ?_
    refine ab_lor C dX2_speech_96 ?_
    obtain ⟨v11, hxv11, hF⟩ := Option.bind_eq_some_iff.mp hF
    refine ab_cVR (v := .int v11) (st := [.int v1]) C lm_X2_81 (X2_vowelsIn_ok (xl X) hB0 (r := v11) hxv11) [.long (y4 ||| (X8_beside y2))] rfl hB0.1 rfl rfl rfl (by decide) ⟨Nat.zero_le _, Nat.zero_le _⟩ (Nat.le_of_ble_eq_true rfl) dX2_speech_97 ?_
    refine ab_ior C dX2_speech_100 ?_
    obtain rfl := Option.some.inj hF
    exact ab_iret C R0 rfl dX2_speech_101 ⟨rfl, rfl, rfl⟩
  replace hF := (if_neg c10).symm.trans hF
  refine ab_tableOut C 102 dX2_speech_17 (by have zc4 := lv_neT (a := 1) c4 (by decide); have zc5 := lv_neT (a := 2) c5 (by decide); have zc6 := lv_neT (a := 3) c6 (by decide); have zc8 := lv_neT (a := 4) c8 (by decide); have zc10 := lv_neT (a := 5) c10 (by decide); omega) (by decide) ?_
  refine ab_iload C 1 rfl dX2_speech_102 ?_
  obtain rfl := Option.some.inj hF
  exact ab_iret C R0 rfl dX2_speech_104 ⟨rfl, rfl, rfl⟩
theorem dX2_speechWith_0 : decode cX2_speechWith 0 = .ok (.aload_n 0, 1) := by decide +kernel
theorem dX2_speechWith_1 : decode cX2_speechWith 1 = .ok (.iload_n 1, 1) := by decide +kernel
theorem dX2_speechWith_2 : decode cX2_speechWith 2 = .ok (.invokevirtual 95, 3) := by decide +kernel
theorem dX2_speechWith_5 : decode cX2_speechWith 5 = .ok (.ifCond .eq 37, 3) := by decide +kernel
theorem dX2_speechWith_8 : decode cX2_speechWith 8 = .ok (.aload_n 0, 1) := by decide +kernel
theorem dX2_speechWith_9 : decode cX2_speechWith 9 = .ok (.aload_n 0, 1) := by decide +kernel
theorem dX2_speechWith_10 : decode cX2_speechWith 10 = .ok (.getfield 9, 3) := by decide +kernel
theorem dX2_speechWith_13 : decode cX2_speechWith 13 = .ok (.iload_n 1, 1) := by decide +kernel
theorem dX2_speechWith_14 : decode cX2_speechWith 14 = .ok (.iaload, 1) := by decide +kernel
theorem dX2_speechWith_15 : decode cX2_speechWith 15 = .ok (.aload_n 0, 1) := by decide +kernel
theorem dX2_speechWith_16 : decode cX2_speechWith 16 = .ok (.getfield 28, 3) := by decide +kernel
theorem dX2_speechWith_19 : decode cX2_speechWith 19 = .ok (.iload_n 1, 1) := by decide +kernel
theorem dX2_speechWith_20 : decode cX2_speechWith 20 = .ok (.laload, 1) := by decide +kernel
theorem dX2_speechWith_21 : decode cX2_speechWith 21 = .ok (.lload_n 2, 1) := by decide +kernel
theorem dX2_speechWith_22 : decode cX2_speechWith 22 = .ok (.lor, 1) := by decide +kernel
theorem dX2_speechWith_23 : decode cX2_speechWith 23 = .ok (.aload_n 0, 1) := by decide +kernel
theorem dX2_speechWith_24 : decode cX2_speechWith 24 = .ok (.getfield 28, 3) := by decide +kernel
theorem dX2_speechWith_27 : decode cX2_speechWith 27 = .ok (.bipush 6, 2) := by decide +kernel
theorem dX2_speechWith_29 : decode cX2_speechWith 29 = .ok (.laload, 1) := by decide +kernel
theorem dX2_speechWith_30 : decode cX2_speechWith 30 = .ok (.lload_n 2, 1) := by decide +kernel
theorem dX2_speechWith_31 : decode cX2_speechWith 31 = .ok (.ldc2_w 60, 3) := by decide +kernel
theorem dX2_speechWith_34 : decode cX2_speechWith 34 = .ok (.lxor, 1) := by decide +kernel
theorem dX2_speechWith_35 : decode cX2_speechWith 35 = .ok (.land, 1) := by decide +kernel
theorem dX2_speechWith_36 : decode cX2_speechWith 36 = .ok (.invokevirtual 99, 3) := by decide +kernel
theorem dX2_speechWith_39 : decode cX2_speechWith 39 = .ok (.goto 4, 3) := by decide +kernel
theorem dX2_speechWith_42 : decode cX2_speechWith 42 = .ok (.iconst 0, 1) := by decide +kernel
theorem dX2_speechWith_43 : decode cX2_speechWith 43 = .ok (.ireturn, 1) := by decide +kernel
def X2_speechWith (S0 : Rec) (x1 : Int32) (y2 : Int64) : Option (Int32) :=
  if (X2_hasHolder S0 x1) = 0 then
    some (0 : Int32)
  else
    (rdI (S0.2.1 1) 6 x1).bind fun v2 =>
    (rdL (S0.2.2 10) 7 x1).bind fun v3 =>
    (rdL (S0.2.2 10) 7 (6 : Int32)).bind fun v4 =>
    (X2_speech S0 v2 (v3 ||| y2) (v4 &&& (y2 ^^^ (-1 : Int64)))).bind fun v5 =>
    some v5
set_option maxRecDepth 100000 in
set_option maxHeartbeats 4000000 in
theorem X2_speechWith_ok (l : Launch) {h : aH} {nx : Nat} {a0 : Nat} {S0 : Rec} {x1 : Int32} {y2 : Int64} (hB0 : X2_at h a0 S0) {r : Int32} (hF : X2_speechWith S0 x1 y2 = some r) : aOk l 3 0 0 yX2_speechWith cX2_speechWith 4 (some .int) [.ref a0, .int x1, .long y2] h nx (aRd (.int r) h nx) := by
  refine aOk.of (by decide +kernel) (Nat.le_of_ble_eq_true rfl) (fun X G hX C R0 _ => ?_)
  subst hX
  show aV X G 4 0 [(0, .ref a0), (1, .int x1), (2, .long y2)] [] h nx 0 0
  rw [X2_speechWith] at hF
  refine ab_aload_n C 0 rfl rfl dX2_speechWith_0 ?_
  refine ab_iload_n C 1 rfl rfl dX2_speechWith_1 ?_
  refine ab_cVR (v := .int (X2_hasHolder S0 x1)) (st := []) C lm_X2_95 (X2_hasHolder_ok (xl X) hB0 (r := (X2_hasHolder S0 x1)) rfl) [.int x1] rfl hB0.1 rfl rfl rfl (by decide) ⟨Nat.zero_le _, Nat.zero_le _⟩ (Nat.le_of_ble_eq_true rfl) dX2_speechWith_2 ?_
  refine ab_if_eq C 42 dX2_speechWith_5 (by decide) (fun c1 => ?_) (fun c1 => ?_)
  · replace hF := (if_pos c1).symm.trans hF
    refine ab_iconst (v := (0 : Int32)) C dX2_speechWith_42 (by decide) ?_
    obtain rfl := Option.some.inj hF
    exact ab_iret C R0 rfl dX2_speechWith_43 ⟨rfl, rfl, rfl⟩
  · replace hF := (if_neg c1).symm.trans hF
    refine ab_aload_n C 0 rfl rfl dX2_speechWith_8 ?_
    refine ab_aload_n C 0 rfl rfl dX2_speechWith_9 ?_
    refine ab_g2 (v := .ref (a0 + 1)) C lf_X2_9 hB0.1 rfl dX2_speechWith_10 ?_
    refine ab_iload_n C 1 rfl rfl dX2_speechWith_13 ?_
    obtain ⟨v2, hxv2, hF⟩ := Option.bind_eq_some_iff.mp hF
    refine ab_iald C (X2_r1 hB0) hxv2 dX2_speechWith_14 ?_
    refine ab_aload_n C 0 rfl rfl dX2_speechWith_15 ?_
    refine ab_g2 (v := .ref (a0 + 6)) C lf_X2_28 hB0.1 rfl dX2_speechWith_16 ?_
    refine ab_iload_n C 1 rfl rfl dX2_speechWith_19 ?_
    obtain ⟨v3, hxv3, hF⟩ := Option.bind_eq_some_iff.mp hF
    refine ab_lald C (X2_r10 hB0) hxv3 dX2_speechWith_20 ?_
    refine ab_lload_n C 2 rfl rfl dX2_speechWith_21 ?_
    refine ab_lor C dX2_speechWith_22 ?_
    refine ab_aload_n C 0 rfl rfl dX2_speechWith_23 ?_
    refine ab_g2 (v := .ref (a0 + 6)) C lf_X2_28 hB0.1 rfl dX2_speechWith_24 ?_
    refine ab_bipush (v := (6 : Int32)) C dX2_speechWith_27 (by decide) ?_
    obtain ⟨v4, hxv4, hF⟩ := Option.bind_eq_some_iff.mp hF
    refine ab_lald C (X2_r10 hB0) hxv4 dX2_speechWith_29 ?_
    refine ab_lload_n C 2 rfl rfl dX2_speechWith_30 ?_
    refine ab_ldc2 (v := (-1 : Int64)) C dX2_speechWith_31 lq_X2_60 ?_
    refine ab_lxor C dX2_speechWith_34 ?_
    refine ab_land C dX2_speechWith_35 ?_
    obtain ⟨v5, hxv5, hF⟩ := Option.bind_eq_some_iff.mp hF
    refine ab_cVR (v := .int v5) (st := []) C lm_X2_99 (X2_speech_ok (xl X) hB0 (r := v5) hxv5) [.int v2, .long (v3 ||| y2), .long (v4 &&& (y2 ^^^ (-1 : Int64)))] rfl hB0.1 rfl rfl rfl (by decide) ⟨Nat.zero_le _, Nat.zero_le _⟩ (Nat.le_of_ble_eq_true rfl) dX2_speechWith_36 ?_
    refine ab_goto C 43 dX2_speechWith_39 (by decide) ?_
    obtain rfl := Option.some.inj hF
    exact ab_iret C R0 rfl dX2_speechWith_43 ⟨rfl, rfl, rfl⟩
theorem dX2_speechOf_0 : decode cX2_speechOf 0 = .ok (.aload_n 0, 1) := by decide +kernel
theorem dX2_speechOf_1 : decode cX2_speechOf 1 = .ok (.iload_n 1, 1) := by decide +kernel
theorem dX2_speechOf_2 : decode cX2_speechOf 2 = .ok (.lconst 0, 1) := by decide +kernel
theorem dX2_speechOf_3 : decode cX2_speechOf 3 = .ok (.invokevirtual 91, 3) := by decide +kernel
theorem dX2_speechOf_6 : decode cX2_speechOf 6 = .ok (.ireturn, 1) := by decide +kernel
def X2_speechOf (S0 : Rec) (x1 : Int32) : Option (Int32) :=
  (X2_speechWith S0 x1 (0 : Int64)).bind fun v1 =>
  some v1
set_option maxRecDepth 100000 in
set_option maxHeartbeats 4000000 in
theorem X2_speechOf_ok (l : Launch) {h : aH} {nx : Nat} {a0 : Nat} {S0 : Rec} {x1 : Int32} (hB0 : X2_at h a0 S0) {r : Int32} (hF : X2_speechOf S0 x1 = some r) : aOk l 4 0 0 yX2_speechOf cX2_speechOf 2 (some .int) [.ref a0, .int x1] h nx (aRd (.int r) h nx) := by
  refine aOk.of (by decide +kernel) (Nat.le_of_ble_eq_true rfl) (fun X G hX C R0 _ => ?_)
  subst hX
  show aV X G 2 0 [(0, .ref a0), (1, .int x1)] [] h nx 0 0
  rw [X2_speechOf] at hF
  refine ab_aload_n C 0 rfl rfl dX2_speechOf_0 ?_
  refine ab_iload_n C 1 rfl rfl dX2_speechOf_1 ?_
  refine ab_lconst (v := (0 : Int64)) C dX2_speechOf_2 (by decide) ?_
  obtain ⟨v1, hxv1, hF⟩ := Option.bind_eq_some_iff.mp hF
  refine ab_cVR (v := .int v1) (st := []) C lm_X2_91 (X2_speechWith_ok (xl X) hB0 (r := v1) hxv1) [.int x1, .long (0 : Int64)] rfl hB0.1 rfl rfl rfl (by decide) ⟨Nat.zero_le _, Nat.zero_le _⟩ (Nat.le_of_ble_eq_true rfl) dX2_speechOf_3 ?_
  obtain rfl := Option.some.inj hF
  exact ab_iret C R0 rfl dX2_speechOf_6 ⟨rfl, rfl, rfl⟩
theorem dX2_speechBy_0 : decode cX2_speechBy 0 = .ok (.aload_n 0, 1) := by decide +kernel
theorem dX2_speechBy_1 : decode cX2_speechBy 1 = .ok (.iload_n 1, 1) := by decide +kernel
theorem dX2_speechBy_2 : decode cX2_speechBy 2 = .ok (.invokevirtual 95, 3) := by decide +kernel
theorem dX2_speechBy_5 : decode cX2_speechBy 5 = .ok (.ifCond .eq 37, 3) := by decide +kernel
theorem dX2_speechBy_8 : decode cX2_speechBy 8 = .ok (.aload_n 0, 1) := by decide +kernel
theorem dX2_speechBy_9 : decode cX2_speechBy 9 = .ok (.aload_n 0, 1) := by decide +kernel
theorem dX2_speechBy_10 : decode cX2_speechBy 10 = .ok (.getfield 9, 3) := by decide +kernel
theorem dX2_speechBy_13 : decode cX2_speechBy 13 = .ok (.iload_n 1, 1) := by decide +kernel
theorem dX2_speechBy_14 : decode cX2_speechBy 14 = .ok (.iaload, 1) := by decide +kernel
theorem dX2_speechBy_15 : decode cX2_speechBy 15 = .ok (.lload_n 2, 1) := by decide +kernel
theorem dX2_speechBy_16 : decode cX2_speechBy 16 = .ok (.aload_n 0, 1) := by decide +kernel
theorem dX2_speechBy_17 : decode cX2_speechBy 17 = .ok (.getfield 28, 3) := by decide +kernel
theorem dX2_speechBy_20 : decode cX2_speechBy 20 = .ok (.bipush 6, 2) := by decide +kernel
theorem dX2_speechBy_22 : decode cX2_speechBy 22 = .ok (.laload, 1) := by decide +kernel
theorem dX2_speechBy_23 : decode cX2_speechBy 23 = .ok (.aload_n 0, 1) := by decide +kernel
theorem dX2_speechBy_24 : decode cX2_speechBy 24 = .ok (.getfield 28, 3) := by decide +kernel
theorem dX2_speechBy_27 : decode cX2_speechBy 27 = .ok (.iload_n 1, 1) := by decide +kernel
theorem dX2_speechBy_28 : decode cX2_speechBy 28 = .ok (.laload, 1) := by decide +kernel
theorem dX2_speechBy_29 : decode cX2_speechBy 29 = .ok (.lor, 1) := by decide +kernel
theorem dX2_speechBy_30 : decode cX2_speechBy 30 = .ok (.lload_n 2, 1) := by decide +kernel
theorem dX2_speechBy_31 : decode cX2_speechBy 31 = .ok (.ldc2_w 60, 3) := by decide +kernel
theorem dX2_speechBy_34 : decode cX2_speechBy 34 = .ok (.lxor, 1) := by decide +kernel
theorem dX2_speechBy_35 : decode cX2_speechBy 35 = .ok (.land, 1) := by decide +kernel
theorem dX2_speechBy_36 : decode cX2_speechBy 36 = .ok (.invokevirtual 99, 3) := by decide +kernel
theorem dX2_speechBy_39 : decode cX2_speechBy 39 = .ok (.goto 4, 3) := by decide +kernel
theorem dX2_speechBy_42 : decode cX2_speechBy 42 = .ok (.iconst 0, 1) := by decide +kernel
theorem dX2_speechBy_43 : decode cX2_speechBy 43 = .ok (.ireturn, 1) := by decide +kernel
def X2_speechBy (S0 : Rec) (x1 : Int32) (y2 : Int64) : Option (Int32) :=
  if (X2_hasHolder S0 x1) = 0 then
    some (0 : Int32)
  else
    (rdI (S0.2.1 1) 6 x1).bind fun v2 =>
    (rdL (S0.2.2 10) 7 (6 : Int32)).bind fun v3 =>
    (rdL (S0.2.2 10) 7 x1).bind fun v4 =>
    (X2_speech S0 v2 y2 ((v3 ||| v4) &&& (y2 ^^^ (-1 : Int64)))).bind fun v5 =>
    some v5
set_option maxRecDepth 100000 in
set_option maxHeartbeats 4000000 in
theorem X2_speechBy_ok (l : Launch) {h : aH} {nx : Nat} {a0 : Nat} {S0 : Rec} {x1 : Int32} {y2 : Int64} (hB0 : X2_at h a0 S0) {r : Int32} (hF : X2_speechBy S0 x1 y2 = some r) : aOk l 3 0 0 yX2_speechBy cX2_speechBy 4 (some .int) [.ref a0, .int x1, .long y2] h nx (aRd (.int r) h nx) := by
  refine aOk.of (by decide +kernel) (Nat.le_of_ble_eq_true rfl) (fun X G hX C R0 _ => ?_)
  subst hX
  show aV X G 4 0 [(0, .ref a0), (1, .int x1), (2, .long y2)] [] h nx 0 0
  rw [X2_speechBy] at hF
  refine ab_aload_n C 0 rfl rfl dX2_speechBy_0 ?_
  refine ab_iload_n C 1 rfl rfl dX2_speechBy_1 ?_
  refine ab_cVR (v := .int (X2_hasHolder S0 x1)) (st := []) C lm_X2_95 (X2_hasHolder_ok (xl X) hB0 (r := (X2_hasHolder S0 x1)) rfl) [.int x1] rfl hB0.1 rfl rfl rfl (by decide) ⟨Nat.zero_le _, Nat.zero_le _⟩ (Nat.le_of_ble_eq_true rfl) dX2_speechBy_2 ?_
  refine ab_if_eq C 42 dX2_speechBy_5 (by decide) (fun c1 => ?_) (fun c1 => ?_)
  · replace hF := (if_pos c1).symm.trans hF
    refine ab_iconst (v := (0 : Int32)) C dX2_speechBy_42 (by decide) ?_
    obtain rfl := Option.some.inj hF
    exact ab_iret C R0 rfl dX2_speechBy_43 ⟨rfl, rfl, rfl⟩
  · replace hF := (if_neg c1).symm.trans hF
    refine ab_aload_n C 0 rfl rfl dX2_speechBy_8 ?_
    refine ab_aload_n C 0 rfl rfl dX2_speechBy_9 ?_
    refine ab_g2 (v := .ref (a0 + 1)) C lf_X2_9 hB0.1 rfl dX2_speechBy_10 ?_
    refine ab_iload_n C 1 rfl rfl dX2_speechBy_13 ?_
    obtain ⟨v2, hxv2, hF⟩ := Option.bind_eq_some_iff.mp hF
    refine ab_iald C (X2_r1 hB0) hxv2 dX2_speechBy_14 ?_
    refine ab_lload_n C 2 rfl rfl dX2_speechBy_15 ?_
    refine ab_aload_n C 0 rfl rfl dX2_speechBy_16 ?_
    refine ab_g2 (v := .ref (a0 + 6)) C lf_X2_28 hB0.1 rfl dX2_speechBy_17 ?_
    refine ab_bipush (v := (6 : Int32)) C dX2_speechBy_20 (by decide) ?_
    obtain ⟨v3, hxv3, hF⟩ := Option.bind_eq_some_iff.mp hF
    refine ab_lald C (X2_r10 hB0) hxv3 dX2_speechBy_22 ?_
    refine ab_aload_n C 0 rfl rfl dX2_speechBy_23 ?_
    refine ab_g2 (v := .ref (a0 + 6)) C lf_X2_28 hB0.1 rfl dX2_speechBy_24 ?_
    refine ab_iload_n C 1 rfl rfl dX2_speechBy_27 ?_
    obtain ⟨v4, hxv4, hF⟩ := Option.bind_eq_some_iff.mp hF
    refine ab_lald C (X2_r10 hB0) hxv4 dX2_speechBy_28 ?_
    refine ab_lor C dX2_speechBy_29 ?_
    refine ab_lload_n C 2 rfl rfl dX2_speechBy_30 ?_
    refine ab_ldc2 (v := (-1 : Int64)) C dX2_speechBy_31 lq_X2_60 ?_
    refine ab_lxor C dX2_speechBy_34 ?_
    refine ab_land C dX2_speechBy_35 ?_
    obtain ⟨v5, hxv5, hF⟩ := Option.bind_eq_some_iff.mp hF
    refine ab_cVR (v := .int v5) (st := []) C lm_X2_99 (X2_speech_ok (xl X) hB0 (r := v5) hxv5) [.int v2, .long y2, .long ((v3 ||| v4) &&& (y2 ^^^ (-1 : Int64)))] rfl hB0.1 rfl rfl rfl (by decide) ⟨Nat.zero_le _, Nat.zero_le _⟩ (Nat.le_of_ble_eq_true rfl) dX2_speechBy_36 ?_
    refine ab_goto C 43 dX2_speechBy_39 (by decide) ?_
    obtain rfl := Option.some.inj hF
    exact ab_iret C R0 rfl dX2_speechBy_43 ⟨rfl, rfl, rfl⟩
theorem dJ6_bitCount_0f7a4_0 : decode cJ6_bitCount_0f7a4 0 = .ok (.iload_n 0, 1) := by decide +kernel
theorem dJ6_bitCount_0f7a4_1 : decode cJ6_bitCount_0f7a4 1 = .ok (.iload_n 0, 1) := by decide +kernel
theorem dJ6_bitCount_0f7a4_2 : decode cJ6_bitCount_0f7a4 2 = .ok (.iconst 1, 1) := by decide +kernel
theorem dJ6_bitCount_0f7a4_3 : decode cJ6_bitCount_0f7a4 3 = .ok (.iushr, 1) := by decide +kernel
theorem dJ6_bitCount_0f7a4_4 : decode cJ6_bitCount_0f7a4 4 = .ok (.ldc_w 265, 3) := by decide +kernel
theorem dJ6_bitCount_0f7a4_7 : decode cJ6_bitCount_0f7a4 7 = .ok (.iand, 1) := by decide +kernel
theorem dJ6_bitCount_0f7a4_8 : decode cJ6_bitCount_0f7a4 8 = .ok (.isub, 1) := by decide +kernel
theorem dJ6_bitCount_0f7a4_9 : decode cJ6_bitCount_0f7a4 9 = .ok (.istore_n 0, 1) := by decide +kernel
theorem dJ6_bitCount_0f7a4_10 : decode cJ6_bitCount_0f7a4 10 = .ok (.iload_n 0, 1) := by decide +kernel
theorem dJ6_bitCount_0f7a4_11 : decode cJ6_bitCount_0f7a4 11 = .ok (.ldc_w 266, 3) := by decide +kernel
theorem dJ6_bitCount_0f7a4_14 : decode cJ6_bitCount_0f7a4 14 = .ok (.iand, 1) := by decide +kernel
theorem dJ6_bitCount_0f7a4_15 : decode cJ6_bitCount_0f7a4 15 = .ok (.iload_n 0, 1) := by decide +kernel
theorem dJ6_bitCount_0f7a4_16 : decode cJ6_bitCount_0f7a4 16 = .ok (.iconst 2, 1) := by decide +kernel
theorem dJ6_bitCount_0f7a4_17 : decode cJ6_bitCount_0f7a4 17 = .ok (.iushr, 1) := by decide +kernel
theorem dJ6_bitCount_0f7a4_18 : decode cJ6_bitCount_0f7a4 18 = .ok (.ldc_w 266, 3) := by decide +kernel
theorem dJ6_bitCount_0f7a4_21 : decode cJ6_bitCount_0f7a4 21 = .ok (.iand, 1) := by decide +kernel
theorem dJ6_bitCount_0f7a4_22 : decode cJ6_bitCount_0f7a4 22 = .ok (.iadd, 1) := by decide +kernel
theorem dJ6_bitCount_0f7a4_23 : decode cJ6_bitCount_0f7a4 23 = .ok (.istore_n 0, 1) := by decide +kernel
theorem dJ6_bitCount_0f7a4_24 : decode cJ6_bitCount_0f7a4 24 = .ok (.iload_n 0, 1) := by decide +kernel
theorem dJ6_bitCount_0f7a4_25 : decode cJ6_bitCount_0f7a4 25 = .ok (.iload_n 0, 1) := by decide +kernel
theorem dJ6_bitCount_0f7a4_26 : decode cJ6_bitCount_0f7a4 26 = .ok (.iconst 4, 1) := by decide +kernel
theorem dJ6_bitCount_0f7a4_27 : decode cJ6_bitCount_0f7a4 27 = .ok (.iushr, 1) := by decide +kernel
theorem dJ6_bitCount_0f7a4_28 : decode cJ6_bitCount_0f7a4 28 = .ok (.iadd, 1) := by decide +kernel
theorem dJ6_bitCount_0f7a4_29 : decode cJ6_bitCount_0f7a4 29 = .ok (.ldc_w 267, 3) := by decide +kernel
theorem dJ6_bitCount_0f7a4_32 : decode cJ6_bitCount_0f7a4 32 = .ok (.iand, 1) := by decide +kernel
theorem dJ6_bitCount_0f7a4_33 : decode cJ6_bitCount_0f7a4 33 = .ok (.istore_n 0, 1) := by decide +kernel
theorem dJ6_bitCount_0f7a4_34 : decode cJ6_bitCount_0f7a4 34 = .ok (.iload_n 0, 1) := by decide +kernel
theorem dJ6_bitCount_0f7a4_35 : decode cJ6_bitCount_0f7a4 35 = .ok (.iload_n 0, 1) := by decide +kernel
theorem dJ6_bitCount_0f7a4_36 : decode cJ6_bitCount_0f7a4 36 = .ok (.bipush 8, 2) := by decide +kernel
theorem dJ6_bitCount_0f7a4_38 : decode cJ6_bitCount_0f7a4 38 = .ok (.iushr, 1) := by decide +kernel
theorem dJ6_bitCount_0f7a4_39 : decode cJ6_bitCount_0f7a4 39 = .ok (.iadd, 1) := by decide +kernel
theorem dJ6_bitCount_0f7a4_40 : decode cJ6_bitCount_0f7a4 40 = .ok (.istore_n 0, 1) := by decide +kernel
theorem dJ6_bitCount_0f7a4_41 : decode cJ6_bitCount_0f7a4 41 = .ok (.iload_n 0, 1) := by decide +kernel
theorem dJ6_bitCount_0f7a4_42 : decode cJ6_bitCount_0f7a4 42 = .ok (.iload_n 0, 1) := by decide +kernel
theorem dJ6_bitCount_0f7a4_43 : decode cJ6_bitCount_0f7a4 43 = .ok (.bipush 16, 2) := by decide +kernel
theorem dJ6_bitCount_0f7a4_45 : decode cJ6_bitCount_0f7a4 45 = .ok (.iushr, 1) := by decide +kernel
theorem dJ6_bitCount_0f7a4_46 : decode cJ6_bitCount_0f7a4 46 = .ok (.iadd, 1) := by decide +kernel
theorem dJ6_bitCount_0f7a4_47 : decode cJ6_bitCount_0f7a4 47 = .ok (.istore_n 0, 1) := by decide +kernel
theorem dJ6_bitCount_0f7a4_48 : decode cJ6_bitCount_0f7a4 48 = .ok (.iload_n 0, 1) := by decide +kernel
theorem dJ6_bitCount_0f7a4_49 : decode cJ6_bitCount_0f7a4 49 = .ok (.bipush 63, 2) := by decide +kernel
theorem dJ6_bitCount_0f7a4_51 : decode cJ6_bitCount_0f7a4 51 = .ok (.iand, 1) := by decide +kernel
theorem dJ6_bitCount_0f7a4_52 : decode cJ6_bitCount_0f7a4 52 = .ok (.ireturn, 1) := by decide +kernel
def J6_bitCount_0f7a4 (x0 : Int32) : Int32 :=
  aLet (x0 - (((x0.toUInt32 >>> ((1 : Int32).toUInt32 &&& Int32.toUInt32 31)).toInt32) &&& (1431655765 : Int32))) fun v1 =>
  aLet ((v1 &&& (858993459 : Int32)) + (((v1.toUInt32 >>> ((2 : Int32).toUInt32 &&& Int32.toUInt32 31)).toInt32) &&& (858993459 : Int32))) fun v2 =>
  aLet ((v2 + ((v2.toUInt32 >>> ((4 : Int32).toUInt32 &&& Int32.toUInt32 31)).toInt32)) &&& (252645135 : Int32)) fun v3 =>
  aLet (v3 + ((v3.toUInt32 >>> ((8 : Int32).toUInt32 &&& Int32.toUInt32 31)).toInt32)) fun v4 =>
  aLet (v4 + ((v4.toUInt32 >>> ((16 : Int32).toUInt32 &&& Int32.toUInt32 31)).toInt32)) fun v5 =>
  (v5 &&& (63 : Int32))
set_option maxRecDepth 100000 in
set_option maxHeartbeats 4000000 in
theorem J6_bitCount_0f7a4_ok (l : Launch) {h : aH} {nx : Nat} {x0 : Int32} {r : Int32} (hF : J6_bitCount_0f7a4 x0 = r) : aOk l 0 0 0 yJ6_bitCount_0f7a4 cJ6_bitCount_0f7a4 1 (some .int) [.int x0] h nx (aRd (.int r) h nx) := by
  refine aOk.of (by decide +kernel) (Nat.le_of_ble_eq_true rfl) (fun X G hX C R0 _ => ?_)
  subst hX
  show aV X G 1 0 [(0, .int x0)] [] h nx 0 0
  rw [J6_bitCount_0f7a4] at hF
  refine ab_iload_n C 0 rfl rfl dJ6_bitCount_0f7a4_0 ?_
  refine ab_iload_n C 0 rfl rfl dJ6_bitCount_0f7a4_1 ?_
  refine ab_iconst (v := (1 : Int32)) C dJ6_bitCount_0f7a4_2 (by decide) ?_
  refine ab_iushr C dJ6_bitCount_0f7a4_3 ?_
  refine ab_ldcw (v := (1431655765 : Int32)) C dJ6_bitCount_0f7a4_4 lq_J6_265 ?_
  refine ab_iand C dJ6_bitCount_0f7a4_7 ?_
  refine ab_isub C dJ6_bitCount_0f7a4_8 ?_
  refine ab_topi (fun v1 qv1 => ?_)
  replace hF := aLet_e hF v1 qv1
  refine ab_istore_n (lv' := [(0, .int v1)]) C dJ6_bitCount_0f7a4_9 rfl (by decide) rfl ?_
  refine ab_iload_n C 0 rfl rfl dJ6_bitCount_0f7a4_10 ?_
  refine ab_ldcw (v := (858993459 : Int32)) C dJ6_bitCount_0f7a4_11 lq_J6_266 ?_
  refine ab_iand C dJ6_bitCount_0f7a4_14 ?_
  refine ab_iload_n C 0 rfl rfl dJ6_bitCount_0f7a4_15 ?_
  refine ab_iconst (v := (2 : Int32)) C dJ6_bitCount_0f7a4_16 (by decide) ?_
  refine ab_iushr C dJ6_bitCount_0f7a4_17 ?_
  refine ab_ldcw (v := (858993459 : Int32)) C dJ6_bitCount_0f7a4_18 lq_J6_266 ?_
  refine ab_iand C dJ6_bitCount_0f7a4_21 ?_
  refine ab_iadd C dJ6_bitCount_0f7a4_22 ?_
  refine ab_topi (fun v2 qv2 => ?_)
  replace hF := aLet_e hF v2 qv2
  refine ab_istore_n (lv' := [(0, .int v2)]) C dJ6_bitCount_0f7a4_23 rfl (by decide) rfl ?_
  refine ab_iload_n C 0 rfl rfl dJ6_bitCount_0f7a4_24 ?_
  refine ab_iload_n C 0 rfl rfl dJ6_bitCount_0f7a4_25 ?_
  refine ab_iconst (v := (4 : Int32)) C dJ6_bitCount_0f7a4_26 (by decide) ?_
  refine ab_iushr C dJ6_bitCount_0f7a4_27 ?_
  refine ab_iadd C dJ6_bitCount_0f7a4_28 ?_
  refine ab_ldcw (v := (252645135 : Int32)) C dJ6_bitCount_0f7a4_29 lq_J6_267 ?_
  refine ab_iand C dJ6_bitCount_0f7a4_32 ?_
  refine ab_topi (fun v3 qv3 => ?_)
  replace hF := aLet_e hF v3 qv3
  refine ab_istore_n (lv' := [(0, .int v3)]) C dJ6_bitCount_0f7a4_33 rfl (by decide) rfl ?_
  refine ab_iload_n C 0 rfl rfl dJ6_bitCount_0f7a4_34 ?_
  refine ab_iload_n C 0 rfl rfl dJ6_bitCount_0f7a4_35 ?_
  refine ab_bipush (v := (8 : Int32)) C dJ6_bitCount_0f7a4_36 (by decide) ?_
  refine ab_iushr C dJ6_bitCount_0f7a4_38 ?_
  refine ab_iadd C dJ6_bitCount_0f7a4_39 ?_
  refine ab_topi (fun v4 qv4 => ?_)
  replace hF := aLet_e hF v4 qv4
  refine ab_istore_n (lv' := [(0, .int v4)]) C dJ6_bitCount_0f7a4_40 rfl (by decide) rfl ?_
  refine ab_iload_n C 0 rfl rfl dJ6_bitCount_0f7a4_41 ?_
  refine ab_iload_n C 0 rfl rfl dJ6_bitCount_0f7a4_42 ?_
  refine ab_bipush (v := (16 : Int32)) C dJ6_bitCount_0f7a4_43 (by decide) ?_
  refine ab_iushr C dJ6_bitCount_0f7a4_45 ?_
  refine ab_iadd C dJ6_bitCount_0f7a4_46 ?_
  refine ab_topi (fun v5 qv5 => ?_)
  replace hF := aLet_e hF v5 qv5
  refine ab_istore_n (lv' := [(0, .int v5)]) C dJ6_bitCount_0f7a4_47 rfl (by decide) rfl ?_
  refine ab_iload_n C 0 rfl rfl dJ6_bitCount_0f7a4_48 ?_
  refine ab_bipush (v := (63 : Int32)) C dJ6_bitCount_0f7a4_49 (by decide) ?_
  refine ab_iand C dJ6_bitCount_0f7a4_51 ?_
  obtain rfl := hF
  exact ab_iret C R0 rfl dJ6_bitCount_0f7a4_52 ⟨rfl, rfl, rfl⟩
theorem dX2_lead_0 : decode cX2_lead 0 = .ok (.aload_n 0, 1) := by decide +kernel
theorem dX2_lead_1 : decode cX2_lead 1 = .ok (.iload_n 1, 1) := by decide +kernel
theorem dX2_lead_2 : decode cX2_lead 2 = .ok (.invokevirtual 95, 3) := by decide +kernel
theorem dX2_lead_5 : decode cX2_lead 5 = .ok (.ifCond .eq 12, 3) := by decide +kernel
theorem dX2_lead_8 : decode cX2_lead 8 = .ok (.aload_n 0, 1) := by decide +kernel
theorem dX2_lead_9 : decode cX2_lead 9 = .ok (.iload 4, 2) := by decide +kernel
theorem dX2_lead_11 : decode cX2_lead 11 = .ok (.invokevirtual 95, 3) := by decide +kernel
theorem dX2_lead_14 : decode cX2_lead 14 = .ok (.ifCond .ne 5, 3) := by decide +kernel
theorem dX2_lead_17 : decode cX2_lead 17 = .ok (.iconst 0, 1) := by decide +kernel
theorem dX2_lead_18 : decode cX2_lead 18 = .ok (.ireturn, 1) := by decide +kernel
theorem dX2_lead_19 : decode cX2_lead 19 = .ok (.aload_n 0, 1) := by decide +kernel
theorem dX2_lead_20 : decode cX2_lead 20 = .ok (.getfield 28, 3) := by decide +kernel
theorem dX2_lead_23 : decode cX2_lead 23 = .ok (.bipush 6, 2) := by decide +kernel
theorem dX2_lead_25 : decode cX2_lead 25 = .ok (.laload, 1) := by decide +kernel
theorem dX2_lead_26 : decode cX2_lead 26 = .ok (.lload_n 2, 1) := by decide +kernel
theorem dX2_lead_27 : decode cX2_lead 27 = .ok (.lload 5, 2) := by decide +kernel
theorem dX2_lead_29 : decode cX2_lead 29 = .ok (.lor, 1) := by decide +kernel
theorem dX2_lead_30 : decode cX2_lead 30 = .ok (.ldc2_w 60, 3) := by decide +kernel
theorem dX2_lead_33 : decode cX2_lead 33 = .ok (.lxor, 1) := by decide +kernel
theorem dX2_lead_34 : decode cX2_lead 34 = .ok (.land, 1) := by decide +kernel
theorem dX2_lead_35 : decode cX2_lead 35 = .ok (.lstore 7, 2) := by decide +kernel
theorem dX2_lead_37 : decode cX2_lead 37 = .ok (.aload_n 0, 1) := by decide +kernel
theorem dX2_lead_38 : decode cX2_lead 38 = .ok (.aload_n 0, 1) := by decide +kernel
theorem dX2_lead_39 : decode cX2_lead 39 = .ok (.getfield 9, 3) := by decide +kernel
theorem dX2_lead_42 : decode cX2_lead 42 = .ok (.iload_n 1, 1) := by decide +kernel
theorem dX2_lead_43 : decode cX2_lead 43 = .ok (.iaload, 1) := by decide +kernel
theorem dX2_lead_44 : decode cX2_lead 44 = .ok (.lload_n 2, 1) := by decide +kernel
theorem dX2_lead_45 : decode cX2_lead 45 = .ok (.lload 7, 2) := by decide +kernel
theorem dX2_lead_47 : decode cX2_lead 47 = .ok (.invokevirtual 99, 3) := by decide +kernel
theorem dX2_lead_50 : decode cX2_lead 50 = .ok (.invokestatic 103, 3) := by decide +kernel
theorem dX2_lead_53 : decode cX2_lead 53 = .ok (.aload_n 0, 1) := by decide +kernel
theorem dX2_lead_54 : decode cX2_lead 54 = .ok (.aload_n 0, 1) := by decide +kernel
theorem dX2_lead_55 : decode cX2_lead 55 = .ok (.getfield 9, 3) := by decide +kernel
theorem dX2_lead_58 : decode cX2_lead 58 = .ok (.iload 4, 2) := by decide +kernel
theorem dX2_lead_60 : decode cX2_lead 60 = .ok (.iaload, 1) := by decide +kernel
theorem dX2_lead_61 : decode cX2_lead 61 = .ok (.lload 5, 2) := by decide +kernel
theorem dX2_lead_63 : decode cX2_lead 63 = .ok (.lload 7, 2) := by decide +kernel
theorem dX2_lead_65 : decode cX2_lead 65 = .ok (.invokevirtual 99, 3) := by decide +kernel
theorem dX2_lead_68 : decode cX2_lead 68 = .ok (.invokestatic 103, 3) := by decide +kernel
theorem dX2_lead_71 : decode cX2_lead 71 = .ok (.isub, 1) := by decide +kernel
theorem dX2_lead_72 : decode cX2_lead 72 = .ok (.ireturn, 1) := by decide +kernel
def X2_lead (S0 : Rec) (x1 : Int32) (y2 : Int64) (x4 : Int32) (y5 : Int64) : Option (Int32) :=
  if (X2_hasHolder S0 x1) = 0 then
    some (0 : Int32)
  else
    if (X2_hasHolder S0 x4) = 0 then
      some (0 : Int32)
    else
      (rdL (S0.2.2 10) 7 (6 : Int32)).bind fun v3 =>
      aLet (v3 &&& ((y2 ||| y5) ^^^ (-1 : Int64))) fun v4 =>
      (rdI (S0.2.1 1) 6 x1).bind fun v5 =>
      (X2_speech S0 v5 y2 v4).bind fun v6 =>
      (rdI (S0.2.1 1) 6 x4).bind fun v7 =>
      (X2_speech S0 v7 y5 v4).bind fun v8 =>
      some ((J6_bitCount_0f7a4 v6) - (J6_bitCount_0f7a4 v8))
set_option maxRecDepth 100000 in
set_option maxHeartbeats 4000000 in
theorem X2_lead_ok (l : Launch) {h : aH} {nx : Nat} {a0 : Nat} {S0 : Rec} {x1 : Int32} {y2 : Int64} {x4 : Int32} {y5 : Int64} (hB0 : X2_at h a0 S0) {r : Int32} (hF : X2_lead S0 x1 y2 x4 y5 = some r) : aOk l 3 0 0 yX2_lead cX2_lead 9 (some .int) [.ref a0, .int x1, .long y2, .int x4, .long y5] h nx (aRd (.int r) h nx) := by
  refine aOk.of (by decide +kernel) (Nat.le_of_ble_eq_true rfl) (fun X G hX C R0 _ => ?_)
  subst hX
  show aV X G 9 0 [(0, .ref a0), (1, .int x1), (2, .long y2), (4, .int x4), (5, .long y5)] [] h nx 0 0
  rw [X2_lead] at hF
  refine ab_aload_n C 0 rfl rfl dX2_lead_0 ?_
  refine ab_iload_n C 1 rfl rfl dX2_lead_1 ?_
  refine ab_cVR (v := .int (X2_hasHolder S0 x1)) (st := []) C lm_X2_95 (X2_hasHolder_ok (xl X) hB0 (r := (X2_hasHolder S0 x1)) rfl) [.int x1] rfl hB0.1 rfl rfl rfl (by decide) ⟨Nat.zero_le _, Nat.zero_le _⟩ (Nat.le_of_ble_eq_true rfl) dX2_lead_2 ?_
  refine ab_if_eq C 17 dX2_lead_5 (by decide) (fun c1 => ?_) (fun c1 => ?_)
  · replace hF := (if_pos c1).symm.trans hF
    refine ab_iconst (v := (0 : Int32)) C dX2_lead_17 (by decide) ?_
    obtain rfl := Option.some.inj hF
    exact ab_iret C R0 rfl dX2_lead_18 ⟨rfl, rfl, rfl⟩
  · replace hF := (if_neg c1).symm.trans hF
    refine ab_aload_n C 0 rfl rfl dX2_lead_8 ?_
    refine ab_iload C 3 rfl dX2_lead_9 ?_
    refine ab_cVR (v := .int (X2_hasHolder S0 x4)) (st := []) C lm_X2_95 (X2_hasHolder_ok (xl X) hB0 (r := (X2_hasHolder S0 x4)) rfl) [.int x4] rfl hB0.1 rfl rfl rfl (by decide) ⟨Nat.zero_le _, Nat.zero_le _⟩ (Nat.le_of_ble_eq_true rfl) dX2_lead_11 ?_
    refine ab_if_ne C 19 dX2_lead_14 (by decide) (fun c2 => ?_) (fun c2 => ?_)
    · replace hF := (if_neg c2).symm.trans hF
      refine ab_aload_n C 0 rfl rfl dX2_lead_19 ?_
      refine ab_g2 (v := .ref (a0 + 6)) C lf_X2_28 hB0.1 rfl dX2_lead_20 ?_
      refine ab_bipush (v := (6 : Int32)) C dX2_lead_23 (by decide) ?_
      obtain ⟨v3, hxv3, hF⟩ := Option.bind_eq_some_iff.mp hF
      refine ab_lald C (X2_r10 hB0) hxv3 dX2_lead_25 ?_
      refine ab_lload_n C 2 rfl rfl dX2_lead_26 ?_
      refine ab_lload C 4 rfl dX2_lead_27 ?_
      refine ab_lor C dX2_lead_29 ?_
      refine ab_ldc2 (v := (-1 : Int64)) C dX2_lead_30 lq_X2_60 ?_
      refine ab_lxor C dX2_lead_33 ?_
      refine ab_land C dX2_lead_34 ?_
      refine ab_topl (fun v4 qv4 => ?_)
      replace hF := aLet_e hF v4 qv4
      refine ab_lstore (lv' := [(7, .long v4), (0, .ref a0), (1, .int x1), (2, .long y2), (4, .int x4), (5, .long y5)]) C dX2_lead_35 ⟨by decide, by decide⟩ rfl ?_
      refine ab_aload_n C 1 rfl rfl dX2_lead_37 ?_
      refine ab_aload_n C 1 rfl rfl dX2_lead_38 ?_
      refine ab_g2 (v := .ref (a0 + 1)) C lf_X2_9 hB0.1 rfl dX2_lead_39 ?_
      refine ab_iload_n C 2 rfl rfl dX2_lead_42 ?_
      obtain ⟨v5, hxv5, hF⟩ := Option.bind_eq_some_iff.mp hF
      refine ab_iald C (X2_r1 hB0) hxv5 dX2_lead_43 ?_
      refine ab_lload_n C 3 rfl rfl dX2_lead_44 ?_
      refine ab_lload C 0 rfl dX2_lead_45 ?_
      obtain ⟨v6, hxv6, hF⟩ := Option.bind_eq_some_iff.mp hF
      refine ab_cVR (v := .int v6) (st := []) C lm_X2_99 (X2_speech_ok (xl X) hB0 (r := v6) hxv6) [.int v5, .long y2, .long v4] rfl hB0.1 rfl rfl rfl (by decide) ⟨Nat.zero_le _, Nat.zero_le _⟩ (Nat.le_of_ble_eq_true rfl) dX2_lead_47 ?_
      refine ab_cSR (v := .int (J6_bitCount_0f7a4 v6)) (st := []) C lm_X2_103 (J6_bitCount_0f7a4_ok (xl X) (r := (J6_bitCount_0f7a4 v6)) rfl) rfl rfl (by decide) ⟨Nat.zero_le _, Nat.zero_le _⟩ (Nat.le_of_ble_eq_true rfl) dX2_lead_50 ?_
      refine ab_aload_n C 1 rfl rfl dX2_lead_53 ?_
      refine ab_aload_n C 1 rfl rfl dX2_lead_54 ?_
      refine ab_g2 (v := .ref (a0 + 1)) C lf_X2_9 hB0.1 rfl dX2_lead_55 ?_
      refine ab_iload C 4 rfl dX2_lead_58 ?_
      obtain ⟨v7, hxv7, hF⟩ := Option.bind_eq_some_iff.mp hF
      refine ab_iald C (X2_r1 hB0) hxv7 dX2_lead_60 ?_
      refine ab_lload C 5 rfl dX2_lead_61 ?_
      refine ab_lload C 0 rfl dX2_lead_63 ?_
      obtain ⟨v8, hxv8, hF⟩ := Option.bind_eq_some_iff.mp hF
      refine ab_cVR (v := .int v8) (st := [.int (J6_bitCount_0f7a4 v6)]) C lm_X2_99 (X2_speech_ok (xl X) hB0 (r := v8) hxv8) [.int v7, .long y5, .long v4] rfl hB0.1 rfl rfl rfl (by decide) ⟨Nat.zero_le _, Nat.zero_le _⟩ (Nat.le_of_ble_eq_true rfl) dX2_lead_65 ?_
      refine ab_cSR (v := .int (J6_bitCount_0f7a4 v8)) (st := [.int (J6_bitCount_0f7a4 v6)]) C lm_X2_103 (J6_bitCount_0f7a4_ok (xl X) (r := (J6_bitCount_0f7a4 v8)) rfl) rfl rfl (by decide) ⟨Nat.zero_le _, Nat.zero_le _⟩ (Nat.le_of_ble_eq_true rfl) dX2_lead_68 ?_
      refine ab_isub C dX2_lead_71 ?_
      obtain rfl := Option.some.inj hF
      exact ab_iret C R0 rfl dX2_lead_72 ⟨rfl, rfl, rfl⟩
    · replace hF := (if_pos c2).symm.trans hF
      refine ab_iconst (v := (0 : Int32)) C dX2_lead_17 (by decide) ?_
      obtain rfl := Option.some.inj hF
      exact ab_iret C R0 rfl dX2_lead_18 ⟨rfl, rfl, rfl⟩
theorem dX2_speechOfAll_0 : decode cX2_speechOfAll 0 = .ok (.iconst 0, 1) := by decide +kernel
theorem dX2_speechOfAll_1 : decode cX2_speechOfAll 1 = .ok (.istore_n 1, 1) := by decide +kernel
theorem dX2_speechOfAll_2 : decode cX2_speechOfAll 2 = .ok (.iconst 0, 1) := by decide +kernel
theorem dX2_speechOfAll_3 : decode cX2_speechOfAll 3 = .ok (.istore_n 2, 1) := by decide +kernel
theorem dX2_speechOfAll_4 : decode cX2_speechOfAll 4 = .ok (.iload_n 2, 1) := by decide +kernel
theorem dX2_speechOfAll_5 : decode cX2_speechOfAll 5 = .ok (.aload_n 0, 1) := by decide +kernel
theorem dX2_speechOfAll_6 : decode cX2_speechOfAll 6 = .ok (.getfield 34, 3) := by decide +kernel
theorem dX2_speechOfAll_9 : decode cX2_speechOfAll 9 = .ok (.if_icmp .ge 17, 3) := by decide +kernel
theorem dX2_speechOfAll_12 : decode cX2_speechOfAll 12 = .ok (.iload_n 1, 1) := by decide +kernel
theorem dX2_speechOfAll_13 : decode cX2_speechOfAll 13 = .ok (.aload_n 0, 1) := by decide +kernel
theorem dX2_speechOfAll_14 : decode cX2_speechOfAll 14 = .ok (.iload_n 2, 1) := by decide +kernel
theorem dX2_speechOfAll_15 : decode cX2_speechOfAll 15 = .ok (.invokevirtual 108, 3) := by decide +kernel
theorem dX2_speechOfAll_18 : decode cX2_speechOfAll 18 = .ok (.ior, 1) := by decide +kernel
theorem dX2_speechOfAll_19 : decode cX2_speechOfAll 19 = .ok (.istore_n 1, 1) := by decide +kernel
theorem dX2_speechOfAll_20 : decode cX2_speechOfAll 20 = .ok (.iinc 2 1, 3) := by decide +kernel
theorem dX2_speechOfAll_23 : decode cX2_speechOfAll 23 = .ok (.goto (-19), 3) := by decide +kernel
theorem dX2_speechOfAll_26 : decode cX2_speechOfAll 26 = .ok (.iload_n 1, 1) := by decide +kernel
theorem dX2_speechOfAll_27 : decode cX2_speechOfAll 27 = .ok (.ireturn, 1) := by decide +kernel
def X2_speechOfAll_L4 (S0 : Rec) : Nat → Int32 → Int32 → Option (Int32)
  | 0, _, _ => none
  | n4 + 1, v1, v2 => if (S0.1 0) ≤ v2 then
      some v1
    else
      (X2_speechOf S0 v2).bind fun v4 =>
      aLet (v1 ||| v4) fun v5 =>
      aLet (v2 + (1 : Int32)) fun v6 =>
      X2_speechOfAll_L4 S0 n4 v5 v6
def X2_speechOfAll (S0 : Rec) : Option (Int32) :=
  (X2_speechOfAll_L4 S0 aFu (0 : Int32) (0 : Int32)).bind fun e7 =>
  some e7
set_option maxRecDepth 100000 in
set_option maxHeartbeats 4000000 in
theorem X2_speechOfAll_ok (l : Launch) {h : aH} {nx : Nat} {a0 : Nat} {S0 : Rec} (hB0 : X2_at h a0 S0) {r : Int32} (hF : X2_speechOfAll S0 = some r) : aOk l 5 0 0 yX2_speechOfAll cX2_speechOfAll 3 (some .int) [.ref a0] h nx (aRd (.int r) h nx) := by
  refine aOk.of (by decide +kernel) (Nat.le_of_ble_eq_true rfl) (fun X G hX C R0 _ => ?_)
  subst hX
  show aV X G 3 0 [(0, .ref a0)] [] h nx 0 0
  rw [X2_speechOfAll] at hF
  refine ab_iconst (v := (0 : Int32)) C dX2_speechOfAll_0 (by decide) ?_
  refine ab_istore_n (lv' := [(1, .int (0 : Int32)), (0, .ref a0)]) C dX2_speechOfAll_1 rfl (by decide) rfl ?_
  refine ab_iconst (v := (0 : Int32)) C dX2_speechOfAll_2 (by decide) ?_
  refine ab_istore_n (lv' := [(2, .int (0 : Int32)), (1, .int (0 : Int32)), (0, .ref a0)]) C dX2_speechOfAll_3 rfl (by decide) rfl ?_
  have L4 : ∀ (n4 : Nat) (v1 : Int32) (v2 : Int32), ∀ (res4 : Int32), X2_speechOfAll_L4 S0 n4 v1 v2 = some res4 → (aV X G 3 26 [(1, .int res4)] [] h nx 0 0) → aV X G 3 4 [(0, .ref a0), (1, .int v1), (2, .int v2)] [] h nx 0 0 := by
    intro n4
    induction n4 with
    | zero => intro v1 v2 res4 hF KX4; cases (show (none : Option (Int32)) = some res4 from hF)
    | succ n4 ih4 =>
      intro v1 v2 res4 hF KX4
      rw [X2_speechOfAll_L4] at hF
      refine ab_iload_n C 2 rfl rfl dX2_speechOfAll_4 ?_
      refine ab_aload_n C 0 rfl rfl dX2_speechOfAll_5 ?_
      refine ab_g2 (v := .int (S0.1 0)) C lf_X2_34 hB0.1 rfl dX2_speechOfAll_6 ?_
      refine ab_icmp_ge C 26 dX2_speechOfAll_9 (by decide) (fun c3 => ?_) (fun c3 => ?_)
      · replace hF := (if_pos c3).symm.trans hF
        obtain rfl := Option.some.inj hF
        refine aV.sub (lv' := [(1, .int v1)]) [1] rfl ?_
        exact KX4
      · replace hF := (if_neg c3).symm.trans hF
        refine ab_iload_n C 1 rfl rfl dX2_speechOfAll_12 ?_
        refine ab_aload_n C 0 rfl rfl dX2_speechOfAll_13 ?_
        refine ab_iload_n C 2 rfl rfl dX2_speechOfAll_14 ?_
        obtain ⟨v4, hxv4, hF⟩ := Option.bind_eq_some_iff.mp hF
        refine ab_cVR (v := .int v4) (st := [.int v1]) C lm_X2_108 (X2_speechOf_ok (xl X) hB0 (r := v4) hxv4) [.int v2] rfl hB0.1 rfl rfl rfl (by decide) ⟨Nat.zero_le _, Nat.zero_le _⟩ (Nat.le_of_ble_eq_true rfl) dX2_speechOfAll_15 ?_
        refine ab_ior C dX2_speechOfAll_18 ?_
        refine ab_topi (fun v5 qv5 => ?_)
        replace hF := aLet_e hF v5 qv5
        refine ab_istore_n (lv' := [(1, .int v5), (0, .ref a0), (2, .int v2)]) C dX2_speechOfAll_19 rfl (by decide) rfl ?_
        obtain ⟨v6, qv6⟩ : ∃ y : Int32, y = (v2 + (1 : Int32)) := ⟨_, rfl⟩
        replace hF := aLet_e hF v6 qv6
        refine ab_iinc (lv' := [(2, .int v6), (1, .int v5), (0, .ref a0)]) C 2 rfl dX2_speechOfAll_20 (by rw [qv6]; rfl) (by decide) rfl ?_
        refine ab_goto C 4 dX2_speechOfAll_23 (by decide) ?_
        refine aV.sub (lv' := [(0, .ref a0), (1, .int v5), (2, .int v6)]) [2, 1, 0] rfl ?_
        exact ih4 v5 v6 res4 hF KX4
  refine aV.sub (lv' := [(0, .ref a0), (1, .int (0 : Int32)), (2, .int (0 : Int32))]) [2, 1, 0] rfl ?_
  obtain ⟨e7, he7, hF⟩ := Option.bind_eq_some_iff.mp hF
  refine L4 aFu (0 : Int32) (0 : Int32) e7 he7 ?_
  refine ab_iload_n C 0 rfl rfl dX2_speechOfAll_26 ?_
  obtain rfl := Option.some.inj hF
  exact ab_iret C R0 rfl dX2_speechOfAll_27 ⟨rfl, rfl, rfl⟩
theorem dX2_bestSpeaker_0 : decode cX2_bestSpeaker 0 = .ok (.iconst 0, 1) := by decide +kernel
theorem dX2_bestSpeaker_1 : decode cX2_bestSpeaker 1 = .ok (.istore_n 1, 1) := by decide +kernel
theorem dX2_bestSpeaker_2 : decode cX2_bestSpeaker 2 = .ok (.iconst 1, 1) := by decide +kernel
theorem dX2_bestSpeaker_3 : decode cX2_bestSpeaker 3 = .ok (.istore_n 2, 1) := by decide +kernel
theorem dX2_bestSpeaker_4 : decode cX2_bestSpeaker 4 = .ok (.iload_n 2, 1) := by decide +kernel
theorem dX2_bestSpeaker_5 : decode cX2_bestSpeaker 5 = .ok (.aload_n 0, 1) := by decide +kernel
theorem dX2_bestSpeaker_6 : decode cX2_bestSpeaker 6 = .ok (.getfield 34, 3) := by decide +kernel
theorem dX2_bestSpeaker_9 : decode cX2_bestSpeaker 9 = .ok (.if_icmp .ge 30, 3) := by decide +kernel
theorem dX2_bestSpeaker_12 : decode cX2_bestSpeaker 12 = .ok (.aload_n 0, 1) := by decide +kernel
theorem dX2_bestSpeaker_13 : decode cX2_bestSpeaker 13 = .ok (.iload_n 2, 1) := by decide +kernel
theorem dX2_bestSpeaker_14 : decode cX2_bestSpeaker 14 = .ok (.invokevirtual 108, 3) := by decide +kernel
theorem dX2_bestSpeaker_17 : decode cX2_bestSpeaker 17 = .ok (.invokestatic 103, 3) := by decide +kernel
theorem dX2_bestSpeaker_20 : decode cX2_bestSpeaker 20 = .ok (.aload_n 0, 1) := by decide +kernel
theorem dX2_bestSpeaker_21 : decode cX2_bestSpeaker 21 = .ok (.iload_n 1, 1) := by decide +kernel
theorem dX2_bestSpeaker_22 : decode cX2_bestSpeaker 22 = .ok (.invokevirtual 108, 3) := by decide +kernel
theorem dX2_bestSpeaker_25 : decode cX2_bestSpeaker 25 = .ok (.invokestatic 103, 3) := by decide +kernel
theorem dX2_bestSpeaker_28 : decode cX2_bestSpeaker 28 = .ok (.if_icmp .le 5, 3) := by decide +kernel
theorem dX2_bestSpeaker_31 : decode cX2_bestSpeaker 31 = .ok (.iload_n 2, 1) := by decide +kernel
theorem dX2_bestSpeaker_32 : decode cX2_bestSpeaker 32 = .ok (.istore_n 1, 1) := by decide +kernel
theorem dX2_bestSpeaker_33 : decode cX2_bestSpeaker 33 = .ok (.iinc 2 1, 3) := by decide +kernel
theorem dX2_bestSpeaker_36 : decode cX2_bestSpeaker 36 = .ok (.goto (-32), 3) := by decide +kernel
theorem dX2_bestSpeaker_39 : decode cX2_bestSpeaker 39 = .ok (.iload_n 1, 1) := by decide +kernel
theorem dX2_bestSpeaker_40 : decode cX2_bestSpeaker 40 = .ok (.ireturn, 1) := by decide +kernel
def X2_bestSpeaker_L4 (S0 : Rec) : Nat → Int32 → Int32 → Option (Int32)
  | 0, _, _ => none
  | n4 + 1, v1, v2 => if (S0.1 0) ≤ v2 then
      some v1
    else
      (X2_speechOf S0 v2).bind fun v4 =>
      (X2_speechOf S0 v1).bind fun v5 =>
      if (J6_bitCount_0f7a4 v4) ≤ (J6_bitCount_0f7a4 v5) then
        aLet (v2 + (1 : Int32)) fun v7 =>
        X2_bestSpeaker_L4 S0 n4 v1 v7
      else
        aLet (v2 + (1 : Int32)) fun v8 =>
        X2_bestSpeaker_L4 S0 n4 v2 v8
def X2_bestSpeaker (S0 : Rec) : Option (Int32) :=
  (X2_bestSpeaker_L4 S0 aFu (0 : Int32) (1 : Int32)).bind fun e9 =>
  some e9
set_option maxRecDepth 100000 in
set_option maxHeartbeats 4000000 in
theorem X2_bestSpeaker_ok (l : Launch) {h : aH} {nx : Nat} {a0 : Nat} {S0 : Rec} (hB0 : X2_at h a0 S0) {r : Int32} (hF : X2_bestSpeaker S0 = some r) : aOk l 5 0 0 yX2_bestSpeaker cX2_bestSpeaker 3 (some .int) [.ref a0] h nx (aRd (.int r) h nx) := by
  refine aOk.of (by decide +kernel) (Nat.le_of_ble_eq_true rfl) (fun X G hX C R0 _ => ?_)
  subst hX
  show aV X G 3 0 [(0, .ref a0)] [] h nx 0 0
  rw [X2_bestSpeaker] at hF
  refine ab_iconst (v := (0 : Int32)) C dX2_bestSpeaker_0 (by decide) ?_
  refine ab_istore_n (lv' := [(1, .int (0 : Int32)), (0, .ref a0)]) C dX2_bestSpeaker_1 rfl (by decide) rfl ?_
  refine ab_iconst (v := (1 : Int32)) C dX2_bestSpeaker_2 (by decide) ?_
  refine ab_istore_n (lv' := [(2, .int (1 : Int32)), (1, .int (0 : Int32)), (0, .ref a0)]) C dX2_bestSpeaker_3 rfl (by decide) rfl ?_
  have L4 : ∀ (n4 : Nat) (v1 : Int32) (v2 : Int32), ∀ (res4 : Int32), X2_bestSpeaker_L4 S0 n4 v1 v2 = some res4 → (aV X G 3 39 [(1, .int res4)] [] h nx 0 0) → aV X G 3 4 [(0, .ref a0), (1, .int v1), (2, .int v2)] [] h nx 0 0 := by
    intro n4
    induction n4 with
    | zero => intro v1 v2 res4 hF KX4; cases (show (none : Option (Int32)) = some res4 from hF)
    | succ n4 ih4 =>
      intro v1 v2 res4 hF KX4
      rw [X2_bestSpeaker_L4] at hF
      refine ab_iload_n C 2 rfl rfl dX2_bestSpeaker_4 ?_
      refine ab_aload_n C 0 rfl rfl dX2_bestSpeaker_5 ?_
      refine ab_g2 (v := .int (S0.1 0)) C lf_X2_34 hB0.1 rfl dX2_bestSpeaker_6 ?_
      refine ab_icmp_ge C 39 dX2_bestSpeaker_9 (by decide) (fun c3 => ?_) (fun c3 => ?_)
      · replace hF := (if_pos c3).symm.trans hF
        obtain rfl := Option.some.inj hF
        refine aV.sub (lv' := [(1, .int v1)]) [1] rfl ?_
        exact KX4
      · replace hF := (if_neg c3).symm.trans hF
        refine ab_aload_n C 0 rfl rfl dX2_bestSpeaker_12 ?_
        refine ab_iload_n C 2 rfl rfl dX2_bestSpeaker_13 ?_
        obtain ⟨v4, hxv4, hF⟩ := Option.bind_eq_some_iff.mp hF
        refine ab_cVR (v := .int v4) (st := []) C lm_X2_108 (X2_speechOf_ok (xl X) hB0 (r := v4) hxv4) [.int v2] rfl hB0.1 rfl rfl rfl (by decide) ⟨Nat.zero_le _, Nat.zero_le _⟩ (Nat.le_of_ble_eq_true rfl) dX2_bestSpeaker_14 ?_
        refine ab_cSR (v := .int (J6_bitCount_0f7a4 v4)) (st := []) C lm_X2_103 (J6_bitCount_0f7a4_ok (xl X) (r := (J6_bitCount_0f7a4 v4)) rfl) rfl rfl (by decide) ⟨Nat.zero_le _, Nat.zero_le _⟩ (Nat.le_of_ble_eq_true rfl) dX2_bestSpeaker_17 ?_
        refine ab_aload_n C 0 rfl rfl dX2_bestSpeaker_20 ?_
        refine ab_iload_n C 1 rfl rfl dX2_bestSpeaker_21 ?_
        obtain ⟨v5, hxv5, hF⟩ := Option.bind_eq_some_iff.mp hF
        refine ab_cVR (v := .int v5) (st := [.int (J6_bitCount_0f7a4 v4)]) C lm_X2_108 (X2_speechOf_ok (xl X) hB0 (r := v5) hxv5) [.int v1] rfl hB0.1 rfl rfl rfl (by decide) ⟨Nat.zero_le _, Nat.zero_le _⟩ (Nat.le_of_ble_eq_true rfl) dX2_bestSpeaker_22 ?_
        refine ab_cSR (v := .int (J6_bitCount_0f7a4 v5)) (st := [.int (J6_bitCount_0f7a4 v4)]) C lm_X2_103 (J6_bitCount_0f7a4_ok (xl X) (r := (J6_bitCount_0f7a4 v5)) rfl) rfl rfl (by decide) ⟨Nat.zero_le _, Nat.zero_le _⟩ (Nat.le_of_ble_eq_true rfl) dX2_bestSpeaker_25 ?_
        refine ab_icmp_le C 33 dX2_bestSpeaker_28 (by decide) (fun c6 => ?_) (fun c6 => ?_)
        · replace hF := (if_pos c6).symm.trans hF
          obtain ⟨v7, qv7⟩ : ∃ y : Int32, y = (v2 + (1 : Int32)) := ⟨_, rfl⟩
          replace hF := aLet_e hF v7 qv7
          refine ab_iinc (lv' := [(2, .int v7), (0, .ref a0), (1, .int v1)]) C 2 rfl dX2_bestSpeaker_33 (by rw [qv7]; rfl) (by decide) rfl ?_
          refine ab_goto C 4 dX2_bestSpeaker_36 (by decide) ?_
          refine aV.sub (lv' := [(0, .ref a0), (1, .int v1), (2, .int v7)]) [1, 2, 0] rfl ?_
          exact ih4 v1 v7 res4 hF KX4
        · replace hF := (if_neg c6).symm.trans hF
          refine ab_iload_n C 2 rfl rfl dX2_bestSpeaker_31 ?_
          refine ab_istore_n (lv' := [(1, .int v2), (0, .ref a0), (2, .int v2)]) C dX2_bestSpeaker_32 rfl (by decide) rfl ?_
          obtain ⟨v8, qv8⟩ : ∃ y : Int32, y = (v2 + (1 : Int32)) := ⟨_, rfl⟩
          replace hF := aLet_e hF v8 qv8
          refine ab_iinc (lv' := [(2, .int v8), (1, .int v2), (0, .ref a0)]) C 2 rfl dX2_bestSpeaker_33 (by rw [qv8]; rfl) (by decide) rfl ?_
          refine ab_goto C 4 dX2_bestSpeaker_36 (by decide) ?_
          refine aV.sub (lv' := [(0, .ref a0), (1, .int v2), (2, .int v8)]) [2, 1, 0] rfl ?_
          exact ih4 v2 v8 res4 hF KX4
  refine aV.sub (lv' := [(0, .ref a0), (1, .int (0 : Int32)), (2, .int (1 : Int32))]) [2, 1, 0] rfl ?_
  obtain ⟨e9, he9, hF⟩ := Option.bind_eq_some_iff.mp hF
  refine L4 aFu (0 : Int32) (1 : Int32) e9 he9 ?_
  refine ab_iload_n C 0 rfl rfl dX2_bestSpeaker_39 ?_
  obtain rfl := Option.some.inj hF
  exact ab_iret C R0 rfl dX2_bestSpeaker_40 ⟨rfl, rfl, rfl⟩
theorem dX8_covers_0 : decode cX8_covers 0 = .ok (.iload_n 1, 1) := by decide +kernel
theorem dX8_covers_1 : decode cX8_covers 1 = .ok (.iload_n 0, 1) := by decide +kernel
theorem dX8_covers_2 : decode cX8_covers 2 = .ok (.iconst (-1), 1) := by decide +kernel
theorem dX8_covers_3 : decode cX8_covers 3 = .ok (.ixor, 1) := by decide +kernel
theorem dX8_covers_4 : decode cX8_covers 4 = .ok (.iand, 1) := by decide +kernel
theorem dX8_covers_5 : decode cX8_covers 5 = .ok (.ifCond .ne 7, 3) := by decide +kernel
theorem dX8_covers_8 : decode cX8_covers 8 = .ok (.iconst 1, 1) := by decide +kernel
theorem dX8_covers_9 : decode cX8_covers 9 = .ok (.goto 4, 3) := by decide +kernel
theorem dX8_covers_12 : decode cX8_covers 12 = .ok (.iconst 0, 1) := by decide +kernel
theorem dX8_covers_13 : decode cX8_covers 13 = .ok (.ireturn, 1) := by decide +kernel
def X8_covers (x0 : Int32) (x1 : Int32) : Int32 :=
  if (x1 &&& (x0 ^^^ (-1 : Int32))) = 0 then
    (1 : Int32)
  else
    (0 : Int32)
set_option maxRecDepth 100000 in
set_option maxHeartbeats 4000000 in
theorem X8_covers_ok (l : Launch) {h : aH} {nx : Nat} {x0 : Int32} {x1 : Int32} {r : Int32} (hF : X8_covers x0 x1 = r) : aOk l 0 0 0 yX8_covers cX8_covers 2 (some .boolean) [.int x0, .int x1] h nx (aRd (.int r) h nx) := by
  refine aOk.of (by decide +kernel) (Nat.le_of_ble_eq_true rfl) (fun X G hX C R0 _ => ?_)
  subst hX
  show aV X G 2 0 [(0, .int x0), (1, .int x1)] [] h nx 0 0
  rw [X8_covers] at hF
  refine ab_iload_n C 1 rfl rfl dX8_covers_0 ?_
  refine ab_iload_n C 0 rfl rfl dX8_covers_1 ?_
  refine ab_iconst (v := (-1 : Int32)) C dX8_covers_2 (by decide) ?_
  refine ab_ixor C dX8_covers_3 ?_
  refine ab_iand C dX8_covers_4 ?_
  refine ab_if_ne C 12 dX8_covers_5 (by decide) (fun c1 => ?_) (fun c1 => ?_)
  · replace hF := (if_neg c1).symm.trans hF
    refine ab_iconst (v := (0 : Int32)) C dX8_covers_12 (by decide) ?_
    obtain rfl := hF
    exact ab_iret C R0 rfl dX8_covers_13 ⟨rfl, rfl, rfl⟩
  · replace hF := (if_pos c1).symm.trans hF
    refine ab_iconst (v := (1 : Int32)) C dX8_covers_8 (by decide) ?_
    refine ab_goto C 13 dX8_covers_9 (by decide) ?_
    obtain rfl := hF
    exact ab_iret C R0 rfl dX8_covers_13 ⟨rfl, rfl, rfl⟩
theorem X8_covers_n {x0 : Int32} {x1 : Int32} : narrow .boolean (.int (X8_covers x0 x1)) = .int (X8_covers x0 x1) := by
  unfold X8_covers
  repeat' split
  all_goals first | rfl | exact X9_in_n
theorem dX2_wordsOf_0 : decode cX2_wordsOf 0 = .ok (.aload_n 0, 1) := by decide +kernel
theorem dX2_wordsOf_1 : decode cX2_wordsOf 1 = .ok (.iload_n 1, 1) := by decide +kernel
theorem dX2_wordsOf_2 : decode cX2_wordsOf 2 = .ok (.invokevirtual 108, 3) := by decide +kernel
theorem dX2_wordsOf_5 : decode cX2_wordsOf 5 = .ok (.istore_n 2, 1) := by decide +kernel
theorem dX2_wordsOf_6 : decode cX2_wordsOf 6 = .ok (.iconst 0, 1) := by decide +kernel
theorem dX2_wordsOf_7 : decode cX2_wordsOf 7 = .ok (.istore_n 3, 1) := by decide +kernel
theorem dX2_wordsOf_8 : decode cX2_wordsOf 8 = .ok (.iconst 0, 1) := by decide +kernel
theorem dX2_wordsOf_9 : decode cX2_wordsOf 9 = .ok (.istore 4, 2) := by decide +kernel
theorem dX2_wordsOf_11 : decode cX2_wordsOf 11 = .ok (.iload 4, 2) := by decide +kernel
theorem dX2_wordsOf_13 : decode cX2_wordsOf 13 = .ok (.iconst 4, 1) := by decide +kernel
theorem dX2_wordsOf_14 : decode cX2_wordsOf 14 = .ok (.if_icmp .ge 39, 3) := by decide +kernel
theorem dX2_wordsOf_17 : decode cX2_wordsOf 17 = .ok (.aload_n 0, 1) := by decide +kernel
theorem dX2_wordsOf_18 : decode cX2_wordsOf 18 = .ok (.iload 4, 2) := by decide +kernel
theorem dX2_wordsOf_20 : decode cX2_wordsOf 20 = .ok (.invokevirtual 111, 3) := by decide +kernel
theorem dX2_wordsOf_23 : decode cX2_wordsOf 23 = .ok (.ifCond .eq 24, 3) := by decide +kernel
theorem dX2_wordsOf_26 : decode cX2_wordsOf 26 = .ok (.iload_n 2, 1) := by decide +kernel
theorem dX2_wordsOf_27 : decode cX2_wordsOf 27 = .ok (.aload_n 0, 1) := by decide +kernel
theorem dX2_wordsOf_28 : decode cX2_wordsOf 28 = .ok (.getfield 18, 3) := by decide +kernel
theorem dX2_wordsOf_31 : decode cX2_wordsOf 31 = .ok (.iload 4, 2) := by decide +kernel
theorem dX2_wordsOf_33 : decode cX2_wordsOf 33 = .ok (.iaload, 1) := by decide +kernel
theorem dX2_wordsOf_34 : decode cX2_wordsOf 34 = .ok (.invokestatic 114, 3) := by decide +kernel
theorem dX2_wordsOf_37 : decode cX2_wordsOf 37 = .ok (.ifCond .eq 10, 3) := by decide +kernel
theorem dX2_wordsOf_40 : decode cX2_wordsOf 40 = .ok (.iload_n 3, 1) := by decide +kernel
theorem dX2_wordsOf_41 : decode cX2_wordsOf 41 = .ok (.iconst 1, 1) := by decide +kernel
theorem dX2_wordsOf_42 : decode cX2_wordsOf 42 = .ok (.iload 4, 2) := by decide +kernel
theorem dX2_wordsOf_44 : decode cX2_wordsOf 44 = .ok (.ishl, 1) := by decide +kernel
theorem dX2_wordsOf_45 : decode cX2_wordsOf 45 = .ok (.ior, 1) := by decide +kernel
theorem dX2_wordsOf_46 : decode cX2_wordsOf 46 = .ok (.istore_n 3, 1) := by decide +kernel
theorem dX2_wordsOf_47 : decode cX2_wordsOf 47 = .ok (.iinc 4 1, 3) := by decide +kernel
theorem dX2_wordsOf_50 : decode cX2_wordsOf 50 = .ok (.goto (-39), 3) := by decide +kernel
theorem dX2_wordsOf_53 : decode cX2_wordsOf 53 = .ok (.iload_n 3, 1) := by decide +kernel
theorem dX2_wordsOf_54 : decode cX2_wordsOf 54 = .ok (.ireturn, 1) := by decide +kernel
def X2_wordsOf_L11 (S0 : Rec) (v1 : Int32) : Nat → Int32 → Int32 → Option (Int32)
  | 0, _, _ => none
  | n11 + 1, v2, v3 => if (4 : Int32) ≤ v3 then
      some v2
    else
      if (X2_hasWord S0 v3) = 0 then
        aLet (v3 + (1 : Int32)) fun v6 =>
        X2_wordsOf_L11 S0 v1 n11 v2 v6
      else
        (rdI (S0.2.1 6) 4 v3).bind fun v7 =>
        if (X8_covers v1 v7) = 0 then
          aLet (v3 + (1 : Int32)) fun v9 =>
          X2_wordsOf_L11 S0 v1 n11 v2 v9
        else
          aLet (v2 ||| ((1 : Int32) <<< (v3 &&& 31))) fun v10 =>
          aLet (v3 + (1 : Int32)) fun v11 =>
          X2_wordsOf_L11 S0 v1 n11 v10 v11
def X2_wordsOf (S0 : Rec) (x1 : Int32) : Option (Int32) :=
  (X2_speechOf S0 x1).bind fun v1 =>
  (X2_wordsOf_L11 S0 v1 aFu (0 : Int32) (0 : Int32)).bind fun e12 =>
  some e12
set_option maxRecDepth 100000 in
set_option maxHeartbeats 4000000 in
theorem X2_wordsOf_ok (l : Launch) {h : aH} {nx : Nat} {a0 : Nat} {S0 : Rec} {x1 : Int32} (hB0 : X2_at h a0 S0) {r : Int32} (hF : X2_wordsOf S0 x1 = some r) : aOk l 5 0 0 yX2_wordsOf cX2_wordsOf 5 (some .int) [.ref a0, .int x1] h nx (aRd (.int r) h nx) := by
  refine aOk.of (by decide +kernel) (Nat.le_of_ble_eq_true rfl) (fun X G hX C R0 _ => ?_)
  subst hX
  show aV X G 5 0 [(0, .ref a0), (1, .int x1)] [] h nx 0 0
  rw [X2_wordsOf] at hF
  refine ab_aload_n C 0 rfl rfl dX2_wordsOf_0 ?_
  refine ab_iload_n C 1 rfl rfl dX2_wordsOf_1 ?_
  obtain ⟨v1, hxv1, hF⟩ := Option.bind_eq_some_iff.mp hF
  refine ab_cVR (v := .int v1) (st := []) C lm_X2_108 (X2_speechOf_ok (xl X) hB0 (r := v1) hxv1) [.int x1] rfl hB0.1 rfl rfl rfl (by decide) ⟨Nat.zero_le _, Nat.zero_le _⟩ (Nat.le_of_ble_eq_true rfl) dX2_wordsOf_2 ?_
  refine ab_istore_n (lv' := [(2, .int v1), (0, .ref a0), (1, .int x1)]) C dX2_wordsOf_5 rfl (by decide) rfl ?_
  refine ab_iconst (v := (0 : Int32)) C dX2_wordsOf_6 (by decide) ?_
  refine ab_istore_n (lv' := [(3, .int (0 : Int32)), (2, .int v1), (0, .ref a0), (1, .int x1)]) C dX2_wordsOf_7 rfl (by decide) rfl ?_
  refine ab_iconst (v := (0 : Int32)) C dX2_wordsOf_8 (by decide) ?_
  refine ab_istore (lv' := [(4, .int (0 : Int32)), (3, .int (0 : Int32)), (2, .int v1), (0, .ref a0), (1, .int x1)]) C dX2_wordsOf_9 (by decide) rfl ?_
  have L11 : ∀ (n11 : Nat) (v2 : Int32) (v3 : Int32), ∀ (res11 : Int32), X2_wordsOf_L11 S0 v1 n11 v2 v3 = some res11 → (aV X G 5 53 [(3, .int res11)] [] h nx 0 0) → aV X G 5 11 [(0, .ref a0), (2, .int v1), (3, .int v2), (4, .int v3)] [] h nx 0 0 := by
    intro n11
    induction n11 with
    | zero => intro v2 v3 res11 hF KX11; cases (show (none : Option (Int32)) = some res11 from hF)
    | succ n11 ih11 =>
      intro v2 v3 res11 hF KX11
      rw [X2_wordsOf_L11] at hF
      refine ab_iload C 3 rfl dX2_wordsOf_11 ?_
      refine ab_iconst (v := (4 : Int32)) C dX2_wordsOf_13 (by decide) ?_
      refine ab_icmp_ge C 53 dX2_wordsOf_14 (by decide) (fun c4 => ?_) (fun c4 => ?_)
      · replace hF := (if_pos c4).symm.trans hF
        obtain rfl := Option.some.inj hF
        refine aV.sub (lv' := [(3, .int v2)]) [2] rfl ?_
        exact KX11
      · replace hF := (if_neg c4).symm.trans hF
        refine ab_aload_n C 0 rfl rfl dX2_wordsOf_17 ?_
        refine ab_iload C 3 rfl dX2_wordsOf_18 ?_
        refine ab_cVR (v := .int (X2_hasWord S0 v3)) (st := []) C lm_X2_111 (X2_hasWord_ok (xl X) hB0 (r := (X2_hasWord S0 v3)) rfl) [.int v3] rfl hB0.1 rfl rfl rfl (by decide) ⟨Nat.zero_le _, Nat.zero_le _⟩ (Nat.le_of_ble_eq_true rfl) dX2_wordsOf_20 ?_
        refine ab_if_eq C 47 dX2_wordsOf_23 (by decide) (fun c5 => ?_) (fun c5 => ?_)
        · replace hF := (if_pos c5).symm.trans hF
          obtain ⟨v6, qv6⟩ : ∃ y : Int32, y = (v3 + (1 : Int32)) := ⟨_, rfl⟩
          replace hF := aLet_e hF v6 qv6
          refine ab_iinc (lv' := [(4, .int v6), (0, .ref a0), (2, .int v1), (3, .int v2)]) C 3 rfl dX2_wordsOf_47 (by rw [qv6]; rfl) (by decide) rfl ?_
          refine ab_goto C 11 dX2_wordsOf_50 (by decide) ?_
          refine aV.sub (lv' := [(0, .ref a0), (2, .int v1), (3, .int v2), (4, .int v6)]) [1, 2, 3, 0] rfl ?_
          exact ih11 v2 v6 res11 hF KX11
        · replace hF := (if_neg c5).symm.trans hF
          refine ab_iload_n C 1 rfl rfl dX2_wordsOf_26 ?_
          refine ab_aload_n C 0 rfl rfl dX2_wordsOf_27 ?_
          refine ab_g2 (v := .ref (a0 + 3)) C lf_X2_18 hB0.1 rfl dX2_wordsOf_28 ?_
          refine ab_iload C 3 rfl dX2_wordsOf_31 ?_
          obtain ⟨v7, hxv7, hF⟩ := Option.bind_eq_some_iff.mp hF
          refine ab_iald C (X2_r6 hB0) hxv7 dX2_wordsOf_33 ?_
          refine ab_cSR (v := .int (X8_covers v1 v7)) (st := []) C lm_X2_114 (X8_covers_ok (xl X) (r := (X8_covers v1 v7)) rfl) rfl rfl (by decide) ⟨Nat.zero_le _, Nat.zero_le _⟩ (Nat.le_of_ble_eq_true rfl) dX2_wordsOf_34 ?_
          refine ab_if_eq C 47 dX2_wordsOf_37 (by decide) (fun c8 => ?_) (fun c8 => ?_)
          · replace hF := (if_pos c8).symm.trans hF
            obtain ⟨v9, qv9⟩ : ∃ y : Int32, y = (v3 + (1 : Int32)) := ⟨_, rfl⟩
            replace hF := aLet_e hF v9 qv9
            refine ab_iinc (lv' := [(4, .int v9), (0, .ref a0), (2, .int v1), (3, .int v2)]) C 3 rfl dX2_wordsOf_47 (by rw [qv9]; rfl) (by decide) rfl ?_
            refine ab_goto C 11 dX2_wordsOf_50 (by decide) ?_
            refine aV.sub (lv' := [(0, .ref a0), (2, .int v1), (3, .int v2), (4, .int v9)]) [1, 2, 3, 0] rfl ?_
            exact ih11 v2 v9 res11 hF KX11
          · replace hF := (if_neg c8).symm.trans hF
            refine ab_iload_n C 2 rfl rfl dX2_wordsOf_40 ?_
            refine ab_iconst (v := (1 : Int32)) C dX2_wordsOf_41 (by decide) ?_
            refine ab_iload C 3 rfl dX2_wordsOf_42 ?_
            refine ab_ishl C dX2_wordsOf_44 ?_
            refine ab_ior C dX2_wordsOf_45 ?_
            refine ab_topi (fun v10 qv10 => ?_)
            replace hF := aLet_e hF v10 qv10
            refine ab_istore_n (lv' := [(3, .int v10), (0, .ref a0), (2, .int v1), (4, .int v3)]) C dX2_wordsOf_46 rfl (by decide) rfl ?_
            obtain ⟨v11, qv11⟩ : ∃ y : Int32, y = (v3 + (1 : Int32)) := ⟨_, rfl⟩
            replace hF := aLet_e hF v11 qv11
            refine ab_iinc (lv' := [(4, .int v11), (3, .int v10), (0, .ref a0), (2, .int v1)]) C 3 rfl dX2_wordsOf_47 (by rw [qv11]; rfl) (by decide) rfl ?_
            refine ab_goto C 11 dX2_wordsOf_50 (by decide) ?_
            refine aV.sub (lv' := [(0, .ref a0), (2, .int v1), (3, .int v10), (4, .int v11)]) [2, 3, 1, 0] rfl ?_
            exact ih11 v10 v11 res11 hF KX11
  refine aV.sub (lv' := [(0, .ref a0), (2, .int v1), (3, .int (0 : Int32)), (4, .int (0 : Int32))]) [3, 2, 1, 0] rfl ?_
  obtain ⟨e12, he12, hF⟩ := Option.bind_eq_some_iff.mp hF
  refine L11 aFu (0 : Int32) (0 : Int32) e12 he12 ?_
  refine ab_iload_n C 0 rfl rfl dX2_wordsOf_53 ?_
  obtain rfl := Option.some.inj hF
  exact ab_iret C R0 rfl dX2_wordsOf_54 ⟨rfl, rfl, rfl⟩
theorem dX2_speakersOf_0 : decode cX2_speakersOf 0 = .ok (.iconst 0, 1) := by decide +kernel
theorem dX2_speakersOf_1 : decode cX2_speakersOf 1 = .ok (.istore_n 2, 1) := by decide +kernel
theorem dX2_speakersOf_2 : decode cX2_speakersOf 2 = .ok (.iconst 0, 1) := by decide +kernel
theorem dX2_speakersOf_3 : decode cX2_speakersOf 3 = .ok (.istore_n 3, 1) := by decide +kernel
theorem dX2_speakersOf_4 : decode cX2_speakersOf 4 = .ok (.iload_n 3, 1) := by decide +kernel
theorem dX2_speakersOf_5 : decode cX2_speakersOf 5 = .ok (.aload_n 0, 1) := by decide +kernel
theorem dX2_speakersOf_6 : decode cX2_speakersOf 6 = .ok (.getfield 34, 3) := by decide +kernel
theorem dX2_speakersOf_9 : decode cX2_speakersOf 9 = .ok (.if_icmp .ge 40, 3) := by decide +kernel
theorem dX2_speakersOf_12 : decode cX2_speakersOf 12 = .ok (.aload_n 0, 1) := by decide +kernel
theorem dX2_speakersOf_13 : decode cX2_speakersOf 13 = .ok (.iload_n 1, 1) := by decide +kernel
theorem dX2_speakersOf_14 : decode cX2_speakersOf 14 = .ok (.invokevirtual 111, 3) := by decide +kernel
theorem dX2_speakersOf_17 : decode cX2_speakersOf 17 = .ok (.ifCond .eq 26, 3) := by decide +kernel
theorem dX2_speakersOf_20 : decode cX2_speakersOf 20 = .ok (.aload_n 0, 1) := by decide +kernel
theorem dX2_speakersOf_21 : decode cX2_speakersOf 21 = .ok (.iload_n 3, 1) := by decide +kernel
theorem dX2_speakersOf_22 : decode cX2_speakersOf 22 = .ok (.invokevirtual 108, 3) := by decide +kernel
theorem dX2_speakersOf_25 : decode cX2_speakersOf 25 = .ok (.aload_n 0, 1) := by decide +kernel
theorem dX2_speakersOf_26 : decode cX2_speakersOf 26 = .ok (.getfield 18, 3) := by decide +kernel
theorem dX2_speakersOf_29 : decode cX2_speakersOf 29 = .ok (.iload_n 1, 1) := by decide +kernel
theorem dX2_speakersOf_30 : decode cX2_speakersOf 30 = .ok (.iaload, 1) := by decide +kernel
theorem dX2_speakersOf_31 : decode cX2_speakersOf 31 = .ok (.invokestatic 114, 3) := by decide +kernel
theorem dX2_speakersOf_34 : decode cX2_speakersOf 34 = .ok (.ifCond .eq 9, 3) := by decide +kernel
theorem dX2_speakersOf_37 : decode cX2_speakersOf 37 = .ok (.iload_n 2, 1) := by decide +kernel
theorem dX2_speakersOf_38 : decode cX2_speakersOf 38 = .ok (.iconst 1, 1) := by decide +kernel
theorem dX2_speakersOf_39 : decode cX2_speakersOf 39 = .ok (.iload_n 3, 1) := by decide +kernel
theorem dX2_speakersOf_40 : decode cX2_speakersOf 40 = .ok (.ishl, 1) := by decide +kernel
theorem dX2_speakersOf_41 : decode cX2_speakersOf 41 = .ok (.ior, 1) := by decide +kernel
theorem dX2_speakersOf_42 : decode cX2_speakersOf 42 = .ok (.istore_n 2, 1) := by decide +kernel
theorem dX2_speakersOf_43 : decode cX2_speakersOf 43 = .ok (.iinc 3 1, 3) := by decide +kernel
theorem dX2_speakersOf_46 : decode cX2_speakersOf 46 = .ok (.goto (-42), 3) := by decide +kernel
theorem dX2_speakersOf_49 : decode cX2_speakersOf 49 = .ok (.iload_n 2, 1) := by decide +kernel
theorem dX2_speakersOf_50 : decode cX2_speakersOf 50 = .ok (.ireturn, 1) := by decide +kernel
def X2_speakersOf_L4 (S0 : Rec) (x1 : Int32) : Nat → Int32 → Int32 → Option (Int32)
  | 0, _, _ => none
  | n4 + 1, v1, v2 => if (S0.1 0) ≤ v2 then
      some v1
    else
      if (X2_hasWord S0 x1) = 0 then
        aLet (v2 + (1 : Int32)) fun v5 =>
        X2_speakersOf_L4 S0 x1 n4 v1 v5
      else
        (X2_speechOf S0 v2).bind fun v6 =>
        (rdI (S0.2.1 6) 4 x1).bind fun v7 =>
        if (X8_covers v6 v7) = 0 then
          aLet (v2 + (1 : Int32)) fun v9 =>
          X2_speakersOf_L4 S0 x1 n4 v1 v9
        else
          aLet (v1 ||| ((1 : Int32) <<< (v2 &&& 31))) fun v10 =>
          aLet (v2 + (1 : Int32)) fun v11 =>
          X2_speakersOf_L4 S0 x1 n4 v10 v11
def X2_speakersOf (S0 : Rec) (x1 : Int32) : Option (Int32) :=
  (X2_speakersOf_L4 S0 x1 aFu (0 : Int32) (0 : Int32)).bind fun e12 =>
  some e12
set_option maxRecDepth 100000 in
set_option maxHeartbeats 4000000 in
theorem X2_speakersOf_ok (l : Launch) {h : aH} {nx : Nat} {a0 : Nat} {S0 : Rec} {x1 : Int32} (hB0 : X2_at h a0 S0) {r : Int32} (hF : X2_speakersOf S0 x1 = some r) : aOk l 5 0 0 yX2_speakersOf cX2_speakersOf 4 (some .int) [.ref a0, .int x1] h nx (aRd (.int r) h nx) := by
  refine aOk.of (by decide +kernel) (Nat.le_of_ble_eq_true rfl) (fun X G hX C R0 _ => ?_)
  subst hX
  show aV X G 4 0 [(0, .ref a0), (1, .int x1)] [] h nx 0 0
  rw [X2_speakersOf] at hF
  refine ab_iconst (v := (0 : Int32)) C dX2_speakersOf_0 (by decide) ?_
  refine ab_istore_n (lv' := [(2, .int (0 : Int32)), (0, .ref a0), (1, .int x1)]) C dX2_speakersOf_1 rfl (by decide) rfl ?_
  refine ab_iconst (v := (0 : Int32)) C dX2_speakersOf_2 (by decide) ?_
  refine ab_istore_n (lv' := [(3, .int (0 : Int32)), (2, .int (0 : Int32)), (0, .ref a0), (1, .int x1)]) C dX2_speakersOf_3 rfl (by decide) rfl ?_
  have L4 : ∀ (n4 : Nat) (v1 : Int32) (v2 : Int32), ∀ (res4 : Int32), X2_speakersOf_L4 S0 x1 n4 v1 v2 = some res4 → (aV X G 4 49 [(2, .int res4)] [] h nx 0 0) → aV X G 4 4 [(0, .ref a0), (1, .int x1), (2, .int v1), (3, .int v2)] [] h nx 0 0 := by
    intro n4
    induction n4 with
    | zero => intro v1 v2 res4 hF KX4; cases (show (none : Option (Int32)) = some res4 from hF)
    | succ n4 ih4 =>
      intro v1 v2 res4 hF KX4
      rw [X2_speakersOf_L4] at hF
      refine ab_iload_n C 3 rfl rfl dX2_speakersOf_4 ?_
      refine ab_aload_n C 0 rfl rfl dX2_speakersOf_5 ?_
      refine ab_g2 (v := .int (S0.1 0)) C lf_X2_34 hB0.1 rfl dX2_speakersOf_6 ?_
      refine ab_icmp_ge C 49 dX2_speakersOf_9 (by decide) (fun c3 => ?_) (fun c3 => ?_)
      · replace hF := (if_pos c3).symm.trans hF
        obtain rfl := Option.some.inj hF
        refine aV.sub (lv' := [(2, .int v1)]) [2] rfl ?_
        exact KX4
      · replace hF := (if_neg c3).symm.trans hF
        refine ab_aload_n C 0 rfl rfl dX2_speakersOf_12 ?_
        refine ab_iload_n C 1 rfl rfl dX2_speakersOf_13 ?_
        refine ab_cVR (v := .int (X2_hasWord S0 x1)) (st := []) C lm_X2_111 (X2_hasWord_ok (xl X) hB0 (r := (X2_hasWord S0 x1)) rfl) [.int x1] rfl hB0.1 rfl rfl rfl (by decide) ⟨Nat.zero_le _, Nat.zero_le _⟩ (Nat.le_of_ble_eq_true rfl) dX2_speakersOf_14 ?_
        refine ab_if_eq C 43 dX2_speakersOf_17 (by decide) (fun c4 => ?_) (fun c4 => ?_)
        · replace hF := (if_pos c4).symm.trans hF
          obtain ⟨v5, qv5⟩ : ∃ y : Int32, y = (v2 + (1 : Int32)) := ⟨_, rfl⟩
          replace hF := aLet_e hF v5 qv5
          refine ab_iinc (lv' := [(3, .int v5), (0, .ref a0), (1, .int x1), (2, .int v1)]) C 3 rfl dX2_speakersOf_43 (by rw [qv5]; rfl) (by decide) rfl ?_
          refine ab_goto C 4 dX2_speakersOf_46 (by decide) ?_
          refine aV.sub (lv' := [(0, .ref a0), (1, .int x1), (2, .int v1), (3, .int v5)]) [1, 2, 3, 0] rfl ?_
          exact ih4 v1 v5 res4 hF KX4
        · replace hF := (if_neg c4).symm.trans hF
          refine ab_aload_n C 0 rfl rfl dX2_speakersOf_20 ?_
          refine ab_iload_n C 3 rfl rfl dX2_speakersOf_21 ?_
          obtain ⟨v6, hxv6, hF⟩ := Option.bind_eq_some_iff.mp hF
          refine ab_cVR (v := .int v6) (st := []) C lm_X2_108 (X2_speechOf_ok (xl X) hB0 (r := v6) hxv6) [.int v2] rfl hB0.1 rfl rfl rfl (by decide) ⟨Nat.zero_le _, Nat.zero_le _⟩ (Nat.le_of_ble_eq_true rfl) dX2_speakersOf_22 ?_
          refine ab_aload_n C 0 rfl rfl dX2_speakersOf_25 ?_
          refine ab_g2 (v := .ref (a0 + 3)) C lf_X2_18 hB0.1 rfl dX2_speakersOf_26 ?_
          refine ab_iload_n C 1 rfl rfl dX2_speakersOf_29 ?_
          obtain ⟨v7, hxv7, hF⟩ := Option.bind_eq_some_iff.mp hF
          refine ab_iald C (X2_r6 hB0) hxv7 dX2_speakersOf_30 ?_
          refine ab_cSR (v := .int (X8_covers v6 v7)) (st := []) C lm_X2_114 (X8_covers_ok (xl X) (r := (X8_covers v6 v7)) rfl) rfl rfl (by decide) ⟨Nat.zero_le _, Nat.zero_le _⟩ (Nat.le_of_ble_eq_true rfl) dX2_speakersOf_31 ?_
          refine ab_if_eq C 43 dX2_speakersOf_34 (by decide) (fun c8 => ?_) (fun c8 => ?_)
          · replace hF := (if_pos c8).symm.trans hF
            obtain ⟨v9, qv9⟩ : ∃ y : Int32, y = (v2 + (1 : Int32)) := ⟨_, rfl⟩
            replace hF := aLet_e hF v9 qv9
            refine ab_iinc (lv' := [(3, .int v9), (0, .ref a0), (1, .int x1), (2, .int v1)]) C 3 rfl dX2_speakersOf_43 (by rw [qv9]; rfl) (by decide) rfl ?_
            refine ab_goto C 4 dX2_speakersOf_46 (by decide) ?_
            refine aV.sub (lv' := [(0, .ref a0), (1, .int x1), (2, .int v1), (3, .int v9)]) [1, 2, 3, 0] rfl ?_
            exact ih4 v1 v9 res4 hF KX4
          · replace hF := (if_neg c8).symm.trans hF
            refine ab_iload_n C 2 rfl rfl dX2_speakersOf_37 ?_
            refine ab_iconst (v := (1 : Int32)) C dX2_speakersOf_38 (by decide) ?_
            refine ab_iload_n C 3 rfl rfl dX2_speakersOf_39 ?_
            refine ab_ishl C dX2_speakersOf_40 ?_
            refine ab_ior C dX2_speakersOf_41 ?_
            refine ab_topi (fun v10 qv10 => ?_)
            replace hF := aLet_e hF v10 qv10
            refine ab_istore_n (lv' := [(2, .int v10), (0, .ref a0), (1, .int x1), (3, .int v2)]) C dX2_speakersOf_42 rfl (by decide) rfl ?_
            obtain ⟨v11, qv11⟩ : ∃ y : Int32, y = (v2 + (1 : Int32)) := ⟨_, rfl⟩
            replace hF := aLet_e hF v11 qv11
            refine ab_iinc (lv' := [(3, .int v11), (2, .int v10), (0, .ref a0), (1, .int x1)]) C 3 rfl dX2_speakersOf_43 (by rw [qv11]; rfl) (by decide) rfl ?_
            refine ab_goto C 4 dX2_speakersOf_46 (by decide) ?_
            refine aV.sub (lv' := [(0, .ref a0), (1, .int x1), (2, .int v10), (3, .int v11)]) [2, 3, 1, 0] rfl ?_
            exact ih4 v10 v11 res4 hF KX4
  refine aV.sub (lv' := [(0, .ref a0), (1, .int x1), (2, .int (0 : Int32)), (3, .int (0 : Int32))]) [2, 3, 1, 0] rfl ?_
  obtain ⟨e12, he12, hF⟩ := Option.bind_eq_some_iff.mp hF
  refine L4 aFu (0 : Int32) (0 : Int32) e12 he12 ?_
  refine ab_iload_n C 0 rfl rfl dX2_speakersOf_49 ?_
  obtain rfl := Option.some.inj hF
  exact ab_iret C R0 rfl dX2_speakersOf_50 ⟨rfl, rfl, rfl⟩
theorem dX2_talkersWith_0 : decode cX2_talkersWith 0 = .ok (.aload_n 0, 1) := by decide +kernel
theorem dX2_talkersWith_1 : decode cX2_talkersWith 1 = .ok (.iload_n 1, 1) := by decide +kernel
theorem dX2_talkersWith_2 : decode cX2_talkersWith 2 = .ok (.invokevirtual 108, 3) := by decide +kernel
theorem dX2_talkersWith_5 : decode cX2_talkersWith 5 = .ok (.istore_n 3, 1) := by decide +kernel
theorem dX2_talkersWith_6 : decode cX2_talkersWith 6 = .ok (.iconst 0, 1) := by decide +kernel
theorem dX2_talkersWith_7 : decode cX2_talkersWith 7 = .ok (.istore 4, 2) := by decide +kernel
theorem dX2_talkersWith_9 : decode cX2_talkersWith 9 = .ok (.iconst 0, 1) := by decide +kernel
theorem dX2_talkersWith_10 : decode cX2_talkersWith 10 = .ok (.istore 5, 2) := by decide +kernel
theorem dX2_talkersWith_12 : decode cX2_talkersWith 12 = .ok (.iload 5, 2) := by decide +kernel
theorem dX2_talkersWith_14 : decode cX2_talkersWith 14 = .ok (.aload_n 0, 1) := by decide +kernel
theorem dX2_talkersWith_15 : decode cX2_talkersWith 15 = .ok (.getfield 34, 3) := by decide +kernel
theorem dX2_talkersWith_18 : decode cX2_talkersWith 18 = .ok (.if_icmp .ge 39, 3) := by decide +kernel
theorem dX2_talkersWith_21 : decode cX2_talkersWith 21 = .ok (.iload 5, 2) := by decide +kernel
theorem dX2_talkersWith_23 : decode cX2_talkersWith 23 = .ok (.iload_n 1, 1) := by decide +kernel
theorem dX2_talkersWith_24 : decode cX2_talkersWith 24 = .ok (.if_icmp .eq 27, 3) := by decide +kernel
theorem dX2_talkersWith_27 : decode cX2_talkersWith 27 = .ok (.iload_n 3, 1) := by decide +kernel
theorem dX2_talkersWith_28 : decode cX2_talkersWith 28 = .ok (.aload_n 0, 1) := by decide +kernel
theorem dX2_talkersWith_29 : decode cX2_talkersWith 29 = .ok (.iload 5, 2) := by decide +kernel
theorem dX2_talkersWith_31 : decode cX2_talkersWith 31 = .ok (.invokevirtual 108, 3) := by decide +kernel
theorem dX2_talkersWith_34 : decode cX2_talkersWith 34 = .ok (.iand, 1) := by decide +kernel
theorem dX2_talkersWith_35 : decode cX2_talkersWith 35 = .ok (.invokestatic 103, 3) := by decide +kernel
theorem dX2_talkersWith_38 : decode cX2_talkersWith 38 = .ok (.iload_n 2, 1) := by decide +kernel
theorem dX2_talkersWith_39 : decode cX2_talkersWith 39 = .ok (.if_icmp .lt 12, 3) := by decide +kernel
theorem dX2_talkersWith_42 : decode cX2_talkersWith 42 = .ok (.iload 4, 2) := by decide +kernel
theorem dX2_talkersWith_44 : decode cX2_talkersWith 44 = .ok (.iconst 1, 1) := by decide +kernel
theorem dX2_talkersWith_45 : decode cX2_talkersWith 45 = .ok (.iload 5, 2) := by decide +kernel
theorem dX2_talkersWith_47 : decode cX2_talkersWith 47 = .ok (.ishl, 1) := by decide +kernel
theorem dX2_talkersWith_48 : decode cX2_talkersWith 48 = .ok (.ior, 1) := by decide +kernel
theorem dX2_talkersWith_49 : decode cX2_talkersWith 49 = .ok (.istore 4, 2) := by decide +kernel
theorem dX2_talkersWith_51 : decode cX2_talkersWith 51 = .ok (.iinc 5 1, 3) := by decide +kernel
theorem dX2_talkersWith_54 : decode cX2_talkersWith 54 = .ok (.goto (-42), 3) := by decide +kernel
theorem dX2_talkersWith_57 : decode cX2_talkersWith 57 = .ok (.iload 4, 2) := by decide +kernel
theorem dX2_talkersWith_59 : decode cX2_talkersWith 59 = .ok (.ireturn, 1) := by decide +kernel
def X2_talkersWith_L12 (S0 : Rec) (x1 : Int32) (v1 : Int32) (x2 : Int32) : Nat → Int32 → Int32 → Option (Int32)
  | 0, _, _ => none
  | n12 + 1, v2, v3 => if (S0.1 0) ≤ v3 then
      some v2
    else
      if v3 = x1 then
        aLet (v3 + (1 : Int32)) fun v6 =>
        X2_talkersWith_L12 S0 x1 v1 x2 n12 v2 v6
      else
        (X2_speechOf S0 v3).bind fun v7 =>
        if (J6_bitCount_0f7a4 (v1 &&& v7)) < x2 then
          aLet (v3 + (1 : Int32)) fun v9 =>
          X2_talkersWith_L12 S0 x1 v1 x2 n12 v2 v9
        else
          aLet (v2 ||| ((1 : Int32) <<< (v3 &&& 31))) fun v10 =>
          aLet (v3 + (1 : Int32)) fun v11 =>
          X2_talkersWith_L12 S0 x1 v1 x2 n12 v10 v11
def X2_talkersWith (S0 : Rec) (x1 : Int32) (x2 : Int32) : Option (Int32) :=
  (X2_speechOf S0 x1).bind fun v1 =>
  (X2_talkersWith_L12 S0 x1 v1 x2 aFu (0 : Int32) (0 : Int32)).bind fun e12 =>
  some e12
set_option maxRecDepth 100000 in
set_option maxHeartbeats 4000000 in
theorem X2_talkersWith_ok (l : Launch) {h : aH} {nx : Nat} {a0 : Nat} {S0 : Rec} {x1 : Int32} {x2 : Int32} (hB0 : X2_at h a0 S0) {r : Int32} (hF : X2_talkersWith S0 x1 x2 = some r) : aOk l 5 0 0 yX2_talkersWith cX2_talkersWith 6 (some .int) [.ref a0, .int x1, .int x2] h nx (aRd (.int r) h nx) := by
  refine aOk.of (by decide +kernel) (Nat.le_of_ble_eq_true rfl) (fun X G hX C R0 _ => ?_)
  subst hX
  show aV X G 6 0 [(0, .ref a0), (1, .int x1), (2, .int x2)] [] h nx 0 0
  rw [X2_talkersWith] at hF
  refine ab_aload_n C 0 rfl rfl dX2_talkersWith_0 ?_
  refine ab_iload_n C 1 rfl rfl dX2_talkersWith_1 ?_
  obtain ⟨v1, hxv1, hF⟩ := Option.bind_eq_some_iff.mp hF
  refine ab_cVR (v := .int v1) (st := []) C lm_X2_108 (X2_speechOf_ok (xl X) hB0 (r := v1) hxv1) [.int x1] rfl hB0.1 rfl rfl rfl (by decide) ⟨Nat.zero_le _, Nat.zero_le _⟩ (Nat.le_of_ble_eq_true rfl) dX2_talkersWith_2 ?_
  refine ab_istore_n (lv' := [(3, .int v1), (0, .ref a0), (1, .int x1), (2, .int x2)]) C dX2_talkersWith_5 rfl (by decide) rfl ?_
  refine ab_iconst (v := (0 : Int32)) C dX2_talkersWith_6 (by decide) ?_
  refine ab_istore (lv' := [(4, .int (0 : Int32)), (3, .int v1), (0, .ref a0), (1, .int x1), (2, .int x2)]) C dX2_talkersWith_7 (by decide) rfl ?_
  refine ab_iconst (v := (0 : Int32)) C dX2_talkersWith_9 (by decide) ?_
  refine ab_istore (lv' := [(5, .int (0 : Int32)), (4, .int (0 : Int32)), (3, .int v1), (0, .ref a0), (1, .int x1), (2, .int x2)]) C dX2_talkersWith_10 (by decide) rfl ?_
  have L12 : ∀ (n12 : Nat) (v2 : Int32) (v3 : Int32), ∀ (res12 : Int32), X2_talkersWith_L12 S0 x1 v1 x2 n12 v2 v3 = some res12 → (aV X G 6 57 [(4, .int res12)] [] h nx 0 0) → aV X G 6 12 [(0, .ref a0), (1, .int x1), (2, .int x2), (3, .int v1), (4, .int v2), (5, .int v3)] [] h nx 0 0 := by
    intro n12
    induction n12 with
    | zero => intro v2 v3 res12 hF KX12; cases (show (none : Option (Int32)) = some res12 from hF)
    | succ n12 ih12 =>
      intro v2 v3 res12 hF KX12
      rw [X2_talkersWith_L12] at hF
      refine ab_iload C 5 rfl dX2_talkersWith_12 ?_
      refine ab_aload_n C 0 rfl rfl dX2_talkersWith_14 ?_
      refine ab_g2 (v := .int (S0.1 0)) C lf_X2_34 hB0.1 rfl dX2_talkersWith_15 ?_
      refine ab_icmp_ge C 57 dX2_talkersWith_18 (by decide) (fun c4 => ?_) (fun c4 => ?_)
      · replace hF := (if_pos c4).symm.trans hF
        obtain rfl := Option.some.inj hF
        refine aV.sub (lv' := [(4, .int v2)]) [4] rfl ?_
        exact KX12
      · replace hF := (if_neg c4).symm.trans hF
        refine ab_iload C 5 rfl dX2_talkersWith_21 ?_
        refine ab_iload_n C 1 rfl rfl dX2_talkersWith_23 ?_
        refine ab_icmp_eq C 51 dX2_talkersWith_24 (by decide) (fun c5 => ?_) (fun c5 => ?_)
        · replace hF := (if_pos c5).symm.trans hF
          obtain ⟨v6, qv6⟩ : ∃ y : Int32, y = (v3 + (1 : Int32)) := ⟨_, rfl⟩
          replace hF := aLet_e hF v6 qv6
          refine ab_iinc (lv' := [(5, .int v6), (0, .ref a0), (1, .int x1), (2, .int x2), (3, .int v1), (4, .int v2)]) C 5 rfl dX2_talkersWith_51 (by rw [qv6]; rfl) (by decide) rfl ?_
          refine ab_goto C 12 dX2_talkersWith_54 (by decide) ?_
          refine aV.sub (lv' := [(0, .ref a0), (1, .int x1), (2, .int x2), (3, .int v1), (4, .int v2), (5, .int v6)]) [1, 2, 3, 4, 5, 0] rfl ?_
          exact ih12 v2 v6 res12 hF KX12
        · replace hF := (if_neg c5).symm.trans hF
          refine ab_iload_n C 3 rfl rfl dX2_talkersWith_27 ?_
          refine ab_aload_n C 0 rfl rfl dX2_talkersWith_28 ?_
          refine ab_iload C 5 rfl dX2_talkersWith_29 ?_
          obtain ⟨v7, hxv7, hF⟩ := Option.bind_eq_some_iff.mp hF
          refine ab_cVR (v := .int v7) (st := [.int v1]) C lm_X2_108 (X2_speechOf_ok (xl X) hB0 (r := v7) hxv7) [.int v3] rfl hB0.1 rfl rfl rfl (by decide) ⟨Nat.zero_le _, Nat.zero_le _⟩ (Nat.le_of_ble_eq_true rfl) dX2_talkersWith_31 ?_
          refine ab_iand C dX2_talkersWith_34 ?_
          refine ab_cSR (v := .int (J6_bitCount_0f7a4 (v1 &&& v7))) (st := []) C lm_X2_103 (J6_bitCount_0f7a4_ok (xl X) (r := (J6_bitCount_0f7a4 (v1 &&& v7))) rfl) rfl rfl (by decide) ⟨Nat.zero_le _, Nat.zero_le _⟩ (Nat.le_of_ble_eq_true rfl) dX2_talkersWith_35 ?_
          refine ab_iload_n C 2 rfl rfl dX2_talkersWith_38 ?_
          refine ab_icmp_lt C 51 dX2_talkersWith_39 (by decide) (fun c8 => ?_) (fun c8 => ?_)
          · replace hF := (if_pos c8).symm.trans hF
            obtain ⟨v9, qv9⟩ : ∃ y : Int32, y = (v3 + (1 : Int32)) := ⟨_, rfl⟩
            replace hF := aLet_e hF v9 qv9
            refine ab_iinc (lv' := [(5, .int v9), (0, .ref a0), (1, .int x1), (2, .int x2), (3, .int v1), (4, .int v2)]) C 5 rfl dX2_talkersWith_51 (by rw [qv9]; rfl) (by decide) rfl ?_
            refine ab_goto C 12 dX2_talkersWith_54 (by decide) ?_
            refine aV.sub (lv' := [(0, .ref a0), (1, .int x1), (2, .int x2), (3, .int v1), (4, .int v2), (5, .int v9)]) [1, 2, 3, 4, 5, 0] rfl ?_
            exact ih12 v2 v9 res12 hF KX12
          · replace hF := (if_neg c8).symm.trans hF
            refine ab_iload C 4 rfl dX2_talkersWith_42 ?_
            refine ab_iconst (v := (1 : Int32)) C dX2_talkersWith_44 (by decide) ?_
            refine ab_iload C 5 rfl dX2_talkersWith_45 ?_
            refine ab_ishl C dX2_talkersWith_47 ?_
            refine ab_ior C dX2_talkersWith_48 ?_
            refine ab_topi (fun v10 qv10 => ?_)
            replace hF := aLet_e hF v10 qv10
            refine ab_istore (lv' := [(4, .int v10), (0, .ref a0), (1, .int x1), (2, .int x2), (3, .int v1), (5, .int v3)]) C dX2_talkersWith_49 (by decide) rfl ?_
            obtain ⟨v11, qv11⟩ : ∃ y : Int32, y = (v3 + (1 : Int32)) := ⟨_, rfl⟩
            replace hF := aLet_e hF v11 qv11
            refine ab_iinc (lv' := [(5, .int v11), (4, .int v10), (0, .ref a0), (1, .int x1), (2, .int x2), (3, .int v1)]) C 5 rfl dX2_talkersWith_51 (by rw [qv11]; rfl) (by decide) rfl ?_
            refine ab_goto C 12 dX2_talkersWith_54 (by decide) ?_
            refine aV.sub (lv' := [(0, .ref a0), (1, .int x1), (2, .int x2), (3, .int v1), (4, .int v10), (5, .int v11)]) [2, 3, 4, 5, 1, 0] rfl ?_
            exact ih12 v10 v11 res12 hF KX12
  refine aV.sub (lv' := [(0, .ref a0), (1, .int x1), (2, .int x2), (3, .int v1), (4, .int (0 : Int32)), (5, .int (0 : Int32))]) [3, 4, 5, 2, 1, 0] rfl ?_
  obtain ⟨e12, he12, hF⟩ := Option.bind_eq_some_iff.mp hF
  refine L12 aFu (0 : Int32) (0 : Int32) e12 he12 ?_
  refine ab_iload C 0 rfl dX2_talkersWith_57 ?_
  obtain rfl := Option.some.inj hF
  exact ab_iret C R0 rfl dX2_talkersWith_59 ⟨rfl, rfl, rfl⟩
