/-! printed by a program from the bytecode: what each method answers, as numbers, and that it answers so -/
theorem dX9_in_0 : decode cX9_in 0 = .ok (.lload_n 0, 1) := by decide +kernel
theorem dX9_in_1 : decode cX9_in 1 = .ok (.lload_n 2, 1) := by decide +kernel
theorem dX9_in_2 : decode cX9_in 2 = .ok (.lcmp, 1) := by decide +kernel
theorem dX9_in_3 : decode cX9_in 3 = .ok (.ifCond .lt 14, 3) := by decide +kernel
theorem dX9_in_6 : decode cX9_in 6 = .ok (.lload_n 0, 1) := by decide +kernel
theorem dX9_in_7 : decode cX9_in 7 = .ok (.lload 4, 2) := by decide +kernel
theorem dX9_in_9 : decode cX9_in 9 = .ok (.lcmp, 1) := by decide +kernel
theorem dX9_in_10 : decode cX9_in 10 = .ok (.ifCond .gt 7, 3) := by decide +kernel
theorem dX9_in_13 : decode cX9_in 13 = .ok (.iconst 1, 1) := by decide +kernel
theorem dX9_in_14 : decode cX9_in 14 = .ok (.goto 4, 3) := by decide +kernel
theorem dX9_in_17 : decode cX9_in 17 = .ok (.iconst 0, 1) := by decide +kernel
theorem dX9_in_18 : decode cX9_in 18 = .ok (.ireturn, 1) := by decide +kernel
def X9_in (y0 : Int64) (y2 : Int64) (y4 : Int64) : Int32 :=
  if (lg_cmp y0 y2) < 0 then
    (0 : Int32)
  else
    if 0 < (lg_cmp y0 y4) then
      (0 : Int32)
    else
      (1 : Int32)
set_option maxRecDepth 100000 in
set_option maxHeartbeats 4000000 in
theorem X9_in_ok (l : Launch) {h : aH} {nx : Nat} {y0 : Int64} {y2 : Int64} {y4 : Int64} {r : Int32} (hF : X9_in y0 y2 y4 = r) : aOk l 0 0 0 yX9_in cX9_in 6 (some .boolean) [.long y0, .long y2, .long y4] h nx (aRd (.int r) h nx) := by
  refine aOk.of (by decide +kernel) (Nat.le_of_ble_eq_true rfl) (fun X G hX C R0 _ => ?_)
  subst hX
  show aV X G 6 0 [(0, .long y0), (2, .long y2), (4, .long y4)] [] h nx 0 0
  rw [X9_in] at hF
  refine ab_lload_n C 0 rfl rfl dX9_in_0 ?_
  refine ab_lload_n C 1 rfl rfl dX9_in_1 ?_
  refine ab_lcmp C dX9_in_2 ?_
  refine ab_if_lt C 17 dX9_in_3 (by decide) (fun c1 => ?_) (fun c1 => ?_)
  · replace hF := (if_pos c1).symm.trans hF
    refine ab_iconst (v := (0 : Int32)) C dX9_in_17 (by decide) ?_
    obtain rfl := hF
    exact ab_iret C R0 rfl dX9_in_18 ⟨rfl, rfl, rfl⟩
  · replace hF := (if_neg c1).symm.trans hF
    refine ab_lload_n C 0 rfl rfl dX9_in_6 ?_
    refine ab_lload C 2 rfl dX9_in_7 ?_
    refine ab_lcmp C dX9_in_9 ?_
    refine ab_if_gt C 17 dX9_in_10 (by decide) (fun c2 => ?_) (fun c2 => ?_)
    · replace hF := (if_pos c2).symm.trans hF
      refine ab_iconst (v := (0 : Int32)) C dX9_in_17 (by decide) ?_
      obtain rfl := hF
      exact ab_iret C R0 rfl dX9_in_18 ⟨rfl, rfl, rfl⟩
    · replace hF := (if_neg c2).symm.trans hF
      refine ab_iconst (v := (1 : Int32)) C dX9_in_13 (by decide) ?_
      refine ab_goto C 18 dX9_in_14 (by decide) ?_
      obtain rfl := hF
      exact ab_iret C R0 rfl dX9_in_18 ⟨rfl, rfl, rfl⟩
theorem X9_in_n {y0 : Int64} {y2 : Int64} {y4 : Int64} : narrow .boolean (.int (X9_in y0 y2 y4)) = .int (X9_in y0 y2 y4) := by
  unfold X9_in
  repeat' split
  all_goals first | rfl | exact X9_in_n
theorem dX9_has_0 : decode cX9_has 0 = .ok (.iload_n 0, 1) := by decide +kernel
theorem dX9_has_1 : decode cX9_has 1 = .ok (.iload_n 1, 1) := by decide +kernel
theorem dX9_has_2 : decode cX9_has 2 = .ok (.ishr, 1) := by decide +kernel
theorem dX9_has_3 : decode cX9_has 3 = .ok (.iconst 1, 1) := by decide +kernel
theorem dX9_has_4 : decode cX9_has 4 = .ok (.iand, 1) := by decide +kernel
theorem dX9_has_5 : decode cX9_has 5 = .ok (.iconst 1, 1) := by decide +kernel
theorem dX9_has_6 : decode cX9_has 6 = .ok (.if_icmp .ne 7, 3) := by decide +kernel
theorem dX9_has_9 : decode cX9_has 9 = .ok (.iconst 1, 1) := by decide +kernel
theorem dX9_has_10 : decode cX9_has 10 = .ok (.goto 4, 3) := by decide +kernel
theorem dX9_has_13 : decode cX9_has 13 = .ok (.iconst 0, 1) := by decide +kernel
theorem dX9_has_14 : decode cX9_has 14 = .ok (.ireturn, 1) := by decide +kernel
def X9_has (x0 : Int32) (x1 : Int32) : Int32 :=
  if ((x0 >>> (x1 &&& 31)) &&& (1 : Int32)) = (1 : Int32) then
    (1 : Int32)
  else
    (0 : Int32)
set_option maxRecDepth 100000 in
set_option maxHeartbeats 4000000 in
theorem X9_has_ok (l : Launch) {h : aH} {nx : Nat} {x0 : Int32} {x1 : Int32} {r : Int32} (hF : X9_has x0 x1 = r) : aOk l 0 0 0 yX9_has cX9_has 2 (some .boolean) [.int x0, .int x1] h nx (aRd (.int r) h nx) := by
  refine aOk.of (by decide +kernel) (Nat.le_of_ble_eq_true rfl) (fun X G hX C R0 _ => ?_)
  subst hX
  show aV X G 2 0 [(0, .int x0), (1, .int x1)] [] h nx 0 0
  rw [X9_has] at hF
  refine ab_iload_n C 0 rfl rfl dX9_has_0 ?_
  refine ab_iload_n C 1 rfl rfl dX9_has_1 ?_
  refine ab_ishr C dX9_has_2 ?_
  refine ab_iconst (v := (1 : Int32)) C dX9_has_3 (by decide) ?_
  refine ab_iand C dX9_has_4 ?_
  refine ab_iconst (v := (1 : Int32)) C dX9_has_5 (by decide) ?_
  refine ab_icmp_ne C 13 dX9_has_6 (by decide) (fun c1 => ?_) (fun c1 => ?_)
  · replace hF := (if_neg c1).symm.trans hF
    refine ab_iconst (v := (0 : Int32)) C dX9_has_13 (by decide) ?_
    obtain rfl := hF
    exact ab_iret C R0 rfl dX9_has_14 ⟨rfl, rfl, rfl⟩
  · replace hF := (if_pos c1).symm.trans hF
    refine ab_iconst (v := (1 : Int32)) C dX9_has_9 (by decide) ?_
    refine ab_goto C 14 dX9_has_10 (by decide) ?_
    obtain rfl := hF
    exact ab_iret C R0 rfl dX9_has_14 ⟨rfl, rfl, rfl⟩
theorem X9_has_n {x0 : Int32} {x1 : Int32} : narrow .boolean (.int (X9_has x0 x1)) = .int (X9_has x0 x1) := by
  unfold X9_has
  repeat' split
  all_goals first | rfl | exact X9_in_n
theorem dX9_bits_0 : decode cX9_bits 0 = .ok (.iconst 0, 1) := by decide +kernel
theorem dX9_bits_1 : decode cX9_bits 1 = .ok (.istore_n 1, 1) := by decide +kernel
theorem dX9_bits_2 : decode cX9_bits 2 = .ok (.iconst 0, 1) := by decide +kernel
theorem dX9_bits_3 : decode cX9_bits 3 = .ok (.istore_n 2, 1) := by decide +kernel
theorem dX9_bits_4 : decode cX9_bits 4 = .ok (.iload_n 2, 1) := by decide +kernel
theorem dX9_bits_5 : decode cX9_bits 5 = .ok (.bipush 6, 2) := by decide +kernel
theorem dX9_bits_7 : decode cX9_bits 7 = .ok (.if_icmp .ge 17, 3) := by decide +kernel
theorem dX9_bits_10 : decode cX9_bits 10 = .ok (.iload_n 1, 1) := by decide +kernel
theorem dX9_bits_11 : decode cX9_bits 11 = .ok (.iload_n 0, 1) := by decide +kernel
theorem dX9_bits_12 : decode cX9_bits 12 = .ok (.iload_n 2, 1) := by decide +kernel
theorem dX9_bits_13 : decode cX9_bits 13 = .ok (.ishr, 1) := by decide +kernel
theorem dX9_bits_14 : decode cX9_bits 14 = .ok (.iconst 1, 1) := by decide +kernel
theorem dX9_bits_15 : decode cX9_bits 15 = .ok (.iand, 1) := by decide +kernel
theorem dX9_bits_16 : decode cX9_bits 16 = .ok (.iadd, 1) := by decide +kernel
theorem dX9_bits_17 : decode cX9_bits 17 = .ok (.istore_n 1, 1) := by decide +kernel
theorem dX9_bits_18 : decode cX9_bits 18 = .ok (.iinc 2 1, 3) := by decide +kernel
theorem dX9_bits_21 : decode cX9_bits 21 = .ok (.goto (-17), 3) := by decide +kernel
theorem dX9_bits_24 : decode cX9_bits 24 = .ok (.iload_n 1, 1) := by decide +kernel
theorem dX9_bits_25 : decode cX9_bits 25 = .ok (.ireturn, 1) := by decide +kernel
def X9_bits_L4 (x0 : Int32) : Nat → Int32 → Int32 → Option (Int32)
  | 0, _, _ => none
  | n4 + 1, v1, v2 => if (6 : Int32) ≤ v2 then
      some v1
    else
      aLet (v1 + ((x0 >>> (v2 &&& 31)) &&& (1 : Int32))) fun v4 =>
      aLet (v2 + (1 : Int32)) fun v5 =>
      X9_bits_L4 x0 n4 v4 v5
def X9_bits (x0 : Int32) : Option (Int32) :=
  (X9_bits_L4 x0 aFu (0 : Int32) (0 : Int32)).bind fun e6 =>
  some e6
set_option maxRecDepth 100000 in
set_option maxHeartbeats 4000000 in
theorem X9_bits_ok (l : Launch) {h : aH} {nx : Nat} {x0 : Int32} {r : Int32} (hF : X9_bits x0 = some r) : aOk l 0 0 0 yX9_bits cX9_bits 3 (some .int) [.int x0] h nx (aRd (.int r) h nx) := by
  refine aOk.of (by decide +kernel) (Nat.le_of_ble_eq_true rfl) (fun X G hX C R0 _ => ?_)
  subst hX
  show aV X G 3 0 [(0, .int x0)] [] h nx 0 0
  rw [X9_bits] at hF
  refine ab_iconst (v := (0 : Int32)) C dX9_bits_0 (by decide) ?_
  refine ab_istore_n (lv' := [(1, .int (0 : Int32)), (0, .int x0)]) C dX9_bits_1 rfl (by decide) rfl ?_
  refine ab_iconst (v := (0 : Int32)) C dX9_bits_2 (by decide) ?_
  refine ab_istore_n (lv' := [(2, .int (0 : Int32)), (1, .int (0 : Int32)), (0, .int x0)]) C dX9_bits_3 rfl (by decide) rfl ?_
  have L4 : ∀ (n4 : Nat) (v1 : Int32) (v2 : Int32), ∀ (res4 : Int32), X9_bits_L4 x0 n4 v1 v2 = some res4 → (aV X G 3 24 [(1, .int res4)] [] h nx 0 0) → aV X G 3 4 [(0, .int x0), (1, .int v1), (2, .int v2)] [] h nx 0 0 := by
    intro n4
    induction n4 with
    | zero => intro v1 v2 res4 hF KX4; cases (show (none : Option (Int32)) = some res4 from hF)
    | succ n4 ih4 =>
      intro v1 v2 res4 hF KX4
      rw [X9_bits_L4] at hF
      refine ab_iload_n C 2 rfl rfl dX9_bits_4 ?_
      refine ab_bipush (v := (6 : Int32)) C dX9_bits_5 (by decide) ?_
      refine ab_icmp_ge C 24 dX9_bits_7 (by decide) (fun c3 => ?_) (fun c3 => ?_)
      · replace hF := (if_pos c3).symm.trans hF
        obtain rfl := Option.some.inj hF
        refine aV.sub (lv' := [(1, .int v1)]) [1] rfl ?_
        exact KX4
      · replace hF := (if_neg c3).symm.trans hF
        refine ab_iload_n C 1 rfl rfl dX9_bits_10 ?_
        refine ab_iload_n C 0 rfl rfl dX9_bits_11 ?_
        refine ab_iload_n C 2 rfl rfl dX9_bits_12 ?_
        refine ab_ishr C dX9_bits_13 ?_
        refine ab_iconst (v := (1 : Int32)) C dX9_bits_14 (by decide) ?_
        refine ab_iand C dX9_bits_15 ?_
        refine ab_iadd C dX9_bits_16 ?_
        refine ab_topi (fun v4 qv4 => ?_)
        replace hF := aLet_e hF v4 qv4
        refine ab_istore_n (lv' := [(1, .int v4), (0, .int x0), (2, .int v2)]) C dX9_bits_17 rfl (by decide) rfl ?_
        obtain ⟨v5, qv5⟩ : ∃ y : Int32, y = (v2 + (1 : Int32)) := ⟨_, rfl⟩
        replace hF := aLet_e hF v5 qv5
        refine ab_iinc (lv' := [(2, .int v5), (1, .int v4), (0, .int x0)]) C 2 rfl dX9_bits_18 (by rw [qv5]; rfl) (by decide) rfl ?_
        refine ab_goto C 4 dX9_bits_21 (by decide) ?_
        refine aV.sub (lv' := [(0, .int x0), (1, .int v4), (2, .int v5)]) [2, 1, 0] rfl ?_
        exact ih4 v4 v5 res4 hF KX4
  refine aV.sub (lv' := [(0, .int x0), (1, .int (0 : Int32)), (2, .int (0 : Int32))]) [2, 1, 0] rfl ?_
  obtain ⟨e6, he6, hF⟩ := Option.bind_eq_some_iff.mp hF
  refine L4 aFu (0 : Int32) (0 : Int32) e6 he6 ?_
  refine ab_iload_n C 0 rfl rfl dX9_bits_24 ?_
  obtain rfl := Option.some.inj hF
  exact ab_iret C R0 rfl dX9_bits_25 ⟨rfl, rfl, rfl⟩
theorem dX9_isHolder_0 : decode cX9_isHolder 0 = .ok (.iload_n 1, 1) := by decide +kernel
theorem dX9_isHolder_1 : decode cX9_isHolder 1 = .ok (.i2l, 1) := by decide +kernel
theorem dX9_isHolder_2 : decode cX9_isHolder 2 = .ok (.lconst 0, 1) := by decide +kernel
theorem dX9_isHolder_3 : decode cX9_isHolder 3 = .ok (.aload_n 0, 1) := by decide +kernel
theorem dX9_isHolder_4 : decode cX9_isHolder 4 = .ok (.getfield 7, 3) := by decide +kernel
theorem dX9_isHolder_7 : decode cX9_isHolder 7 = .ok (.iconst 0, 1) := by decide +kernel
theorem dX9_isHolder_8 : decode cX9_isHolder 8 = .ok (.iaload, 1) := by decide +kernel
theorem dX9_isHolder_9 : decode cX9_isHolder 9 = .ok (.iconst 1, 1) := by decide +kernel
theorem dX9_isHolder_10 : decode cX9_isHolder 10 = .ok (.isub, 1) := by decide +kernel
theorem dX9_isHolder_11 : decode cX9_isHolder 11 = .ok (.i2l, 1) := by decide +kernel
theorem dX9_isHolder_12 : decode cX9_isHolder 12 = .ok (.invokestatic 69, 3) := by decide +kernel
theorem dX9_isHolder_15 : decode cX9_isHolder 15 = .ok (.ireturn, 1) := by decide +kernel
def X9_isHolder (S0 : Rec) (x1 : Int32) : Option (Int32) :=
  (rdI (S0.2.1 0) 96 (0 : Int32)).bind fun v1 =>
  some (X9_in (x1.toInt64) (0 : Int64) ((v1 - (1 : Int32)).toInt64))
set_option maxRecDepth 100000 in
set_option maxHeartbeats 4000000 in
theorem X9_isHolder_ok (l : Launch) {h : aH} {nx : Nat} {a0 : Nat} {S0 : Rec} {x1 : Int32} (hB0 : X9_at h a0 S0) {r : Int32} (hF : X9_isHolder S0 x1 = some r) : aOk l 1 0 0 yX9_isHolder cX9_isHolder 2 (some .boolean) [.ref a0, .int x1] h nx (aRd (.int r) h nx) := by
  refine aOk.of (by decide +kernel) (Nat.le_of_ble_eq_true rfl) (fun X G hX C R0 _ => ?_)
  subst hX
  show aV X G 2 0 [(0, .ref a0), (1, .int x1)] [] h nx 0 0
  rw [X9_isHolder] at hF
  refine ab_iload_n C 1 rfl rfl dX9_isHolder_0 ?_
  refine ab_i2l C dX9_isHolder_1 ?_
  refine ab_lconst (v := (0 : Int64)) C dX9_isHolder_2 (by decide) ?_
  refine ab_aload_n C 0 rfl rfl dX9_isHolder_3 ?_
  refine ab_g9 (v := .ref (a0 + 1)) C lf_X9_7 hB0.1 rfl dX9_isHolder_4 ?_
  refine ab_iconst (v := (0 : Int32)) C dX9_isHolder_7 (by decide) ?_
  obtain ⟨v1, hxv1, hF⟩ := Option.bind_eq_some_iff.mp hF
  refine ab_iald C (X9_r0 hB0) hxv1 dX9_isHolder_8 ?_
  refine ab_iconst (v := (1 : Int32)) C dX9_isHolder_9 (by decide) ?_
  refine ab_isub C dX9_isHolder_10 ?_
  refine ab_i2l C dX9_isHolder_11 ?_
  refine ab_cSR (v := .int (X9_in (x1.toInt64) (0 : Int64) ((v1 - (1 : Int32)).toInt64))) (st := []) C lm_X9_69 (X9_in_ok (xl X) (r := (X9_in (x1.toInt64) (0 : Int64) ((v1 - (1 : Int32)).toInt64))) rfl) rfl rfl (by decide) ⟨Nat.zero_le _, Nat.zero_le _⟩ (Nat.le_of_ble_eq_true rfl) dX9_isHolder_12 ?_
  obtain rfl := Option.some.inj hF
  exact ab_iret C R0 X9_in_n dX9_isHolder_15 ⟨rfl, rfl, rfl⟩
theorem dX9_isWord_0 : decode cX9_isWord 0 = .ok (.iload_n 1, 1) := by decide +kernel
theorem dX9_isWord_1 : decode cX9_isWord 1 = .ok (.i2l, 1) := by decide +kernel
theorem dX9_isWord_2 : decode cX9_isWord 2 = .ok (.lconst 0, 1) := by decide +kernel
theorem dX9_isWord_3 : decode cX9_isWord 3 = .ok (.aload_n 0, 1) := by decide +kernel
theorem dX9_isWord_4 : decode cX9_isWord 4 = .ok (.getfield 7, 3) := by decide +kernel
theorem dX9_isWord_7 : decode cX9_isWord 7 = .ok (.iconst 4, 1) := by decide +kernel
theorem dX9_isWord_8 : decode cX9_isWord 8 = .ok (.iaload, 1) := by decide +kernel
theorem dX9_isWord_9 : decode cX9_isWord 9 = .ok (.iconst 1, 1) := by decide +kernel
theorem dX9_isWord_10 : decode cX9_isWord 10 = .ok (.isub, 1) := by decide +kernel
theorem dX9_isWord_11 : decode cX9_isWord 11 = .ok (.i2l, 1) := by decide +kernel
theorem dX9_isWord_12 : decode cX9_isWord 12 = .ok (.invokestatic 69, 3) := by decide +kernel
theorem dX9_isWord_15 : decode cX9_isWord 15 = .ok (.ireturn, 1) := by decide +kernel
def X9_isWord (S0 : Rec) (x1 : Int32) : Option (Int32) :=
  (rdI (S0.2.1 0) 96 (4 : Int32)).bind fun v1 =>
  some (X9_in (x1.toInt64) (0 : Int64) ((v1 - (1 : Int32)).toInt64))
set_option maxRecDepth 100000 in
set_option maxHeartbeats 4000000 in
theorem X9_isWord_ok (l : Launch) {h : aH} {nx : Nat} {a0 : Nat} {S0 : Rec} {x1 : Int32} (hB0 : X9_at h a0 S0) {r : Int32} (hF : X9_isWord S0 x1 = some r) : aOk l 1 0 0 yX9_isWord cX9_isWord 2 (some .boolean) [.ref a0, .int x1] h nx (aRd (.int r) h nx) := by
  refine aOk.of (by decide +kernel) (Nat.le_of_ble_eq_true rfl) (fun X G hX C R0 _ => ?_)
  subst hX
  show aV X G 2 0 [(0, .ref a0), (1, .int x1)] [] h nx 0 0
  rw [X9_isWord] at hF
  refine ab_iload_n C 1 rfl rfl dX9_isWord_0 ?_
  refine ab_i2l C dX9_isWord_1 ?_
  refine ab_lconst (v := (0 : Int64)) C dX9_isWord_2 (by decide) ?_
  refine ab_aload_n C 0 rfl rfl dX9_isWord_3 ?_
  refine ab_g9 (v := .ref (a0 + 1)) C lf_X9_7 hB0.1 rfl dX9_isWord_4 ?_
  refine ab_iconst (v := (4 : Int32)) C dX9_isWord_7 (by decide) ?_
  obtain ⟨v1, hxv1, hF⟩ := Option.bind_eq_some_iff.mp hF
  refine ab_iald C (X9_r0 hB0) hxv1 dX9_isWord_8 ?_
  refine ab_iconst (v := (1 : Int32)) C dX9_isWord_9 (by decide) ?_
  refine ab_isub C dX9_isWord_10 ?_
  refine ab_i2l C dX9_isWord_11 ?_
  refine ab_cSR (v := .int (X9_in (x1.toInt64) (0 : Int64) ((v1 - (1 : Int32)).toInt64))) (st := []) C lm_X9_69 (X9_in_ok (xl X) (r := (X9_in (x1.toInt64) (0 : Int64) ((v1 - (1 : Int32)).toInt64))) rfl) rfl rfl (by decide) ⟨Nat.zero_le _, Nat.zero_le _⟩ (Nat.le_of_ble_eq_true rfl) dX9_isWord_12 ?_
  obtain rfl := Option.some.inj hF
  exact ab_iret C R0 X9_in_n dX9_isWord_15 ⟨rfl, rfl, rfl⟩
theorem dX9_isCell_0 : decode cX9_isCell 0 = .ok (.iload_n 1, 1) := by decide +kernel
theorem dX9_isCell_1 : decode cX9_isCell 1 = .ok (.ifCond .lt 33, 3) := by decide +kernel
theorem dX9_isCell_4 : decode cX9_isCell 4 = .ok (.iload_n 1, 1) := by decide +kernel
theorem dX9_isCell_5 : decode cX9_isCell 5 = .ok (.bipush 8, 2) := by decide +kernel
theorem dX9_isCell_7 : decode cX9_isCell 7 = .ok (.idiv, 1) := by decide +kernel
theorem dX9_isCell_8 : decode cX9_isCell 8 = .ok (.aload_n 0, 1) := by decide +kernel
theorem dX9_isCell_9 : decode cX9_isCell 9 = .ok (.getfield 7, 3) := by decide +kernel
theorem dX9_isCell_12 : decode cX9_isCell 12 = .ok (.iconst 2, 1) := by decide +kernel
theorem dX9_isCell_13 : decode cX9_isCell 13 = .ok (.iaload, 1) := by decide +kernel
theorem dX9_isCell_14 : decode cX9_isCell 14 = .ok (.if_icmp .ge 20, 3) := by decide +kernel
theorem dX9_isCell_17 : decode cX9_isCell 17 = .ok (.iload_n 1, 1) := by decide +kernel
theorem dX9_isCell_18 : decode cX9_isCell 18 = .ok (.bipush 8, 2) := by decide +kernel
theorem dX9_isCell_20 : decode cX9_isCell 20 = .ok (.irem, 1) := by decide +kernel
theorem dX9_isCell_21 : decode cX9_isCell 21 = .ok (.aload_n 0, 1) := by decide +kernel
theorem dX9_isCell_22 : decode cX9_isCell 22 = .ok (.getfield 7, 3) := by decide +kernel
theorem dX9_isCell_25 : decode cX9_isCell 25 = .ok (.iconst 1, 1) := by decide +kernel
theorem dX9_isCell_26 : decode cX9_isCell 26 = .ok (.iaload, 1) := by decide +kernel
theorem dX9_isCell_27 : decode cX9_isCell 27 = .ok (.if_icmp .ge 7, 3) := by decide +kernel
theorem dX9_isCell_30 : decode cX9_isCell 30 = .ok (.iconst 1, 1) := by decide +kernel
theorem dX9_isCell_31 : decode cX9_isCell 31 = .ok (.goto 4, 3) := by decide +kernel
theorem dX9_isCell_34 : decode cX9_isCell 34 = .ok (.iconst 0, 1) := by decide +kernel
theorem dX9_isCell_35 : decode cX9_isCell 35 = .ok (.ireturn, 1) := by decide +kernel
def X9_isCell (S0 : Rec) (x1 : Int32) : Option (Int32) :=
  if x1 < 0 then
    some (0 : Int32)
  else
    (rdI (S0.2.1 0) 96 (2 : Int32)).bind fun v2 =>
    if v2 ≤ (x1 / (8 : Int32)) then
      some (0 : Int32)
    else
      (rdI (S0.2.1 0) 96 (1 : Int32)).bind fun v4 =>
      if v4 ≤ (x1 - x1 / (8 : Int32) * (8 : Int32)) then
        some (0 : Int32)
      else
        some (1 : Int32)
set_option maxRecDepth 100000 in
set_option maxHeartbeats 4000000 in
theorem X9_isCell_ok (l : Launch) {h : aH} {nx : Nat} {a0 : Nat} {S0 : Rec} {x1 : Int32} (hB0 : X9_at h a0 S0) {r : Int32} (hF : X9_isCell S0 x1 = some r) : aOk l 0 0 0 yX9_isCell cX9_isCell 2 (some .boolean) [.ref a0, .int x1] h nx (aRd (.int r) h nx) := by
  refine aOk.of (by decide +kernel) (Nat.le_of_ble_eq_true rfl) (fun X G hX C R0 _ => ?_)
  subst hX
  show aV X G 2 0 [(0, .ref a0), (1, .int x1)] [] h nx 0 0
  rw [X9_isCell] at hF
  refine ab_iload_n C 1 rfl rfl dX9_isCell_0 ?_
  refine ab_if_lt C 34 dX9_isCell_1 (by decide) (fun c1 => ?_) (fun c1 => ?_)
  · replace hF := (if_pos c1).symm.trans hF
    refine ab_iconst (v := (0 : Int32)) C dX9_isCell_34 (by decide) ?_
    obtain rfl := Option.some.inj hF
    exact ab_iret C R0 rfl dX9_isCell_35 ⟨rfl, rfl, rfl⟩
  · replace hF := (if_neg c1).symm.trans hF
    refine ab_iload_n C 1 rfl rfl dX9_isCell_4 ?_
    refine ab_bipush (v := (8 : Int32)) C dX9_isCell_5 (by decide) ?_
    refine ab_idiv C (by decide) dX9_isCell_7 ?_
    refine ab_aload_n C 0 rfl rfl dX9_isCell_8 ?_
    refine ab_g9 (v := .ref (a0 + 1)) C lf_X9_7 hB0.1 rfl dX9_isCell_9 ?_
    refine ab_iconst (v := (2 : Int32)) C dX9_isCell_12 (by decide) ?_
    obtain ⟨v2, hxv2, hF⟩ := Option.bind_eq_some_iff.mp hF
    refine ab_iald C (X9_r0 hB0) hxv2 dX9_isCell_13 ?_
    refine ab_icmp_ge C 34 dX9_isCell_14 (by decide) (fun c3 => ?_) (fun c3 => ?_)
    · replace hF := (if_pos c3).symm.trans hF
      refine ab_iconst (v := (0 : Int32)) C dX9_isCell_34 (by decide) ?_
      obtain rfl := Option.some.inj hF
      exact ab_iret C R0 rfl dX9_isCell_35 ⟨rfl, rfl, rfl⟩
    · replace hF := (if_neg c3).symm.trans hF
      refine ab_iload_n C 1 rfl rfl dX9_isCell_17 ?_
      refine ab_bipush (v := (8 : Int32)) C dX9_isCell_18 (by decide) ?_
      refine ab_irem C (by decide) dX9_isCell_20 ?_
      refine ab_aload_n C 0 rfl rfl dX9_isCell_21 ?_
      refine ab_g9 (v := .ref (a0 + 1)) C lf_X9_7 hB0.1 rfl dX9_isCell_22 ?_
      refine ab_iconst (v := (1 : Int32)) C dX9_isCell_25 (by decide) ?_
      obtain ⟨v4, hxv4, hF⟩ := Option.bind_eq_some_iff.mp hF
      refine ab_iald C (X9_r0 hB0) hxv4 dX9_isCell_26 ?_
      refine ab_icmp_ge C 34 dX9_isCell_27 (by decide) (fun c5 => ?_) (fun c5 => ?_)
      · replace hF := (if_pos c5).symm.trans hF
        refine ab_iconst (v := (0 : Int32)) C dX9_isCell_34 (by decide) ?_
        obtain rfl := Option.some.inj hF
        exact ab_iret C R0 rfl dX9_isCell_35 ⟨rfl, rfl, rfl⟩
      · replace hF := (if_neg c5).symm.trans hF
        refine ab_iconst (v := (1 : Int32)) C dX9_isCell_30 (by decide) ?_
        refine ab_goto C 35 dX9_isCell_31 (by decide) ?_
        obtain rfl := Option.some.inj hF
        exact ab_iret C R0 rfl dX9_isCell_35 ⟨rfl, rfl, rfl⟩
theorem dX9_isThere_0 : decode cX9_isThere 0 = .ok (.aload_n 0, 1) := by decide +kernel
theorem dX9_isThere_1 : decode cX9_isThere 1 = .ok (.getfield 7, 3) := by decide +kernel
theorem dX9_isThere_4 : decode cX9_isThere 4 = .ok (.iconst 0, 1) := by decide +kernel
theorem dX9_isThere_5 : decode cX9_isThere 5 = .ok (.iaload, 1) := by decide +kernel
theorem dX9_isThere_6 : decode cX9_isThere 6 = .ok (.ifCond .le 7, 3) := by decide +kernel
theorem dX9_isThere_9 : decode cX9_isThere 9 = .ok (.iconst 1, 1) := by decide +kernel
theorem dX9_isThere_10 : decode cX9_isThere 10 = .ok (.goto 4, 3) := by decide +kernel
theorem dX9_isThere_13 : decode cX9_isThere 13 = .ok (.iconst 0, 1) := by decide +kernel
theorem dX9_isThere_14 : decode cX9_isThere 14 = .ok (.ireturn, 1) := by decide +kernel
def X9_isThere (S0 : Rec) : Option (Int32) :=
  (rdI (S0.2.1 0) 96 (0 : Int32)).bind fun v1 =>
  if v1 ≤ 0 then
    some (0 : Int32)
  else
    some (1 : Int32)
set_option maxRecDepth 100000 in
set_option maxHeartbeats 4000000 in
theorem X9_isThere_ok (l : Launch) {h : aH} {nx : Nat} {a0 : Nat} {S0 : Rec} (hB0 : X9_at h a0 S0) {r : Int32} (hF : X9_isThere S0 = some r) : aOk l 0 0 0 yX9_isThere cX9_isThere 1 (some .boolean) [.ref a0] h nx (aRd (.int r) h nx) := by
  refine aOk.of (by decide +kernel) (Nat.le_of_ble_eq_true rfl) (fun X G hX C R0 _ => ?_)
  subst hX
  show aV X G 1 0 [(0, .ref a0)] [] h nx 0 0
  rw [X9_isThere] at hF
  refine ab_aload_n C 0 rfl rfl dX9_isThere_0 ?_
  refine ab_g9 (v := .ref (a0 + 1)) C lf_X9_7 hB0.1 rfl dX9_isThere_1 ?_
  refine ab_iconst (v := (0 : Int32)) C dX9_isThere_4 (by decide) ?_
  obtain ⟨v1, hxv1, hF⟩ := Option.bind_eq_some_iff.mp hF
  refine ab_iald C (X9_r0 hB0) hxv1 dX9_isThere_5 ?_
  refine ab_if_le C 13 dX9_isThere_6 (by decide) (fun c2 => ?_) (fun c2 => ?_)
  · replace hF := (if_pos c2).symm.trans hF
    refine ab_iconst (v := (0 : Int32)) C dX9_isThere_13 (by decide) ?_
    obtain rfl := Option.some.inj hF
    exact ab_iret C R0 rfl dX9_isThere_14 ⟨rfl, rfl, rfl⟩
  · replace hF := (if_neg c2).symm.trans hF
    refine ab_iconst (v := (1 : Int32)) C dX9_isThere_9 (by decide) ?_
    refine ab_goto C 14 dX9_isThere_10 (by decide) ?_
    obtain rfl := Option.some.inj hF
    exact ab_iret C R0 rfl dX9_isThere_14 ⟨rfl, rfl, rfl⟩
theorem dX9_feed_0 : decode cX9_feed 0 = .ok (.iload_n 1, 1) := by decide +kernel
theorem dX9_feed_1 : decode cX9_feed 1 = .ok (.i2l, 1) := by decide +kernel
theorem dX9_feed_2 : decode cX9_feed 2 = .ok (.lconst 0, 1) := by decide +kernel
theorem dX9_feed_3 : decode cX9_feed 3 = .ok (.ldc2_w 73, 3) := by decide +kernel
theorem dX9_feed_6 : decode cX9_feed 6 = .ok (.invokestatic 69, 3) := by decide +kernel
theorem dX9_feed_9 : decode cX9_feed 9 = .ok (.ifCond .ne 5, 3) := by decide +kernel
theorem dX9_feed_12 : decode cX9_feed 12 = .ok (.iconst (-1), 1) := by decide +kernel
theorem dX9_feed_13 : decode cX9_feed 13 = .ok (.ireturn, 1) := by decide +kernel
theorem dX9_feed_14 : decode cX9_feed 14 = .ok (.aload_n 0, 1) := by decide +kernel
theorem dX9_feed_15 : decode cX9_feed 15 = .ok (.getfield 75, 3) := by decide +kernel
theorem dX9_feed_18 : decode cX9_feed 18 = .ok (.sipush 130, 3) := by decide +kernel
theorem dX9_feed_21 : decode cX9_feed 21 = .ok (.if_icmp .ne 6, 3) := by decide +kernel
theorem dX9_feed_24 : decode cX9_feed 24 = .ok (.bipush (-3), 2) := by decide +kernel
theorem dX9_feed_26 : decode cX9_feed 26 = .ok (.ireturn, 1) := by decide +kernel
theorem dX9_feed_27 : decode cX9_feed 27 = .ok (.aload_n 0, 1) := by decide +kernel
theorem dX9_feed_28 : decode cX9_feed 28 = .ok (.getfield 22, 3) := by decide +kernel
theorem dX9_feed_31 : decode cX9_feed 31 = .ok (.aload_n 0, 1) := by decide +kernel
theorem dX9_feed_32 : decode cX9_feed 32 = .ok (.getfield 75, 3) := by decide +kernel
theorem dX9_feed_35 : decode cX9_feed 35 = .ok (.iload_n 1, 1) := by decide +kernel
theorem dX9_feed_36 : decode cX9_feed 36 = .ok (.iastore, 1) := by decide +kernel
theorem dX9_feed_37 : decode cX9_feed 37 = .ok (.aload_n 0, 1) := by decide +kernel
theorem dX9_feed_38 : decode cX9_feed 38 = .ok (.dup, 1) := by decide +kernel
theorem dX9_feed_39 : decode cX9_feed 39 = .ok (.getfield 75, 3) := by decide +kernel
theorem dX9_feed_42 : decode cX9_feed 42 = .ok (.iconst 1, 1) := by decide +kernel
theorem dX9_feed_43 : decode cX9_feed 43 = .ok (.iadd, 1) := by decide +kernel
theorem dX9_feed_44 : decode cX9_feed 44 = .ok (.putfield 75, 3) := by decide +kernel
theorem dX9_feed_47 : decode cX9_feed 47 = .ok (.aload_n 0, 1) := by decide +kernel
theorem dX9_feed_48 : decode cX9_feed 48 = .ok (.getfield 75, 3) := by decide +kernel
theorem dX9_feed_51 : decode cX9_feed 51 = .ok (.ireturn, 1) := by decide +kernel
def X9_feed (S0 : Rec) (x1 : Int32) : Option (Int32 × Rec) :=
  if (X9_in (x1.toInt64) (0 : Int64) (255 : Int64)) = 0 then
    some ((-1 : Int32), S0)
  else
    if (S0.1 6) = (130 : Int32) then
      some ((-3 : Int32), S0)
    else
      (wrI (S0.2.1 5) 130 (S0.1 6) x1).bind fun w3 =>
      some (((sI (sA S0 5 w3) 6 (((sA S0 5 w3).1 6) + (1 : Int32))).1 6), (sI (sA S0 5 w3) 6 (((sA S0 5 w3).1 6) + (1 : Int32))))
set_option maxRecDepth 100000 in
set_option maxHeartbeats 4000000 in
theorem X9_feed_ok (l : Launch) {h : aH} {nx : Nat} {a0 : Nat} {S0 : Rec} {x1 : Int32} (hB0 : X9_at h a0 S0) {r : Int32 × Rec} (hF : X9_feed S0 x1 = some r) : aOk l 1 0 0 yX9_feed cX9_feed 2 (some .int) [.ref a0, .int x1] h nx (aMt (some (.int r.1)) nx (fun h1 => X9_at h1 a0 r.2 ∧ (∀ q, (q < a0 ∨ a0 + 20 ≤ q) → h1 q = h q))) := by
  refine aOk.of (by decide +kernel) (Nat.le_of_ble_eq_true rfl) (fun X G hX C R0 _ => ?_)
  subst hX
  show aV X G 2 0 [(0, .ref a0), (1, .int x1)] [] h nx 0 0
  have hFr : ∀ q, (q < a0 ∨ a0 + 20 ≤ q) → h q = h q := fun _ _ => rfl
  rw [X9_feed] at hF
  refine ab_iload_n C 1 rfl rfl dX9_feed_0 ?_
  refine ab_i2l C dX9_feed_1 ?_
  refine ab_lconst (v := (0 : Int64)) C dX9_feed_2 (by decide) ?_
  refine ab_ldc2 (v := (255 : Int64)) C dX9_feed_3 lq_X9_73 ?_
  refine ab_cSR (v := .int (X9_in (x1.toInt64) (0 : Int64) (255 : Int64))) (st := []) C lm_X9_69 (X9_in_ok (xl X) (r := (X9_in (x1.toInt64) (0 : Int64) (255 : Int64))) rfl) rfl rfl (by decide) ⟨Nat.zero_le _, Nat.zero_le _⟩ (Nat.le_of_ble_eq_true rfl) dX9_feed_6 ?_
  refine ab_if_ne C 14 dX9_feed_9 (by decide) (fun c1 => ?_) (fun c1 => ?_)
  · replace hF := (if_neg c1).symm.trans hF
    refine ab_aload_n C 0 rfl rfl dX9_feed_14 ?_
    refine ab_g9 (v := .int (S0.1 6)) C lf_X9_75 hB0.1 rfl dX9_feed_15 ?_
    refine ab_sipush (v := (130 : Int32)) C dX9_feed_18 (by decide) ?_
    refine ab_icmp_ne C 27 dX9_feed_21 (by decide) (fun c2 => ?_) (fun c2 => ?_)
    · replace hF := (if_neg c2).symm.trans hF
      refine ab_aload_n C 0 rfl rfl dX9_feed_27 ?_
      refine ab_g9 (v := .ref (a0 + 5)) C lf_X9_22 hB0.1 rfl dX9_feed_28 ?_
      refine ab_aload_n C 0 rfl rfl dX9_feed_31 ?_
      refine ab_g9 (v := .int (S0.1 6)) C lf_X9_75 hB0.1 rfl dX9_feed_32 ?_
      refine ab_iload_n C 1 rfl rfl dX9_feed_35 ?_
      obtain ⟨w3, hxw3, hF⟩ := Option.bind_eq_some_iff.mp hF
      refine ab_iast C (X9_r5 hB0) hxw3 dX9_feed_36 (fun g4 eg4 og4 => ?_)
      have hB0 : X9_at g4 a0 (sA S0 5 w3) := X9_w5 hB0 eg4 og4
      have hFr : ∀ q, (q < a0 ∨ a0 + 20 ≤ q) → g4 q = h q := fun q u0 => (og4 q (by omega)).trans (hFr q u0)
      refine ab_aload_n C 0 rfl rfl dX9_feed_37 ?_
      refine ab_dup C rfl dX9_feed_38 ?_
      refine ab_g9 (v := .int ((sA S0 5 w3).1 6)) C lf_X9_75 hB0.1 rfl dX9_feed_39 ?_
      refine ab_iconst (v := (1 : Int32)) C dX9_feed_42 (by decide) ?_
      refine ab_iadd C dX9_feed_43 ?_
      refine ab_p9 (ty := .int) C lf_X9_75 rfl (by decide +kernel) rfl rfl (Nat.le_of_ble_eq_true rfl) hB0.1 dX9_feed_44 (fun g5 eg5 og5 => ?_)
      have hB0 : X9_at g5 a0 (sI (sA S0 5 w3) 6 (((sA S0 5 w3).1 6) + (1 : Int32))) := X9_p6 hB0 eg5 og5
      have hFr : ∀ q, (q < a0 ∨ a0 + 20 ≤ q) → g5 q = h q := fun q u0 => (og5 q (by omega)).trans (hFr q u0)
      refine ab_aload_n C 0 rfl rfl dX9_feed_47 ?_
      refine ab_g9 (v := .int ((sI (sA S0 5 w3) 6 (((sA S0 5 w3).1 6) + (1 : Int32))).1 6)) C lf_X9_75 hB0.1 rfl dX9_feed_48 ?_
      obtain rfl := Option.some.inj hF
      exact ab_iret C R0 rfl dX9_feed_51 ⟨rfl, rfl, hB0, hFr⟩
    · replace hF := (if_pos c2).symm.trans hF
      refine ab_bipush (v := (-3 : Int32)) C dX9_feed_24 (by decide) ?_
      obtain rfl := Option.some.inj hF
      exact ab_iret C R0 rfl dX9_feed_26 ⟨rfl, rfl, hB0, hFr⟩
  · replace hF := (if_pos c1).symm.trans hF
    refine ab_iconst (v := (-1 : Int32)) C dX9_feed_12 (by decide) ?_
    obtain rfl := Option.some.inj hF
    exact ab_iret C R0 rfl dX9_feed_13 ⟨rfl, rfl, hB0, hFr⟩
theorem dX9_vowelBy_0 : decode cX9_vowelBy 0 = .ok (.iload_n 0, 1) := by decide +kernel
theorem dX9_vowelBy_1 : decode cX9_vowelBy 1 = .ok (.bipush 97, 2) := by decide +kernel
theorem dX9_vowelBy_3 : decode cX9_vowelBy 3 = .ok (.if_icmp .ne 7, 3) := by decide +kernel
theorem dX9_vowelBy_6 : decode cX9_vowelBy 6 = .ok (.iconst 0, 1) := by decide +kernel
theorem dX9_vowelBy_7 : decode cX9_vowelBy 7 = .ok (.goto 45, 3) := by decide +kernel
theorem dX9_vowelBy_10 : decode cX9_vowelBy 10 = .ok (.iload_n 0, 1) := by decide +kernel
theorem dX9_vowelBy_11 : decode cX9_vowelBy 11 = .ok (.bipush 101, 2) := by decide +kernel
theorem dX9_vowelBy_13 : decode cX9_vowelBy 13 = .ok (.if_icmp .ne 7, 3) := by decide +kernel
theorem dX9_vowelBy_16 : decode cX9_vowelBy 16 = .ok (.iconst 1, 1) := by decide +kernel
theorem dX9_vowelBy_17 : decode cX9_vowelBy 17 = .ok (.goto 35, 3) := by decide +kernel
theorem dX9_vowelBy_20 : decode cX9_vowelBy 20 = .ok (.iload_n 0, 1) := by decide +kernel
theorem dX9_vowelBy_21 : decode cX9_vowelBy 21 = .ok (.bipush 105, 2) := by decide +kernel
theorem dX9_vowelBy_23 : decode cX9_vowelBy 23 = .ok (.if_icmp .ne 7, 3) := by decide +kernel
theorem dX9_vowelBy_26 : decode cX9_vowelBy 26 = .ok (.iconst 2, 1) := by decide +kernel
theorem dX9_vowelBy_27 : decode cX9_vowelBy 27 = .ok (.goto 25, 3) := by decide +kernel
theorem dX9_vowelBy_30 : decode cX9_vowelBy 30 = .ok (.iload_n 0, 1) := by decide +kernel
theorem dX9_vowelBy_31 : decode cX9_vowelBy 31 = .ok (.bipush 111, 2) := by decide +kernel
theorem dX9_vowelBy_33 : decode cX9_vowelBy 33 = .ok (.if_icmp .ne 7, 3) := by decide +kernel
theorem dX9_vowelBy_36 : decode cX9_vowelBy 36 = .ok (.iconst 3, 1) := by decide +kernel
theorem dX9_vowelBy_37 : decode cX9_vowelBy 37 = .ok (.goto 15, 3) := by decide +kernel
theorem dX9_vowelBy_40 : decode cX9_vowelBy 40 = .ok (.iload_n 0, 1) := by decide +kernel
theorem dX9_vowelBy_41 : decode cX9_vowelBy 41 = .ok (.bipush 117, 2) := by decide +kernel
theorem dX9_vowelBy_43 : decode cX9_vowelBy 43 = .ok (.if_icmp .ne 7, 3) := by decide +kernel
theorem dX9_vowelBy_46 : decode cX9_vowelBy 46 = .ok (.iconst 4, 1) := by decide +kernel
theorem dX9_vowelBy_47 : decode cX9_vowelBy 47 = .ok (.goto 5, 3) := by decide +kernel
theorem dX9_vowelBy_50 : decode cX9_vowelBy 50 = .ok (.bipush (-4), 2) := by decide +kernel
theorem dX9_vowelBy_52 : decode cX9_vowelBy 52 = .ok (.ireturn, 1) := by decide +kernel
def X9_vowelBy (x0 : Int32) : Int32 :=
  if x0 = (97 : Int32) then
    (0 : Int32)
  else
    if x0 = (101 : Int32) then
      (1 : Int32)
    else
      if x0 = (105 : Int32) then
        (2 : Int32)
      else
        if x0 = (111 : Int32) then
          (3 : Int32)
        else
          if x0 = (117 : Int32) then
            (4 : Int32)
          else
            (-4 : Int32)
set_option maxRecDepth 100000 in
set_option maxHeartbeats 4000000 in
theorem X9_vowelBy_ok (l : Launch) {h : aH} {nx : Nat} {x0 : Int32} {r : Int32} (hF : X9_vowelBy x0 = r) : aOk l 0 0 0 yX9_vowelBy cX9_vowelBy 1 (some .int) [.int x0] h nx (aRd (.int r) h nx) := by
  refine aOk.of (by decide +kernel) (Nat.le_of_ble_eq_true rfl) (fun X G hX C R0 _ => ?_)
  subst hX
  show aV X G 1 0 [(0, .int x0)] [] h nx 0 0
  rw [X9_vowelBy] at hF
  refine ab_iload_n C 0 rfl rfl dX9_vowelBy_0 ?_
  refine ab_bipush (v := (97 : Int32)) C dX9_vowelBy_1 (by decide) ?_
  refine ab_icmp_ne C 10 dX9_vowelBy_3 (by decide) (fun c1 => ?_) (fun c1 => ?_)
  · replace hF := (if_neg c1).symm.trans hF
    refine ab_iload_n C 0 rfl rfl dX9_vowelBy_10 ?_
    refine ab_bipush (v := (101 : Int32)) C dX9_vowelBy_11 (by decide) ?_
    refine ab_icmp_ne C 20 dX9_vowelBy_13 (by decide) (fun c2 => ?_) (fun c2 => ?_)
    · replace hF := (if_neg c2).symm.trans hF
      refine ab_iload_n C 0 rfl rfl dX9_vowelBy_20 ?_
      refine ab_bipush (v := (105 : Int32)) C dX9_vowelBy_21 (by decide) ?_
      refine ab_icmp_ne C 30 dX9_vowelBy_23 (by decide) (fun c3 => ?_) (fun c3 => ?_)
      · replace hF := (if_neg c3).symm.trans hF
        refine ab_iload_n C 0 rfl rfl dX9_vowelBy_30 ?_
        refine ab_bipush (v := (111 : Int32)) C dX9_vowelBy_31 (by decide) ?_
        refine ab_icmp_ne C 40 dX9_vowelBy_33 (by decide) (fun c4 => ?_) (fun c4 => ?_)
        · replace hF := (if_neg c4).symm.trans hF
          refine ab_iload_n C 0 rfl rfl dX9_vowelBy_40 ?_
          refine ab_bipush (v := (117 : Int32)) C dX9_vowelBy_41 (by decide) ?_
          refine ab_icmp_ne C 50 dX9_vowelBy_43 (by decide) (fun c5 => ?_) (fun c5 => ?_)
          · replace hF := (if_neg c5).symm.trans hF
            refine ab_bipush (v := (-4 : Int32)) C dX9_vowelBy_50 (by decide) ?_
            obtain rfl := hF
            exact ab_iret C R0 rfl dX9_vowelBy_52 ⟨rfl, rfl, rfl⟩
          · replace hF := (if_pos c5).symm.trans hF
            refine ab_iconst (v := (4 : Int32)) C dX9_vowelBy_46 (by decide) ?_
            refine ab_goto C 52 dX9_vowelBy_47 (by decide) ?_
            obtain rfl := hF
            exact ab_iret C R0 rfl dX9_vowelBy_52 ⟨rfl, rfl, rfl⟩
        · replace hF := (if_pos c4).symm.trans hF
          refine ab_iconst (v := (3 : Int32)) C dX9_vowelBy_36 (by decide) ?_
          refine ab_goto C 52 dX9_vowelBy_37 (by decide) ?_
          obtain rfl := hF
          exact ab_iret C R0 rfl dX9_vowelBy_52 ⟨rfl, rfl, rfl⟩
      · replace hF := (if_pos c3).symm.trans hF
        refine ab_iconst (v := (2 : Int32)) C dX9_vowelBy_26 (by decide) ?_
        refine ab_goto C 52 dX9_vowelBy_27 (by decide) ?_
        obtain rfl := hF
        exact ab_iret C R0 rfl dX9_vowelBy_52 ⟨rfl, rfl, rfl⟩
    · replace hF := (if_pos c2).symm.trans hF
      refine ab_iconst (v := (1 : Int32)) C dX9_vowelBy_16 (by decide) ?_
      refine ab_goto C 52 dX9_vowelBy_17 (by decide) ?_
      obtain rfl := hF
      exact ab_iret C R0 rfl dX9_vowelBy_52 ⟨rfl, rfl, rfl⟩
  · replace hF := (if_pos c1).symm.trans hF
    refine ab_iconst (v := (0 : Int32)) C dX9_vowelBy_6 (by decide) ?_
    refine ab_goto C 52 dX9_vowelBy_7 (by decide) ?_
    obtain rfl := hF
    exact ab_iret C R0 rfl dX9_vowelBy_52 ⟨rfl, rfl, rfl⟩
theorem dX9_soundBy_0 : decode cX9_soundBy 0 = .ok (.iload_n 0, 1) := by decide +kernel
theorem dX9_soundBy_1 : decode cX9_soundBy 1 = .ok (.bipush 45, 2) := by decide +kernel
theorem dX9_soundBy_3 : decode cX9_soundBy 3 = .ok (.if_icmp .ne 7, 3) := by decide +kernel
theorem dX9_soundBy_6 : decode cX9_soundBy 6 = .ok (.iconst 5, 1) := by decide +kernel
theorem dX9_soundBy_7 : decode cX9_soundBy 7 = .ok (.goto 7, 3) := by decide +kernel
theorem dX9_soundBy_10 : decode cX9_soundBy 10 = .ok (.iload_n 0, 1) := by decide +kernel
theorem dX9_soundBy_11 : decode cX9_soundBy 11 = .ok (.invokestatic 79, 3) := by decide +kernel
theorem dX9_soundBy_14 : decode cX9_soundBy 14 = .ok (.ireturn, 1) := by decide +kernel
def X9_soundBy (x0 : Int32) : Int32 :=
  if x0 = (45 : Int32) then
    (5 : Int32)
  else
    (X9_vowelBy x0)
set_option maxRecDepth 100000 in
set_option maxHeartbeats 4000000 in
theorem X9_soundBy_ok (l : Launch) {h : aH} {nx : Nat} {x0 : Int32} {r : Int32} (hF : X9_soundBy x0 = r) : aOk l 1 0 0 yX9_soundBy cX9_soundBy 1 (some .int) [.int x0] h nx (aRd (.int r) h nx) := by
  refine aOk.of (by decide +kernel) (Nat.le_of_ble_eq_true rfl) (fun X G hX C R0 _ => ?_)
  subst hX
  show aV X G 1 0 [(0, .int x0)] [] h nx 0 0
  rw [X9_soundBy] at hF
  refine ab_iload_n C 0 rfl rfl dX9_soundBy_0 ?_
  refine ab_bipush (v := (45 : Int32)) C dX9_soundBy_1 (by decide) ?_
  refine ab_icmp_ne C 10 dX9_soundBy_3 (by decide) (fun c1 => ?_) (fun c1 => ?_)
  · replace hF := (if_neg c1).symm.trans hF
    refine ab_iload_n C 0 rfl rfl dX9_soundBy_10 ?_
    refine ab_cSR (v := .int (X9_vowelBy x0)) (st := []) C lm_X9_79 (X9_vowelBy_ok (xl X) (r := (X9_vowelBy x0)) rfl) rfl rfl (by decide) ⟨Nat.zero_le _, Nat.zero_le _⟩ (Nat.le_of_ble_eq_true rfl) dX9_soundBy_11 ?_
    obtain rfl := hF
    exact ab_iret C R0 rfl dX9_soundBy_14 ⟨rfl, rfl, rfl⟩
  · replace hF := (if_pos c1).symm.trans hF
    refine ab_iconst (v := (5 : Int32)) C dX9_soundBy_6 (by decide) ?_
    refine ab_goto C 14 dX9_soundBy_7 (by decide) ?_
    obtain rfl := hF
    exact ab_iret C R0 rfl dX9_soundBy_14 ⟨rfl, rfl, rfl⟩
theorem dX9_kindBy_0 : decode cX9_kindBy 0 = .ok (.iload_n 0, 1) := by decide +kernel
theorem dX9_kindBy_1 : decode cX9_kindBy 1 = .ok (.bipush 112, 2) := by decide +kernel
theorem dX9_kindBy_3 : decode cX9_kindBy 3 = .ok (.if_icmp .ne 7, 3) := by decide +kernel
theorem dX9_kindBy_6 : decode cX9_kindBy 6 = .ok (.iconst 1, 1) := by decide +kernel
theorem dX9_kindBy_7 : decode cX9_kindBy 7 = .ok (.goto 45, 3) := by decide +kernel
theorem dX9_kindBy_10 : decode cX9_kindBy 10 = .ok (.iload_n 0, 1) := by decide +kernel
theorem dX9_kindBy_11 : decode cX9_kindBy 11 = .ok (.bipush 98, 2) := by decide +kernel
theorem dX9_kindBy_13 : decode cX9_kindBy 13 = .ok (.if_icmp .ne 7, 3) := by decide +kernel
theorem dX9_kindBy_16 : decode cX9_kindBy 16 = .ok (.iconst 2, 1) := by decide +kernel
theorem dX9_kindBy_17 : decode cX9_kindBy 17 = .ok (.goto 35, 3) := by decide +kernel
theorem dX9_kindBy_20 : decode cX9_kindBy 20 = .ok (.iload_n 0, 1) := by decide +kernel
theorem dX9_kindBy_21 : decode cX9_kindBy 21 = .ok (.bipush 110, 2) := by decide +kernel
theorem dX9_kindBy_23 : decode cX9_kindBy 23 = .ok (.if_icmp .ne 7, 3) := by decide +kernel
theorem dX9_kindBy_26 : decode cX9_kindBy 26 = .ok (.iconst 3, 1) := by decide +kernel
theorem dX9_kindBy_27 : decode cX9_kindBy 27 = .ok (.goto 25, 3) := by decide +kernel
theorem dX9_kindBy_30 : decode cX9_kindBy 30 = .ok (.iload_n 0, 1) := by decide +kernel
theorem dX9_kindBy_31 : decode cX9_kindBy 31 = .ok (.bipush 114, 2) := by decide +kernel
theorem dX9_kindBy_33 : decode cX9_kindBy 33 = .ok (.if_icmp .ne 7, 3) := by decide +kernel
theorem dX9_kindBy_36 : decode cX9_kindBy 36 = .ok (.iconst 4, 1) := by decide +kernel
theorem dX9_kindBy_37 : decode cX9_kindBy 37 = .ok (.goto 15, 3) := by decide +kernel
theorem dX9_kindBy_40 : decode cX9_kindBy 40 = .ok (.iload_n 0, 1) := by decide +kernel
theorem dX9_kindBy_41 : decode cX9_kindBy 41 = .ok (.bipush 104, 2) := by decide +kernel
theorem dX9_kindBy_43 : decode cX9_kindBy 43 = .ok (.if_icmp .ne 7, 3) := by decide +kernel
theorem dX9_kindBy_46 : decode cX9_kindBy 46 = .ok (.iconst 5, 1) := by decide +kernel
theorem dX9_kindBy_47 : decode cX9_kindBy 47 = .ok (.goto 5, 3) := by decide +kernel
theorem dX9_kindBy_50 : decode cX9_kindBy 50 = .ok (.bipush (-4), 2) := by decide +kernel
theorem dX9_kindBy_52 : decode cX9_kindBy 52 = .ok (.ireturn, 1) := by decide +kernel
def X9_kindBy (x0 : Int32) : Int32 :=
  if x0 = (112 : Int32) then
    (1 : Int32)
  else
    if x0 = (98 : Int32) then
      (2 : Int32)
    else
      if x0 = (110 : Int32) then
        (3 : Int32)
      else
        if x0 = (114 : Int32) then
          (4 : Int32)
        else
          if x0 = (104 : Int32) then
            (5 : Int32)
          else
            (-4 : Int32)
set_option maxRecDepth 100000 in
set_option maxHeartbeats 4000000 in
theorem X9_kindBy_ok (l : Launch) {h : aH} {nx : Nat} {x0 : Int32} {r : Int32} (hF : X9_kindBy x0 = r) : aOk l 0 0 0 yX9_kindBy cX9_kindBy 1 (some .int) [.int x0] h nx (aRd (.int r) h nx) := by
  refine aOk.of (by decide +kernel) (Nat.le_of_ble_eq_true rfl) (fun X G hX C R0 _ => ?_)
  subst hX
  show aV X G 1 0 [(0, .int x0)] [] h nx 0 0
  rw [X9_kindBy] at hF
  refine ab_iload_n C 0 rfl rfl dX9_kindBy_0 ?_
  refine ab_bipush (v := (112 : Int32)) C dX9_kindBy_1 (by decide) ?_
  refine ab_icmp_ne C 10 dX9_kindBy_3 (by decide) (fun c1 => ?_) (fun c1 => ?_)
  · replace hF := (if_neg c1).symm.trans hF
    refine ab_iload_n C 0 rfl rfl dX9_kindBy_10 ?_
    refine ab_bipush (v := (98 : Int32)) C dX9_kindBy_11 (by decide) ?_
    refine ab_icmp_ne C 20 dX9_kindBy_13 (by decide) (fun c2 => ?_) (fun c2 => ?_)
    · replace hF := (if_neg c2).symm.trans hF
      refine ab_iload_n C 0 rfl rfl dX9_kindBy_20 ?_
      refine ab_bipush (v := (110 : Int32)) C dX9_kindBy_21 (by decide) ?_
      refine ab_icmp_ne C 30 dX9_kindBy_23 (by decide) (fun c3 => ?_) (fun c3 => ?_)
      · replace hF := (if_neg c3).symm.trans hF
        refine ab_iload_n C 0 rfl rfl dX9_kindBy_30 ?_
        refine ab_bipush (v := (114 : Int32)) C dX9_kindBy_31 (by decide) ?_
        refine ab_icmp_ne C 40 dX9_kindBy_33 (by decide) (fun c4 => ?_) (fun c4 => ?_)
        · replace hF := (if_neg c4).symm.trans hF
          refine ab_iload_n C 0 rfl rfl dX9_kindBy_40 ?_
          refine ab_bipush (v := (104 : Int32)) C dX9_kindBy_41 (by decide) ?_
          refine ab_icmp_ne C 50 dX9_kindBy_43 (by decide) (fun c5 => ?_) (fun c5 => ?_)
          · replace hF := (if_neg c5).symm.trans hF
            refine ab_bipush (v := (-4 : Int32)) C dX9_kindBy_50 (by decide) ?_
            obtain rfl := hF
            exact ab_iret C R0 rfl dX9_kindBy_52 ⟨rfl, rfl, rfl⟩
          · replace hF := (if_pos c5).symm.trans hF
            refine ab_iconst (v := (5 : Int32)) C dX9_kindBy_46 (by decide) ?_
            refine ab_goto C 52 dX9_kindBy_47 (by decide) ?_
            obtain rfl := hF
            exact ab_iret C R0 rfl dX9_kindBy_52 ⟨rfl, rfl, rfl⟩
        · replace hF := (if_pos c4).symm.trans hF
          refine ab_iconst (v := (4 : Int32)) C dX9_kindBy_36 (by decide) ?_
          refine ab_goto C 52 dX9_kindBy_37 (by decide) ?_
          obtain rfl := hF
          exact ab_iret C R0 rfl dX9_kindBy_52 ⟨rfl, rfl, rfl⟩
      · replace hF := (if_pos c3).symm.trans hF
        refine ab_iconst (v := (3 : Int32)) C dX9_kindBy_26 (by decide) ?_
        refine ab_goto C 52 dX9_kindBy_27 (by decide) ?_
        obtain rfl := hF
        exact ab_iret C R0 rfl dX9_kindBy_52 ⟨rfl, rfl, rfl⟩
    · replace hF := (if_pos c2).symm.trans hF
      refine ab_iconst (v := (2 : Int32)) C dX9_kindBy_16 (by decide) ?_
      refine ab_goto C 52 dX9_kindBy_17 (by decide) ?_
      obtain rfl := hF
      exact ab_iret C R0 rfl dX9_kindBy_52 ⟨rfl, rfl, rfl⟩
  · replace hF := (if_pos c1).symm.trans hF
    refine ab_iconst (v := (1 : Int32)) C dX9_kindBy_6 (by decide) ?_
    refine ab_goto C 52 dX9_kindBy_7 (by decide) ?_
    obtain rfl := hF
    exact ab_iret C R0 rfl dX9_kindBy_52 ⟨rfl, rfl, rfl⟩
theorem dX9_now_0 : decode cX9_now 0 = .ok (.aload_n 0, 1) := by decide +kernel
theorem dX9_now_1 : decode cX9_now 1 = .ok (.getfield 83, 3) := by decide +kernel
theorem dX9_now_4 : decode cX9_now 4 = .ok (.bipush (-4), 2) := by decide +kernel
theorem dX9_now_6 : decode cX9_now 6 = .ok (.if_icmp .ne 26, 3) := by decide +kernel
theorem dX9_now_9 : decode cX9_now 9 = .ok (.aload_n 0, 1) := by decide +kernel
theorem dX9_now_10 : decode cX9_now 10 = .ok (.getfield 86, 3) := by decide +kernel
theorem dX9_now_13 : decode cX9_now 13 = .ok (.aload_n 0, 1) := by decide +kernel
theorem dX9_now_14 : decode cX9_now 14 = .ok (.getfield 75, 3) := by decide +kernel
theorem dX9_now_17 : decode cX9_now 17 = .ok (.if_icmp .ge 15, 3) := by decide +kernel
theorem dX9_now_20 : decode cX9_now 20 = .ok (.aload_n 0, 1) := by decide +kernel
theorem dX9_now_21 : decode cX9_now 21 = .ok (.getfield 22, 3) := by decide +kernel
theorem dX9_now_24 : decode cX9_now 24 = .ok (.aload_n 0, 1) := by decide +kernel
theorem dX9_now_25 : decode cX9_now 25 = .ok (.getfield 86, 3) := by decide +kernel
theorem dX9_now_28 : decode cX9_now 28 = .ok (.iaload, 1) := by decide +kernel
theorem dX9_now_29 : decode cX9_now 29 = .ok (.goto 5, 3) := by decide +kernel
theorem dX9_now_32 : decode cX9_now 32 = .ok (.bipush (-4), 2) := by decide +kernel
theorem dX9_now_34 : decode cX9_now 34 = .ok (.ireturn, 1) := by decide +kernel
def X9_now (S0 : Rec) : Option (Int32) :=
  if (S0.1 8) = (-4 : Int32) then
    if (S0.1 6) ≤ (S0.1 7) then
      some (-4 : Int32)
    else
      (rdI (S0.2.1 5) 130 (S0.1 7)).bind fun v3 =>
      some v3
  else
    some (-4 : Int32)
set_option maxRecDepth 100000 in
set_option maxHeartbeats 4000000 in
theorem X9_now_ok (l : Launch) {h : aH} {nx : Nat} {a0 : Nat} {S0 : Rec} (hB0 : X9_at h a0 S0) {r : Int32} (hF : X9_now S0 = some r) : aOk l 0 0 0 yX9_now cX9_now 1 (some .int) [.ref a0] h nx (aRd (.int r) h nx) := by
  refine aOk.of (by decide +kernel) (Nat.le_of_ble_eq_true rfl) (fun X G hX C R0 _ => ?_)
  subst hX
  show aV X G 1 0 [(0, .ref a0)] [] h nx 0 0
  rw [X9_now] at hF
  refine ab_aload_n C 0 rfl rfl dX9_now_0 ?_
  refine ab_g9 (v := .int (S0.1 8)) C lf_X9_83 hB0.1 rfl dX9_now_1 ?_
  refine ab_bipush (v := (-4 : Int32)) C dX9_now_4 (by decide) ?_
  refine ab_icmp_ne C 32 dX9_now_6 (by decide) (fun c1 => ?_) (fun c1 => ?_)
  · replace hF := (if_neg c1).symm.trans hF
    refine ab_bipush (v := (-4 : Int32)) C dX9_now_32 (by decide) ?_
    obtain rfl := Option.some.inj hF
    exact ab_iret C R0 rfl dX9_now_34 ⟨rfl, rfl, rfl⟩
  · replace hF := (if_pos c1).symm.trans hF
    refine ab_aload_n C 0 rfl rfl dX9_now_9 ?_
    refine ab_g9 (v := .int (S0.1 7)) C lf_X9_86 hB0.1 rfl dX9_now_10 ?_
    refine ab_aload_n C 0 rfl rfl dX9_now_13 ?_
    refine ab_g9 (v := .int (S0.1 6)) C lf_X9_75 hB0.1 rfl dX9_now_14 ?_
    refine ab_icmp_ge C 32 dX9_now_17 (by decide) (fun c2 => ?_) (fun c2 => ?_)
    · replace hF := (if_pos c2).symm.trans hF
      refine ab_bipush (v := (-4 : Int32)) C dX9_now_32 (by decide) ?_
      obtain rfl := Option.some.inj hF
      exact ab_iret C R0 rfl dX9_now_34 ⟨rfl, rfl, rfl⟩
    · replace hF := (if_neg c2).symm.trans hF
      refine ab_aload_n C 0 rfl rfl dX9_now_20 ?_
      refine ab_g9 (v := .ref (a0 + 5)) C lf_X9_22 hB0.1 rfl dX9_now_21 ?_
      refine ab_aload_n C 0 rfl rfl dX9_now_24 ?_
      refine ab_g9 (v := .int (S0.1 7)) C lf_X9_86 hB0.1 rfl dX9_now_25 ?_
      obtain ⟨v3, hxv3, hF⟩ := Option.bind_eq_some_iff.mp hF
      refine ab_iald C (X9_r5 hB0) hxv3 dX9_now_28 ?_
      refine ab_goto C 34 dX9_now_29 (by decide) ?_
      obtain rfl := Option.some.inj hF
      exact ab_iret C R0 rfl dX9_now_34 ⟨rfl, rfl, rfl⟩
theorem dX9_wrong_0 : decode cX9_wrong 0 = .ok (.aload_n 0, 1) := by decide +kernel
theorem dX9_wrong_1 : decode cX9_wrong 1 = .ok (.aload_n 0, 1) := by decide +kernel
theorem dX9_wrong_2 : decode cX9_wrong 2 = .ok (.getfield 83, 3) := by decide +kernel
theorem dX9_wrong_5 : decode cX9_wrong 5 = .ok (.bipush (-4), 2) := by decide +kernel
theorem dX9_wrong_7 : decode cX9_wrong 7 = .ok (.if_icmp .ne 10, 3) := by decide +kernel
theorem dX9_wrong_10 : decode cX9_wrong 10 = .ok (.aload_n 0, 1) := by decide +kernel
theorem dX9_wrong_11 : decode cX9_wrong 11 = .ok (.getfield 86, 3) := by decide +kernel
theorem dX9_wrong_14 : decode cX9_wrong 14 = .ok (.goto 7, 3) := by decide +kernel
theorem dX9_wrong_17 : decode cX9_wrong 17 = .ok (.aload_n 0, 1) := by decide +kernel
theorem dX9_wrong_18 : decode cX9_wrong 18 = .ok (.getfield 83, 3) := by decide +kernel
theorem dX9_wrong_21 : decode cX9_wrong 21 = .ok (.putfield 83, 3) := by decide +kernel
theorem dX9_wrong_24 : decode cX9_wrong 24 = .ok (.return_, 1) := by decide +kernel
def X9_wrong (S0 : Rec) : Rec :=
  if (S0.1 8) = (-4 : Int32) then
    (sI S0 8 (S0.1 7))
  else
    (sI S0 8 (S0.1 8))
set_option maxRecDepth 100000 in
set_option maxHeartbeats 4000000 in
theorem X9_wrong_ok (l : Launch) {h : aH} {nx : Nat} {a0 : Nat} {S0 : Rec} (hB0 : X9_at h a0 S0) {r : Rec} (hF : X9_wrong S0 = r) : aOk l 0 0 0 yX9_wrong cX9_wrong 1 none [.ref a0] h nx (aMt none nx (fun h1 => X9_at h1 a0 r ∧ (∀ q, (q < a0 ∨ a0 + 20 ≤ q) → h1 q = h q))) := by
  refine aOk.of (by decide +kernel) (Nat.le_of_ble_eq_true rfl) (fun X G hX C R0 _ => ?_)
  subst hX
  show aV X G 1 0 [(0, .ref a0)] [] h nx 0 0
  have hFr : ∀ q, (q < a0 ∨ a0 + 20 ≤ q) → h q = h q := fun _ _ => rfl
  rw [X9_wrong] at hF
  refine ab_aload_n C 0 rfl rfl dX9_wrong_0 ?_
  refine ab_aload_n C 0 rfl rfl dX9_wrong_1 ?_
  refine ab_g9 (v := .int (S0.1 8)) C lf_X9_83 hB0.1 rfl dX9_wrong_2 ?_
  refine ab_bipush (v := (-4 : Int32)) C dX9_wrong_5 (by decide) ?_
  refine ab_icmp_ne C 17 dX9_wrong_7 (by decide) (fun c1 => ?_) (fun c1 => ?_)
  · replace hF := (if_neg c1).symm.trans hF
    refine ab_aload_n C 0 rfl rfl dX9_wrong_17 ?_
    refine ab_g9 (v := .int (S0.1 8)) C lf_X9_83 hB0.1 rfl dX9_wrong_18 ?_
    refine ab_p9 (ty := .int) C lf_X9_83 rfl (by decide +kernel) rfl rfl (Nat.le_of_ble_eq_true rfl) hB0.1 dX9_wrong_21 (fun g2 eg2 og2 => ?_)
    have hB0 : X9_at g2 a0 (sI S0 8 (S0.1 8)) := X9_p8 hB0 eg2 og2
    have hFr : ∀ q, (q < a0 ∨ a0 + 20 ≤ q) → g2 q = h q := fun q u0 => (og2 q (by omega)).trans (hFr q u0)
    obtain rfl := hF
    exact ab_vret C R0 dX9_wrong_24 ⟨rfl, rfl, hB0, hFr⟩
  · replace hF := (if_pos c1).symm.trans hF
    refine ab_aload_n C 0 rfl rfl dX9_wrong_10 ?_
    refine ab_g9 (v := .int (S0.1 7)) C lf_X9_86 hB0.1 rfl dX9_wrong_11 ?_
    refine ab_goto C 21 dX9_wrong_14 (by decide) ?_
    refine ab_p9 (ty := .int) C lf_X9_83 rfl (by decide +kernel) rfl rfl (Nat.le_of_ble_eq_true rfl) hB0.1 dX9_wrong_21 (fun g3 eg3 og3 => ?_)
    have hB0 : X9_at g3 a0 (sI S0 8 (S0.1 7)) := X9_p8 hB0 eg3 og3
    have hFr : ∀ q, (q < a0 ∨ a0 + 20 ≤ q) → g3 q = h q := fun q u0 => (og3 q (by omega)).trans (hFr q u0)
    obtain rfl := hF
    exact ab_vret C R0 dX9_wrong_24 ⟨rfl, rfl, hB0, hFr⟩
theorem dX9_must_0 : decode cX9_must 0 = .ok (.aload_n 0, 1) := by decide +kernel
theorem dX9_must_1 : decode cX9_must 1 = .ok (.invokevirtual 89, 3) := by decide +kernel
theorem dX9_must_4 : decode cX9_must 4 = .ok (.iload_n 1, 1) := by decide +kernel
theorem dX9_must_5 : decode cX9_must 5 = .ok (.if_icmp .ne 16, 3) := by decide +kernel
theorem dX9_must_8 : decode cX9_must 8 = .ok (.aload_n 0, 1) := by decide +kernel
theorem dX9_must_9 : decode cX9_must 9 = .ok (.dup, 1) := by decide +kernel
theorem dX9_must_10 : decode cX9_must 10 = .ok (.getfield 86, 3) := by decide +kernel
theorem dX9_must_13 : decode cX9_must 13 = .ok (.iconst 1, 1) := by decide +kernel
theorem dX9_must_14 : decode cX9_must 14 = .ok (.iadd, 1) := by decide +kernel
theorem dX9_must_15 : decode cX9_must 15 = .ok (.putfield 86, 3) := by decide +kernel
theorem dX9_must_18 : decode cX9_must 18 = .ok (.goto 7, 3) := by decide +kernel
theorem dX9_must_21 : decode cX9_must 21 = .ok (.aload_n 0, 1) := by decide +kernel
theorem dX9_must_22 : decode cX9_must 22 = .ok (.invokevirtual 93, 3) := by decide +kernel
theorem dX9_must_25 : decode cX9_must 25 = .ok (.return_, 1) := by decide +kernel
def X9_must (S0 : Rec) (x1 : Int32) : Option (Rec) :=
  (X9_now S0).bind fun v1 =>
  if v1 = x1 then
    some (sI S0 7 ((S0.1 7) + (1 : Int32)))
  else
    some (X9_wrong S0)
set_option maxRecDepth 100000 in
set_option maxHeartbeats 4000000 in
theorem X9_must_ok (l : Launch) {h : aH} {nx : Nat} {a0 : Nat} {S0 : Rec} {x1 : Int32} (hB0 : X9_at h a0 S0) {r : Rec} (hF : X9_must S0 x1 = some r) : aOk l 1 0 0 yX9_must cX9_must 2 none [.ref a0, .int x1] h nx (aMt none nx (fun h1 => X9_at h1 a0 r ∧ (∀ q, (q < a0 ∨ a0 + 20 ≤ q) → h1 q = h q))) := by
  refine aOk.of (by decide +kernel) (Nat.le_of_ble_eq_true rfl) (fun X G hX C R0 _ => ?_)
  subst hX
  show aV X G 2 0 [(0, .ref a0), (1, .int x1)] [] h nx 0 0
  have hFr : ∀ q, (q < a0 ∨ a0 + 20 ≤ q) → h q = h q := fun _ _ => rfl
  rw [X9_must] at hF
  refine ab_aload_n C 0 rfl rfl dX9_must_0 ?_
  obtain ⟨v1, hxv1, hF⟩ := Option.bind_eq_some_iff.mp hF
  refine ab_cVR (v := .int v1) (st := []) C lm_X9_89 (X9_now_ok (xl X) hB0 (r := v1) hxv1) [] rfl hB0.1 rfl rfl rfl (by decide) ⟨Nat.zero_le _, Nat.zero_le _⟩ (Nat.le_of_ble_eq_true rfl) dX9_must_1 ?_
  refine ab_iload_n C 1 rfl rfl dX9_must_4 ?_
  refine ab_icmp_ne C 21 dX9_must_5 (by decide) (fun c2 => ?_) (fun c2 => ?_)
  · replace hF := (if_neg c2).symm.trans hF
    refine ab_aload_n C 0 rfl rfl dX9_must_21 ?_
    refine ab_cVN (st := []) C lm_X9_93 (X9_wrong_ok (xl X) hB0 (r := (X9_wrong S0)) rfl) [] rfl hB0.1 rfl rfl rfl (by decide) ⟨Nat.zero_le _, Nat.zero_le _⟩ (Nat.le_of_ble_eq_true rfl) dX9_must_22 (fun g3 pg3 => ?_)
    obtain ⟨k0, Og3⟩ := pg3
    have hB0 : X9_at g3 a0 (X9_wrong S0) := k0
    have hFr : ∀ q, (q < a0 ∨ a0 + 20 ≤ q) → g3 q = h q := fun q u0 => (Og3 q (by omega)).trans (hFr q u0)
    obtain rfl := Option.some.inj hF
    exact ab_vret C R0 dX9_must_25 ⟨rfl, rfl, hB0, hFr⟩
  · replace hF := (if_pos c2).symm.trans hF
    refine ab_aload_n C 0 rfl rfl dX9_must_8 ?_
    refine ab_dup C rfl dX9_must_9 ?_
    refine ab_g9 (v := .int (S0.1 7)) C lf_X9_86 hB0.1 rfl dX9_must_10 ?_
    refine ab_iconst (v := (1 : Int32)) C dX9_must_13 (by decide) ?_
    refine ab_iadd C dX9_must_14 ?_
    refine ab_p9 (ty := .int) C lf_X9_86 rfl (by decide +kernel) rfl rfl (Nat.le_of_ble_eq_true rfl) hB0.1 dX9_must_15 (fun g4 eg4 og4 => ?_)
    have hB0 : X9_at g4 a0 (sI S0 7 ((S0.1 7) + (1 : Int32))) := X9_p7 hB0 eg4 og4
    have hFr : ∀ q, (q < a0 ∨ a0 + 20 ≤ q) → g4 q = h q := fun q u0 => (og4 q (by omega)).trans (hFr q u0)
    refine ab_goto C 25 dX9_must_18 (by decide) ?_
    obtain rfl := Option.some.inj hF
    exact ab_vret C R0 dX9_must_25 ⟨rfl, rfl, hB0, hFr⟩
theorem dX9_readHolders_0 : decode cX9_readHolders 0 = .ok (.aload_n 0, 1) := by decide +kernel
theorem dX9_readHolders_1 : decode cX9_readHolders 1 = .ok (.bipush 108, 2) := by decide +kernel
theorem dX9_readHolders_3 : decode cX9_readHolders 3 = .ok (.invokevirtual 96, 3) := by decide +kernel
theorem dX9_readHolders_6 : decode cX9_readHolders 6 = .ok (.aload_n 0, 1) := by decide +kernel
theorem dX9_readHolders_7 : decode cX9_readHolders 7 = .ok (.invokevirtual 89, 3) := by decide +kernel
theorem dX9_readHolders_10 : decode cX9_readHolders 10 = .ok (.invokestatic 100, 3) := by decide +kernel
theorem dX9_readHolders_13 : decode cX9_readHolders 13 = .ok (.bipush (-4), 2) := by decide +kernel
theorem dX9_readHolders_15 : decode cX9_readHolders 15 = .ok (.if_icmp .eq 57, 3) := by decide +kernel
theorem dX9_readHolders_18 : decode cX9_readHolders 18 = .ok (.aload_n 0, 1) := by decide +kernel
theorem dX9_readHolders_19 : decode cX9_readHolders 19 = .ok (.getfield 13, 3) := by decide +kernel
theorem dX9_readHolders_22 : decode cX9_readHolders 22 = .ok (.iconst 0, 1) := by decide +kernel
theorem dX9_readHolders_23 : decode cX9_readHolders 23 = .ok (.iaload, 1) := by decide +kernel
theorem dX9_readHolders_24 : decode cX9_readHolders 24 = .ok (.bipush 6, 2) := by decide +kernel
theorem dX9_readHolders_26 : decode cX9_readHolders 26 = .ok (.if_icmp .ge 46, 3) := by decide +kernel
theorem dX9_readHolders_29 : decode cX9_readHolders 29 = .ok (.aload_n 0, 1) := by decide +kernel
theorem dX9_readHolders_30 : decode cX9_readHolders 30 = .ok (.getfield 13, 3) := by decide +kernel
theorem dX9_readHolders_33 : decode cX9_readHolders 33 = .ok (.iconst 5, 1) := by decide +kernel
theorem dX9_readHolders_34 : decode cX9_readHolders 34 = .ok (.aload_n 0, 1) := by decide +kernel
theorem dX9_readHolders_35 : decode cX9_readHolders 35 = .ok (.getfield 13, 3) := by decide +kernel
theorem dX9_readHolders_38 : decode cX9_readHolders 38 = .ok (.iconst 0, 1) := by decide +kernel
theorem dX9_readHolders_39 : decode cX9_readHolders 39 = .ok (.iaload, 1) := by decide +kernel
theorem dX9_readHolders_40 : decode cX9_readHolders 40 = .ok (.iadd, 1) := by decide +kernel
theorem dX9_readHolders_41 : decode cX9_readHolders 41 = .ok (.aload_n 0, 1) := by decide +kernel
theorem dX9_readHolders_42 : decode cX9_readHolders 42 = .ok (.invokevirtual 89, 3) := by decide +kernel
theorem dX9_readHolders_45 : decode cX9_readHolders 45 = .ok (.invokestatic 100, 3) := by decide +kernel
theorem dX9_readHolders_48 : decode cX9_readHolders 48 = .ok (.iastore, 1) := by decide +kernel
theorem dX9_readHolders_49 : decode cX9_readHolders 49 = .ok (.aload_n 0, 1) := by decide +kernel
theorem dX9_readHolders_50 : decode cX9_readHolders 50 = .ok (.getfield 13, 3) := by decide +kernel
theorem dX9_readHolders_53 : decode cX9_readHolders 53 = .ok (.iconst 0, 1) := by decide +kernel
theorem dX9_readHolders_54 : decode cX9_readHolders 54 = .ok (.dup2, 1) := by decide +kernel
theorem dX9_readHolders_55 : decode cX9_readHolders 55 = .ok (.iaload, 1) := by decide +kernel
theorem dX9_readHolders_56 : decode cX9_readHolders 56 = .ok (.iconst 1, 1) := by decide +kernel
theorem dX9_readHolders_57 : decode cX9_readHolders 57 = .ok (.iadd, 1) := by decide +kernel
theorem dX9_readHolders_58 : decode cX9_readHolders 58 = .ok (.iastore, 1) := by decide +kernel
theorem dX9_readHolders_59 : decode cX9_readHolders 59 = .ok (.aload_n 0, 1) := by decide +kernel
theorem dX9_readHolders_60 : decode cX9_readHolders 60 = .ok (.dup, 1) := by decide +kernel
theorem dX9_readHolders_61 : decode cX9_readHolders 61 = .ok (.getfield 86, 3) := by decide +kernel
theorem dX9_readHolders_64 : decode cX9_readHolders 64 = .ok (.iconst 1, 1) := by decide +kernel
theorem dX9_readHolders_65 : decode cX9_readHolders 65 = .ok (.iadd, 1) := by decide +kernel
theorem dX9_readHolders_66 : decode cX9_readHolders 66 = .ok (.putfield 86, 3) := by decide +kernel
theorem dX9_readHolders_69 : decode cX9_readHolders 69 = .ok (.goto (-63), 3) := by decide +kernel
theorem dX9_readHolders_72 : decode cX9_readHolders 72 = .ok (.aload_n 0, 1) := by decide +kernel
theorem dX9_readHolders_73 : decode cX9_readHolders 73 = .ok (.getfield 13, 3) := by decide +kernel
theorem dX9_readHolders_76 : decode cX9_readHolders 76 = .ok (.iconst 0, 1) := by decide +kernel
theorem dX9_readHolders_77 : decode cX9_readHolders 77 = .ok (.iaload, 1) := by decide +kernel
theorem dX9_readHolders_78 : decode cX9_readHolders 78 = .ok (.ifCond .ne 7, 3) := by decide +kernel
theorem dX9_readHolders_81 : decode cX9_readHolders 81 = .ok (.aload_n 0, 1) := by decide +kernel
theorem dX9_readHolders_82 : decode cX9_readHolders 82 = .ok (.invokevirtual 93, 3) := by decide +kernel
theorem dX9_readHolders_85 : decode cX9_readHolders 85 = .ok (.aload_n 0, 1) := by decide +kernel
theorem dX9_readHolders_86 : decode cX9_readHolders 86 = .ok (.bipush 59, 2) := by decide +kernel
theorem dX9_readHolders_88 : decode cX9_readHolders 88 = .ok (.invokevirtual 96, 3) := by decide +kernel
theorem dX9_readHolders_91 : decode cX9_readHolders 91 = .ok (.return_, 1) := by decide +kernel
def X9_readHolders_L6 : Nat → Rec → Option (Rec)
  | 0, _ => none
  | n6 + 1, Z3 => (X9_now Z3).bind fun v5 =>
    if (X9_kindBy v5) = (-4 : Int32) then
      some Z3
    else
      (rdI (Z3.2.1 1) 96 (0 : Int32)).bind fun v7 =>
      if (6 : Int32) ≤ v7 then
        some Z3
      else
        (rdI (Z3.2.1 1) 96 (0 : Int32)).bind fun v9 =>
        (X9_now Z3).bind fun v10 =>
        (wrI (Z3.2.1 1) 96 ((5 : Int32) + v9) (X9_kindBy v10)).bind fun w11 =>
        (rdI ((sA Z3 1 w11).2.1 1) 96 (0 : Int32)).bind fun v13 =>
        (wrI ((sA Z3 1 w11).2.1 1) 96 (0 : Int32) (v13 + (1 : Int32))).bind fun w14 =>
        X9_readHolders_L6 n6 (sI (sA (sA Z3 1 w11) 1 w14) 7 (((sA (sA Z3 1 w11) 1 w14).1 7) + (1 : Int32)))
def X9_readHolders_J85 (Z20 : Rec) : Option (Rec) :=
  (X9_must Z20 (59 : Int32)).bind fun v22 =>
  some v22
def X9_readHolders (S0 : Rec) : Option (Rec) :=
  (X9_must S0 (108 : Int32)).bind fun v1 =>
  (X9_readHolders_L6 aFu v1).bind fun e17 =>
  (rdI (e17.2.1 1) 96 (0 : Int32)).bind fun v19 =>
  if v19 = 0 then
    X9_readHolders_J85 (X9_wrong e17)
  else
    X9_readHolders_J85 e17
set_option maxRecDepth 100000 in
set_option maxHeartbeats 4000000 in
theorem X9_readHolders_ok (l : Launch) {h : aH} {nx : Nat} {a0 : Nat} {S0 : Rec} (hB0 : X9_at h a0 S0) {r : Rec} (hF : X9_readHolders S0 = some r) : aOk l 2 0 0 yX9_readHolders cX9_readHolders 1 none [.ref a0] h nx (aMt none nx (fun h1 => X9_at h1 a0 r ∧ (∀ q, (q < a0 ∨ a0 + 20 ≤ q) → h1 q = h q))) := by
  refine aOk.of (by decide +kernel) (Nat.le_of_ble_eq_true rfl) (fun X G hX C R0 _ => ?_)
  subst hX
  show aV X G 1 0 [(0, .ref a0)] [] h nx 0 0
  have hFr : ∀ q, (q < a0 ∨ a0 + 20 ≤ q) → h q = h q := fun _ _ => rfl
  rw [X9_readHolders] at hF
  refine ab_aload_n C 0 rfl rfl dX9_readHolders_0 ?_
  refine ab_bipush (v := (108 : Int32)) C dX9_readHolders_1 (by decide) ?_
  obtain ⟨v1, hxv1, hF⟩ := Option.bind_eq_some_iff.mp hF
  refine ab_cVN (st := []) C lm_X9_96 (X9_must_ok (xl X) hB0 (r := v1) hxv1) [.int (108 : Int32)] rfl hB0.1 rfl rfl rfl (by decide) ⟨Nat.zero_le _, Nat.zero_le _⟩ (Nat.le_of_ble_eq_true rfl) dX9_readHolders_3 (fun g2 pg2 => ?_)
  obtain ⟨k0, Og2⟩ := pg2
  have hB0 : X9_at g2 a0 v1 := k0
  have hFr : ∀ q, (q < a0 ∨ a0 + 20 ≤ q) → g2 q = h q := fun q u0 => (Og2 q (by omega)).trans (hFr q u0)
  have L6 : ∀ (n6 : Nat) (Z3 : Rec) (g4 : aH), (X9_at g4 a0 Z3) → (∀ q, (q < a0 ∨ a0 + 20 ≤ q) → g4 q = h q) → ∀ (res6 : Rec), X9_readHolders_L6 n6 Z3 = some res6 → (∀ (q9 : aH), (X9_at q9 a0 res6) → (∀ q, (q < a0 ∨ a0 + 20 ≤ q) → q9 q = h q) → aV X G 1 72 [(0, .ref a0)] [] q9 nx 0 0) → aV X G 1 6 [(0, .ref a0)] [] g4 nx 0 0 := by
    intro n6
    induction n6 with
    | zero => intro Z3 g4 hB0 hFr res6 hF KX6; cases (show (none : Option (Rec)) = some res6 from hF)
    | succ n6 ih6 =>
      intro Z3 g4 hB0 hFr res6 hF KX6
      rw [X9_readHolders_L6] at hF
      refine ab_aload_n C 0 rfl rfl dX9_readHolders_6 ?_
      obtain ⟨v5, hxv5, hF⟩ := Option.bind_eq_some_iff.mp hF
      refine ab_cVR (v := .int v5) (st := []) C lm_X9_89 (X9_now_ok (xl X) hB0 (r := v5) hxv5) [] rfl hB0.1 rfl rfl rfl (by decide) ⟨Nat.zero_le _, Nat.zero_le _⟩ (Nat.le_of_ble_eq_true rfl) dX9_readHolders_7 ?_
      refine ab_cSR (v := .int (X9_kindBy v5)) (st := []) C lm_X9_100 (X9_kindBy_ok (xl X) (r := (X9_kindBy v5)) rfl) rfl rfl (by decide) ⟨Nat.zero_le _, Nat.zero_le _⟩ (Nat.le_of_ble_eq_true rfl) dX9_readHolders_10 ?_
      refine ab_bipush (v := (-4 : Int32)) C dX9_readHolders_13 (by decide) ?_
      refine ab_icmp_eq C 72 dX9_readHolders_15 (by decide) (fun c6 => ?_) (fun c6 => ?_)
      · replace hF := (if_pos c6).symm.trans hF
        obtain rfl := Option.some.inj hF
        exact KX6 g4 hB0 hFr
      · replace hF := (if_neg c6).symm.trans hF
        refine ab_aload_n C 0 rfl rfl dX9_readHolders_18 ?_
        refine ab_g9 (v := .ref (a0 + 2)) C lf_X9_13 hB0.1 rfl dX9_readHolders_19 ?_
        refine ab_iconst (v := (0 : Int32)) C dX9_readHolders_22 (by decide) ?_
        obtain ⟨v7, hxv7, hF⟩ := Option.bind_eq_some_iff.mp hF
        refine ab_iald C (X9_r1 hB0) hxv7 dX9_readHolders_23 ?_
        refine ab_bipush (v := (6 : Int32)) C dX9_readHolders_24 (by decide) ?_
        refine ab_icmp_ge C 72 dX9_readHolders_26 (by decide) (fun c8 => ?_) (fun c8 => ?_)
        · replace hF := (if_pos c8).symm.trans hF
          obtain rfl := Option.some.inj hF
          exact KX6 g4 hB0 hFr
        · replace hF := (if_neg c8).symm.trans hF
          refine ab_aload_n C 0 rfl rfl dX9_readHolders_29 ?_
          refine ab_g9 (v := .ref (a0 + 2)) C lf_X9_13 hB0.1 rfl dX9_readHolders_30 ?_
          refine ab_iconst (v := (5 : Int32)) C dX9_readHolders_33 (by decide) ?_
          refine ab_aload_n C 0 rfl rfl dX9_readHolders_34 ?_
          refine ab_g9 (v := .ref (a0 + 2)) C lf_X9_13 hB0.1 rfl dX9_readHolders_35 ?_
          refine ab_iconst (v := (0 : Int32)) C dX9_readHolders_38 (by decide) ?_
          obtain ⟨v9, hxv9, hF⟩ := Option.bind_eq_some_iff.mp hF
          refine ab_iald C (X9_r1 hB0) hxv9 dX9_readHolders_39 ?_
          refine ab_iadd C dX9_readHolders_40 ?_
          refine ab_aload_n C 0 rfl rfl dX9_readHolders_41 ?_
          obtain ⟨v10, hxv10, hF⟩ := Option.bind_eq_some_iff.mp hF
          refine ab_cVR (v := .int v10) (st := [.int ((5 : Int32) + v9), .ref (a0 + 2)]) C lm_X9_89 (X9_now_ok (xl X) hB0 (r := v10) hxv10) [] rfl hB0.1 rfl rfl rfl (by decide) ⟨Nat.zero_le _, Nat.zero_le _⟩ (Nat.le_of_ble_eq_true rfl) dX9_readHolders_42 ?_
          refine ab_cSR (v := .int (X9_kindBy v10)) (st := [.int ((5 : Int32) + v9), .ref (a0 + 2)]) C lm_X9_100 (X9_kindBy_ok (xl X) (r := (X9_kindBy v10)) rfl) rfl rfl (by decide) ⟨Nat.zero_le _, Nat.zero_le _⟩ (Nat.le_of_ble_eq_true rfl) dX9_readHolders_45 ?_
          obtain ⟨w11, hxw11, hF⟩ := Option.bind_eq_some_iff.mp hF
          refine ab_iast C (X9_r1 hB0) hxw11 dX9_readHolders_48 (fun g12 eg12 og12 => ?_)
          have hB0 : X9_at g12 a0 (sA Z3 1 w11) := X9_w1 hB0 eg12 og12
          have hFr : ∀ q, (q < a0 ∨ a0 + 20 ≤ q) → g12 q = h q := fun q u0 => (og12 q (by omega)).trans (hFr q u0)
          refine ab_aload_n C 0 rfl rfl dX9_readHolders_49 ?_
          refine ab_g9 (v := .ref (a0 + 2)) C lf_X9_13 hB0.1 rfl dX9_readHolders_50 ?_
          refine ab_iconst (v := (0 : Int32)) C dX9_readHolders_53 (by decide) ?_
          refine ab_dup2_11 C rfl rfl dX9_readHolders_54 ?_
          obtain ⟨v13, hxv13, hF⟩ := Option.bind_eq_some_iff.mp hF
          refine ab_iald C (X9_r1 hB0) hxv13 dX9_readHolders_55 ?_
          refine ab_iconst (v := (1 : Int32)) C dX9_readHolders_56 (by decide) ?_
          refine ab_iadd C dX9_readHolders_57 ?_
          obtain ⟨w14, hxw14, hF⟩ := Option.bind_eq_some_iff.mp hF
          refine ab_iast C (X9_r1 hB0) hxw14 dX9_readHolders_58 (fun g15 eg15 og15 => ?_)
          have hB0 : X9_at g15 a0 (sA (sA Z3 1 w11) 1 w14) := X9_w1 hB0 eg15 og15
          have hFr : ∀ q, (q < a0 ∨ a0 + 20 ≤ q) → g15 q = h q := fun q u0 => (og15 q (by omega)).trans (hFr q u0)
          refine ab_aload_n C 0 rfl rfl dX9_readHolders_59 ?_
          refine ab_dup C rfl dX9_readHolders_60 ?_
          refine ab_g9 (v := .int ((sA (sA Z3 1 w11) 1 w14).1 7)) C lf_X9_86 hB0.1 rfl dX9_readHolders_61 ?_
          refine ab_iconst (v := (1 : Int32)) C dX9_readHolders_64 (by decide) ?_
          refine ab_iadd C dX9_readHolders_65 ?_
          refine ab_p9 (ty := .int) C lf_X9_86 rfl (by decide +kernel) rfl rfl (Nat.le_of_ble_eq_true rfl) hB0.1 dX9_readHolders_66 (fun g16 eg16 og16 => ?_)
          have hB0 : X9_at g16 a0 (sI (sA (sA Z3 1 w11) 1 w14) 7 (((sA (sA Z3 1 w11) 1 w14).1 7) + (1 : Int32))) := X9_p7 hB0 eg16 og16
          have hFr : ∀ q, (q < a0 ∨ a0 + 20 ≤ q) → g16 q = h q := fun q u0 => (og16 q (by omega)).trans (hFr q u0)
          refine ab_goto C 6 dX9_readHolders_69 (by decide) ?_
          exact ih6 (sI (sA (sA Z3 1 w11) 1 w14) 7 (((sA (sA Z3 1 w11) 1 w14).1 7) + (1 : Int32))) g16 hB0 hFr res6 hF KX6
  obtain ⟨e17, he17, hF⟩ := Option.bind_eq_some_iff.mp hF
  refine L6 aFu v1 g2 hB0 hFr e17 he17 (fun g18 hB0 hFr => ?_)
  refine ab_aload_n C 0 rfl rfl dX9_readHolders_72 ?_
  refine ab_g9 (v := .ref (a0 + 2)) C lf_X9_13 hB0.1 rfl dX9_readHolders_73 ?_
  refine ab_iconst (v := (0 : Int32)) C dX9_readHolders_76 (by decide) ?_
  obtain ⟨v19, hxv19, hF⟩ := Option.bind_eq_some_iff.mp hF
  refine ab_iald C (X9_r1 hB0) hxv19 dX9_readHolders_77 ?_
  have J85 : ∀ (Z20 : Rec) (g21 : aH), (X9_at g21 a0 Z20) → (∀ q, (q < a0 ∨ a0 + 20 ≤ q) → g21 q = h q) → X9_readHolders_J85 Z20 = some r → aV X G 1 85 [(0, .ref a0)] [] g21 nx 0 0 := by
    intro Z20 g21 hB0 hFr hF
    rw [X9_readHolders_J85] at hF
    refine ab_aload_n C 0 rfl rfl dX9_readHolders_85 ?_
    refine ab_bipush (v := (59 : Int32)) C dX9_readHolders_86 (by decide) ?_
    obtain ⟨v22, hxv22, hF⟩ := Option.bind_eq_some_iff.mp hF
    refine ab_cVN (st := []) C lm_X9_96 (X9_must_ok (xl X) hB0 (r := v22) hxv22) [.int (59 : Int32)] rfl hB0.1 rfl rfl rfl (by decide) ⟨Nat.zero_le _, Nat.zero_le _⟩ (Nat.le_of_ble_eq_true rfl) dX9_readHolders_88 (fun g23 pg23 => ?_)
    obtain ⟨k0, Og23⟩ := pg23
    have hB0 : X9_at g23 a0 v22 := k0
    have hFr : ∀ q, (q < a0 ∨ a0 + 20 ≤ q) → g23 q = h q := fun q u0 => (Og23 q (by omega)).trans (hFr q u0)
    obtain rfl := Option.some.inj hF
    exact ab_vret C R0 dX9_readHolders_91 ⟨rfl, rfl, hB0, hFr⟩
  refine ab_if_ne C 85 dX9_readHolders_78 (by decide) (fun c24 => ?_) (fun c24 => ?_)
  · replace hF := (if_neg c24).symm.trans hF
    exact J85 e17 g18 hB0 hFr hF
  · replace hF := (if_pos c24).symm.trans hF
    refine ab_aload_n C 0 rfl rfl dX9_readHolders_81 ?_
    refine ab_cVN (st := []) C lm_X9_93 (X9_wrong_ok (xl X) hB0 (r := (X9_wrong e17)) rfl) [] rfl hB0.1 rfl rfl rfl (by decide) ⟨Nat.zero_le _, Nat.zero_le _⟩ (Nat.le_of_ble_eq_true rfl) dX9_readHolders_82 (fun g25 pg25 => ?_)
    obtain ⟨k0, Og25⟩ := pg25
    have hB0 : X9_at g25 a0 (X9_wrong e17) := k0
    have hFr : ∀ q, (q < a0 ∨ a0 + 20 ≤ q) → g25 q = h q := fun q u0 => (Og25 q (by omega)).trans (hFr q u0)
    exact J85 (X9_wrong e17) g25 hB0 hFr hF
theorem dX9_readSounds_0 : decode cX9_readSounds 0 = .ok (.iconst 1, 1) := by decide +kernel
theorem dX9_readSounds_1 : decode cX9_readSounds 1 = .ok (.istore_n 1, 1) := by decide +kernel
theorem dX9_readSounds_2 : decode cX9_readSounds 2 = .ok (.iload_n 1, 1) := by decide +kernel
theorem dX9_readSounds_3 : decode cX9_readSounds 3 = .ok (.ifCond .eq 202, 3) := by decide +kernel
theorem dX9_readSounds_6 : decode cX9_readSounds 6 = .ok (.aload_n 0, 1) := by decide +kernel
theorem dX9_readSounds_7 : decode cX9_readSounds 7 = .ok (.getfield 13, 3) := by decide +kernel
theorem dX9_readSounds_10 : decode cX9_readSounds 10 = .ok (.iconst 2, 1) := by decide +kernel
theorem dX9_readSounds_11 : decode cX9_readSounds 11 = .ok (.iaload, 1) := by decide +kernel
theorem dX9_readSounds_12 : decode cX9_readSounds 12 = .ok (.ifCond .ne 8, 3) := by decide +kernel
theorem dX9_readSounds_15 : decode cX9_readSounds 15 = .ok (.bipush 6, 2) := by decide +kernel
theorem dX9_readSounds_17 : decode cX9_readSounds 17 = .ok (.goto 9, 3) := by decide +kernel
theorem dX9_readSounds_20 : decode cX9_readSounds 20 = .ok (.aload_n 0, 1) := by decide +kernel
theorem dX9_readSounds_21 : decode cX9_readSounds 21 = .ok (.getfield 13, 3) := by decide +kernel
theorem dX9_readSounds_24 : decode cX9_readSounds 24 = .ok (.iconst 1, 1) := by decide +kernel
theorem dX9_readSounds_25 : decode cX9_readSounds 25 = .ok (.iaload, 1) := by decide +kernel
theorem dX9_readSounds_26 : decode cX9_readSounds 26 = .ok (.istore_n 2, 1) := by decide +kernel
theorem dX9_readSounds_27 : decode cX9_readSounds 27 = .ok (.iconst 0, 1) := by decide +kernel
theorem dX9_readSounds_28 : decode cX9_readSounds 28 = .ok (.istore_n 3, 1) := by decide +kernel
theorem dX9_readSounds_29 : decode cX9_readSounds 29 = .ok (.aload_n 0, 1) := by decide +kernel
theorem dX9_readSounds_30 : decode cX9_readSounds 30 = .ok (.invokevirtual 89, 3) := by decide +kernel
theorem dX9_readSounds_33 : decode cX9_readSounds 33 = .ok (.invokestatic 103, 3) := by decide +kernel
theorem dX9_readSounds_36 : decode cX9_readSounds 36 = .ok (.bipush (-4), 2) := by decide +kernel
theorem dX9_readSounds_38 : decode cX9_readSounds 38 = .ok (.if_icmp .eq 50, 3) := by decide +kernel
theorem dX9_readSounds_41 : decode cX9_readSounds 41 = .ok (.iload_n 3, 1) := by decide +kernel
theorem dX9_readSounds_42 : decode cX9_readSounds 42 = .ok (.iload_n 2, 1) := by decide +kernel
theorem dX9_readSounds_43 : decode cX9_readSounds 43 = .ok (.if_icmp .ge 45, 3) := by decide +kernel
theorem dX9_readSounds_46 : decode cX9_readSounds 46 = .ok (.aload_n 0, 1) := by decide +kernel
theorem dX9_readSounds_47 : decode cX9_readSounds 47 = .ok (.getfield 13, 3) := by decide +kernel
theorem dX9_readSounds_50 : decode cX9_readSounds 50 = .ok (.bipush 16, 2) := by decide +kernel
theorem dX9_readSounds_52 : decode cX9_readSounds 52 = .ok (.bipush 6, 2) := by decide +kernel
theorem dX9_readSounds_54 : decode cX9_readSounds 54 = .ok (.aload_n 0, 1) := by decide +kernel
theorem dX9_readSounds_55 : decode cX9_readSounds 55 = .ok (.getfield 13, 3) := by decide +kernel
theorem dX9_readSounds_58 : decode cX9_readSounds 58 = .ok (.iconst 2, 1) := by decide +kernel
theorem dX9_readSounds_59 : decode cX9_readSounds 59 = .ok (.iaload, 1) := by decide +kernel
theorem dX9_readSounds_60 : decode cX9_readSounds 60 = .ok (.imul, 1) := by decide +kernel
theorem dX9_readSounds_61 : decode cX9_readSounds 61 = .ok (.iadd, 1) := by decide +kernel
theorem dX9_readSounds_62 : decode cX9_readSounds 62 = .ok (.iload_n 3, 1) := by decide +kernel
theorem dX9_readSounds_63 : decode cX9_readSounds 63 = .ok (.iadd, 1) := by decide +kernel
theorem dX9_readSounds_64 : decode cX9_readSounds 64 = .ok (.aload_n 0, 1) := by decide +kernel
theorem dX9_readSounds_65 : decode cX9_readSounds 65 = .ok (.invokevirtual 89, 3) := by decide +kernel
theorem dX9_readSounds_68 : decode cX9_readSounds 68 = .ok (.invokestatic 103, 3) := by decide +kernel
theorem dX9_readSounds_71 : decode cX9_readSounds 71 = .ok (.iastore, 1) := by decide +kernel
theorem dX9_readSounds_72 : decode cX9_readSounds 72 = .ok (.iinc 3 1, 3) := by decide +kernel
theorem dX9_readSounds_75 : decode cX9_readSounds 75 = .ok (.aload_n 0, 1) := by decide +kernel
theorem dX9_readSounds_76 : decode cX9_readSounds 76 = .ok (.dup, 1) := by decide +kernel
theorem dX9_readSounds_77 : decode cX9_readSounds 77 = .ok (.getfield 86, 3) := by decide +kernel
theorem dX9_readSounds_80 : decode cX9_readSounds 80 = .ok (.iconst 1, 1) := by decide +kernel
theorem dX9_readSounds_81 : decode cX9_readSounds 81 = .ok (.iadd, 1) := by decide +kernel
theorem dX9_readSounds_82 : decode cX9_readSounds 82 = .ok (.putfield 86, 3) := by decide +kernel
theorem dX9_readSounds_85 : decode cX9_readSounds 85 = .ok (.goto (-56), 3) := by decide +kernel
theorem dX9_readSounds_88 : decode cX9_readSounds 88 = .ok (.iload_n 3, 1) := by decide +kernel
theorem dX9_readSounds_89 : decode cX9_readSounds 89 = .ok (.ifCond .eq 17, 3) := by decide +kernel
theorem dX9_readSounds_92 : decode cX9_readSounds 92 = .ok (.aload_n 0, 1) := by decide +kernel
theorem dX9_readSounds_93 : decode cX9_readSounds 93 = .ok (.getfield 13, 3) := by decide +kernel
theorem dX9_readSounds_96 : decode cX9_readSounds 96 = .ok (.iconst 2, 1) := by decide +kernel
theorem dX9_readSounds_97 : decode cX9_readSounds 97 = .ok (.iaload, 1) := by decide +kernel
theorem dX9_readSounds_98 : decode cX9_readSounds 98 = .ok (.ifCond .le 12, 3) := by decide +kernel
theorem dX9_readSounds_101 : decode cX9_readSounds 101 = .ok (.iload_n 3, 1) := by decide +kernel
theorem dX9_readSounds_102 : decode cX9_readSounds 102 = .ok (.iload_n 2, 1) := by decide +kernel
theorem dX9_readSounds_103 : decode cX9_readSounds 103 = .ok (.if_icmp .ge 7, 3) := by decide +kernel
theorem dX9_readSounds_106 : decode cX9_readSounds 106 = .ok (.aload_n 0, 1) := by decide +kernel
theorem dX9_readSounds_107 : decode cX9_readSounds 107 = .ok (.invokevirtual 93, 3) := by decide +kernel
theorem dX9_readSounds_110 : decode cX9_readSounds 110 = .ok (.aload_n 0, 1) := by decide +kernel
theorem dX9_readSounds_111 : decode cX9_readSounds 111 = .ok (.getfield 13, 3) := by decide +kernel
theorem dX9_readSounds_114 : decode cX9_readSounds 114 = .ok (.iconst 1, 1) := by decide +kernel
theorem dX9_readSounds_115 : decode cX9_readSounds 115 = .ok (.aload_n 0, 1) := by decide +kernel
theorem dX9_readSounds_116 : decode cX9_readSounds 116 = .ok (.getfield 13, 3) := by decide +kernel
theorem dX9_readSounds_119 : decode cX9_readSounds 119 = .ok (.iconst 2, 1) := by decide +kernel
theorem dX9_readSounds_120 : decode cX9_readSounds 120 = .ok (.iaload, 1) := by decide +kernel
theorem dX9_readSounds_121 : decode cX9_readSounds 121 = .ok (.ifCond .ne 7, 3) := by decide +kernel
theorem dX9_readSounds_124 : decode cX9_readSounds 124 = .ok (.iload_n 3, 1) := by decide +kernel
theorem dX9_readSounds_125 : decode cX9_readSounds 125 = .ok (.goto 9, 3) := by decide +kernel
theorem dX9_readSounds_128 : decode cX9_readSounds 128 = .ok (.aload_n 0, 1) := by decide +kernel
theorem dX9_readSounds_129 : decode cX9_readSounds 129 = .ok (.getfield 13, 3) := by decide +kernel
theorem dX9_readSounds_132 : decode cX9_readSounds 132 = .ok (.iconst 1, 1) := by decide +kernel
theorem dX9_readSounds_133 : decode cX9_readSounds 133 = .ok (.iaload, 1) := by decide +kernel
theorem dX9_readSounds_134 : decode cX9_readSounds 134 = .ok (.iastore, 1) := by decide +kernel
theorem dX9_readSounds_135 : decode cX9_readSounds 135 = .ok (.aload_n 0, 1) := by decide +kernel
theorem dX9_readSounds_136 : decode cX9_readSounds 136 = .ok (.getfield 13, 3) := by decide +kernel
theorem dX9_readSounds_139 : decode cX9_readSounds 139 = .ok (.iconst 2, 1) := by decide +kernel
theorem dX9_readSounds_140 : decode cX9_readSounds 140 = .ok (.dup2, 1) := by decide +kernel
theorem dX9_readSounds_141 : decode cX9_readSounds 141 = .ok (.iaload, 1) := by decide +kernel
theorem dX9_readSounds_142 : decode cX9_readSounds 142 = .ok (.aload_n 0, 1) := by decide +kernel
theorem dX9_readSounds_143 : decode cX9_readSounds 143 = .ok (.getfield 83, 3) := by decide +kernel
theorem dX9_readSounds_146 : decode cX9_readSounds 146 = .ok (.bipush (-4), 2) := by decide +kernel
theorem dX9_readSounds_148 : decode cX9_readSounds 148 = .ok (.if_icmp .ne 7, 3) := by decide +kernel
theorem dX9_readSounds_151 : decode cX9_readSounds 151 = .ok (.iconst 1, 1) := by decide +kernel
theorem dX9_readSounds_152 : decode cX9_readSounds 152 = .ok (.goto 4, 3) := by decide +kernel
theorem dX9_readSounds_155 : decode cX9_readSounds 155 = .ok (.iconst 0, 1) := by decide +kernel
theorem dX9_readSounds_156 : decode cX9_readSounds 156 = .ok (.iadd, 1) := by decide +kernel
theorem dX9_readSounds_157 : decode cX9_readSounds 157 = .ok (.iastore, 1) := by decide +kernel
theorem dX9_readSounds_158 : decode cX9_readSounds 158 = .ok (.aload_n 0, 1) := by decide +kernel
theorem dX9_readSounds_159 : decode cX9_readSounds 159 = .ok (.invokevirtual 89, 3) := by decide +kernel
theorem dX9_readSounds_162 : decode cX9_readSounds 162 = .ok (.bipush 47, 2) := by decide +kernel
theorem dX9_readSounds_164 : decode cX9_readSounds 164 = .ok (.if_icmp .ne 18, 3) := by decide +kernel
theorem dX9_readSounds_167 : decode cX9_readSounds 167 = .ok (.aload_n 0, 1) := by decide +kernel
theorem dX9_readSounds_168 : decode cX9_readSounds 168 = .ok (.getfield 13, 3) := by decide +kernel
theorem dX9_readSounds_171 : decode cX9_readSounds 171 = .ok (.iconst 2, 1) := by decide +kernel
theorem dX9_readSounds_172 : decode cX9_readSounds 172 = .ok (.iaload, 1) := by decide +kernel
theorem dX9_readSounds_173 : decode cX9_readSounds 173 = .ok (.bipush 6, 2) := by decide +kernel
theorem dX9_readSounds_175 : decode cX9_readSounds 175 = .ok (.if_icmp .ge 7, 3) := by decide +kernel
theorem dX9_readSounds_178 : decode cX9_readSounds 178 = .ok (.iconst 1, 1) := by decide +kernel
theorem dX9_readSounds_179 : decode cX9_readSounds 179 = .ok (.goto 4, 3) := by decide +kernel
theorem dX9_readSounds_182 : decode cX9_readSounds 182 = .ok (.iconst 0, 1) := by decide +kernel
theorem dX9_readSounds_183 : decode cX9_readSounds 183 = .ok (.istore_n 1, 1) := by decide +kernel
theorem dX9_readSounds_184 : decode cX9_readSounds 184 = .ok (.aload_n 0, 1) := by decide +kernel
theorem dX9_readSounds_185 : decode cX9_readSounds 185 = .ok (.dup, 1) := by decide +kernel
theorem dX9_readSounds_186 : decode cX9_readSounds 186 = .ok (.getfield 86, 3) := by decide +kernel
theorem dX9_readSounds_189 : decode cX9_readSounds 189 = .ok (.iload_n 1, 1) := by decide +kernel
theorem dX9_readSounds_190 : decode cX9_readSounds 190 = .ok (.ifCond .eq 7, 3) := by decide +kernel
theorem dX9_readSounds_193 : decode cX9_readSounds 193 = .ok (.iconst 1, 1) := by decide +kernel
theorem dX9_readSounds_194 : decode cX9_readSounds 194 = .ok (.goto 4, 3) := by decide +kernel
theorem dX9_readSounds_197 : decode cX9_readSounds 197 = .ok (.iconst 0, 1) := by decide +kernel
theorem dX9_readSounds_198 : decode cX9_readSounds 198 = .ok (.iadd, 1) := by decide +kernel
theorem dX9_readSounds_199 : decode cX9_readSounds 199 = .ok (.putfield 86, 3) := by decide +kernel
theorem dX9_readSounds_202 : decode cX9_readSounds 202 = .ok (.goto (-200), 3) := by decide +kernel
theorem dX9_readSounds_205 : decode cX9_readSounds 205 = .ok (.aload_n 0, 1) := by decide +kernel
theorem dX9_readSounds_206 : decode cX9_readSounds 206 = .ok (.bipush 59, 2) := by decide +kernel
theorem dX9_readSounds_208 : decode cX9_readSounds 208 = .ok (.invokevirtual 96, 3) := by decide +kernel
theorem dX9_readSounds_211 : decode cX9_readSounds 211 = .ok (.return_, 1) := by decide +kernel
def X9_readSounds_L29 (v6 : Int32) : Nat → Int32 → Rec → Option (Int32 × Rec)
  | 0, _, _ => none
  | n29 + 1, v7, Z8 => (X9_now Z8).bind fun v10 =>
    if (X9_soundBy v10) = (-4 : Int32) then
      some (v7, Z8)
    else
      if v6 ≤ v7 then
        some (v7, Z8)
      else
        (rdI (Z8.2.1 1) 96 (2 : Int32)).bind fun v13 =>
        (X9_now Z8).bind fun v14 =>
        (wrI (Z8.2.1 1) 96 (((16 : Int32) + ((6 : Int32) * v13)) + v7) (X9_soundBy v14)).bind fun w15 =>
        aLet (v7 + (1 : Int32)) fun v17 =>
        X9_readSounds_L29 v6 n29 v17 (sI (sA Z8 1 w15) 7 (((sA Z8 1 w15).1 7) + (1 : Int32)))
def X9_readSounds_J183 (Z21 : Rec) (w25 : (Nat → Int32)) (w29 : (Nat → Int32)) (k2 : Int32 → Rec → Option (Rec)) (v32 : Int32) : Option (Rec) :=
  if v32 = 0 then
    k2 v32 (sI (sA (sA Z21 1 w25) 1 w29) 7 (((sA (sA Z21 1 w25) 1 w29).1 7) + (0 : Int32)))
  else
    k2 v32 (sI (sA (sA Z21 1 w25) 1 w29) 7 (((sA (sA Z21 1 w25) 1 w29).1 7) + (1 : Int32)))
def X9_readSounds_J182 (Z21 : Rec) (w25 : (Nat → Int32)) (w29 : (Nat → Int32)) (k2 : Int32 → Rec → Option (Rec)) : Option (Rec) :=
  X9_readSounds_J183 Z21 w25 w29 (k2) (0 : Int32)
def X9_readSounds_J156 (Z21 : Rec) (w25 : (Nat → Int32)) (v27 : Int32) (k2 : Int32 → Rec → Option (Rec)) (v28 : Int32) : Option (Rec) :=
  (wrI ((sA Z21 1 w25).2.1 1) 96 (2 : Int32) (v27 + v28)).bind fun w29 =>
  (X9_now (sA (sA Z21 1 w25) 1 w29)).bind fun v31 =>
  if v31 = (47 : Int32) then
    (rdI ((sA (sA Z21 1 w25) 1 w29).2.1 1) 96 (2 : Int32)).bind fun v37 =>
    if (6 : Int32) ≤ v37 then
      X9_readSounds_J182 Z21 w25 w29 (k2)
    else
      X9_readSounds_J183 Z21 w25 w29 (k2) (1 : Int32)
  else
    X9_readSounds_J182 Z21 w25 w29 (k2)
def X9_readSounds_J134 (Z21 : Rec) (k2 : Int32 → Rec → Option (Rec)) (v24 : Int32) : Option (Rec) :=
  (wrI (Z21.2.1 1) 96 (1 : Int32) v24).bind fun w25 =>
  (rdI ((sA Z21 1 w25).2.1 1) 96 (2 : Int32)).bind fun v27 =>
  if ((sA Z21 1 w25).1 8) = (-4 : Int32) then
    X9_readSounds_J156 Z21 w25 v27 (k2) (1 : Int32)
  else
    X9_readSounds_J156 Z21 w25 v27 (k2) (0 : Int32)
def X9_readSounds_J110 (e19 : (Int32 × Rec)) (k2 : Int32 → Rec → Option (Rec)) (Z21 : Rec) : Option (Rec) :=
  (rdI (Z21.2.1 1) 96 (2 : Int32)).bind fun v23 =>
  if v23 = 0 then
    X9_readSounds_J134 Z21 (k2) e19.1
  else
    (rdI (Z21.2.1 1) 96 (1 : Int32)).bind fun v41 =>
    X9_readSounds_J134 Z21 (k2) v41
def X9_readSounds_J106 (e19 : (Int32 × Rec)) (k2 : Int32 → Rec → Option (Rec)) : Option (Rec) :=
  X9_readSounds_J110 e19 (k2) (X9_wrong e19.2)
def X9_readSounds_J26 (Z2 : Rec) (k2 : Int32 → Rec → Option (Rec)) (v6 : Int32) : Option (Rec) :=
  (X9_readSounds_L29 v6 aFu (0 : Int32) Z2).bind fun e19 =>
  if e19.1 = 0 then
    X9_readSounds_J106 e19 (k2)
  else
    (rdI (e19.2.2.1 1) 96 (2 : Int32)).bind fun v44 =>
    if v44 ≤ 0 then
      X9_readSounds_J110 e19 (k2) e19.2
    else
      if v6 ≤ e19.1 then
        X9_readSounds_J110 e19 (k2) e19.2
      else
        X9_readSounds_J106 e19 (k2)
def X9_readSounds_L2 : Nat → Int32 → Rec → Option (Rec)
  | 0, _, _ => none
  | n2 + 1, v1, Z2 => if v1 = 0 then
      some Z2
    else
      (rdI (Z2.2.1 1) 96 (2 : Int32)).bind fun v5 =>
      if v5 = 0 then
        X9_readSounds_J26 Z2 (X9_readSounds_L2 n2) (6 : Int32)
      else
        (rdI (Z2.2.1 1) 96 (1 : Int32)).bind fun v48 =>
        X9_readSounds_J26 Z2 (X9_readSounds_L2 n2) v48
def X9_readSounds (S0 : Rec) : Option (Rec) :=
  (X9_readSounds_L2 aFu (1 : Int32) S0).bind fun e49 =>
  (X9_must e49 (59 : Int32)).bind fun v51 =>
  some v51
set_option maxRecDepth 100000 in
set_option maxHeartbeats 4000000 in
theorem X9_readSounds_ok (l : Launch) {h : aH} {nx : Nat} {a0 : Nat} {S0 : Rec} (hB0 : X9_at h a0 S0) {r : Rec} (hF : X9_readSounds S0 = some r) : aOk l 2 0 0 yX9_readSounds cX9_readSounds 4 none [.ref a0] h nx (aMt none nx (fun h1 => X9_at h1 a0 r ∧ (∀ q, (q < a0 ∨ a0 + 20 ≤ q) → h1 q = h q))) := by
  refine aOk.of (by decide +kernel) (Nat.le_of_ble_eq_true rfl) (fun X G hX C R0 _ => ?_)
  subst hX
  show aV X G 4 0 [(0, .ref a0)] [] h nx 0 0
  have hFr : ∀ q, (q < a0 ∨ a0 + 20 ≤ q) → h q = h q := fun _ _ => rfl
  rw [X9_readSounds] at hF
  refine ab_iconst (v := (1 : Int32)) C dX9_readSounds_0 (by decide) ?_
  refine ab_istore_n (lv' := [(1, .int (1 : Int32)), (0, .ref a0)]) C dX9_readSounds_1 rfl (by decide) rfl ?_
  have L2 : ∀ (n2 : Nat) (v1 : Int32) (Z2 : Rec) (g3 : aH), (X9_at g3 a0 Z2) → (∀ q, (q < a0 ∨ a0 + 20 ≤ q) → g3 q = h q) → ∀ (res2 : Rec), X9_readSounds_L2 n2 v1 Z2 = some res2 → (∀ (q9 : aH), (X9_at q9 a0 res2) → (∀ q, (q < a0 ∨ a0 + 20 ≤ q) → q9 q = h q) → aV X G 4 205 [(0, .ref a0)] [] q9 nx 0 0) → aV X G 4 2 [(0, .ref a0), (1, .int v1)] [] g3 nx 0 0 := by
    intro n2
    induction n2 with
    | zero => intro v1 Z2 g3 hB0 hFr res2 hF KX2; cases (show (none : Option (Rec)) = some res2 from hF)
    | succ n2 ih2 =>
      intro v1 Z2 g3 hB0 hFr res2 hF KX2
      rw [X9_readSounds_L2] at hF
      refine ab_iload_n C 1 rfl rfl dX9_readSounds_2 ?_
      refine ab_if_eq C 205 dX9_readSounds_3 (by decide) (fun c4 => ?_) (fun c4 => ?_)
      · replace hF := (if_pos c4).symm.trans hF
        obtain rfl := Option.some.inj hF
        refine aV.sub (lv' := [(0, .ref a0)]) [0] rfl ?_
        exact KX2 g3 hB0 hFr
      · replace hF := (if_neg c4).symm.trans hF
        refine ab_aload_n C 0 rfl rfl dX9_readSounds_6 ?_
        refine ab_g9 (v := .ref (a0 + 2)) C lf_X9_13 hB0.1 rfl dX9_readSounds_7 ?_
        refine ab_iconst (v := (2 : Int32)) C dX9_readSounds_10 (by decide) ?_
        obtain ⟨v5, hxv5, hF⟩ := Option.bind_eq_some_iff.mp hF
        refine ab_iald C (X9_r1 hB0) hxv5 dX9_readSounds_11 ?_
        have J26 : ∀ (v6 : Int32), X9_readSounds_J26 Z2 (X9_readSounds_L2 n2) v6 = some res2 → aV X G 4 26 [(0, .ref a0)] [.int v6] g3 nx 0 0 := by
          intro v6 hF
          rw [X9_readSounds_J26] at hF
          refine ab_istore_n (lv' := [(2, .int v6), (0, .ref a0)]) C dX9_readSounds_26 rfl (by decide) rfl ?_
          refine ab_iconst (v := (0 : Int32)) C dX9_readSounds_27 (by decide) ?_
          refine ab_istore_n (lv' := [(3, .int (0 : Int32)), (2, .int v6), (0, .ref a0)]) C dX9_readSounds_28 rfl (by decide) rfl ?_
          have L29 : ∀ (n29 : Nat) (v7 : Int32) (Z8 : Rec) (g9 : aH), (X9_at g9 a0 Z8) → (∀ q, (q < a0 ∨ a0 + 20 ≤ q) → g9 q = h q) → ∀ (res29 : Int32 × Rec), X9_readSounds_L29 v6 n29 v7 Z8 = some res29 → (∀ (q9 : aH), (X9_at q9 a0 res29.2) → (∀ q, (q < a0 ∨ a0 + 20 ≤ q) → q9 q = h q) → aV X G 4 88 [(0, .ref a0), (2, .int v6), (3, .int res29.1)] [] q9 nx 0 0) → aV X G 4 29 [(0, .ref a0), (2, .int v6), (3, .int v7)] [] g9 nx 0 0 := by
            intro n29
            induction n29 with
            | zero => intro v7 Z8 g9 hB0 hFr res29 hF KX29; cases (show (none : Option (Int32 × Rec)) = some res29 from hF)
            | succ n29 ih29 =>
              intro v7 Z8 g9 hB0 hFr res29 hF KX29
              rw [X9_readSounds_L29] at hF
              refine ab_aload_n C 0 rfl rfl dX9_readSounds_29 ?_
              obtain ⟨v10, hxv10, hF⟩ := Option.bind_eq_some_iff.mp hF
              refine ab_cVR (v := .int v10) (st := []) C lm_X9_89 (X9_now_ok (xl X) hB0 (r := v10) hxv10) [] rfl hB0.1 rfl rfl rfl (by decide) ⟨Nat.zero_le _, Nat.zero_le _⟩ (Nat.le_of_ble_eq_true rfl) dX9_readSounds_30 ?_
              refine ab_cSR (v := .int (X9_soundBy v10)) (st := []) C lm_X9_103 (X9_soundBy_ok (xl X) (r := (X9_soundBy v10)) rfl) rfl rfl (by decide) ⟨Nat.zero_le _, Nat.zero_le _⟩ (Nat.le_of_ble_eq_true rfl) dX9_readSounds_33 ?_
              refine ab_bipush (v := (-4 : Int32)) C dX9_readSounds_36 (by decide) ?_
              refine ab_icmp_eq C 88 dX9_readSounds_38 (by decide) (fun c11 => ?_) (fun c11 => ?_)
              · replace hF := (if_pos c11).symm.trans hF
                obtain rfl := Option.some.inj hF
                exact KX29 g9 hB0 hFr
              · replace hF := (if_neg c11).symm.trans hF
                refine ab_iload_n C 2 rfl rfl dX9_readSounds_41 ?_
                refine ab_iload_n C 1 rfl rfl dX9_readSounds_42 ?_
                refine ab_icmp_ge C 88 dX9_readSounds_43 (by decide) (fun c12 => ?_) (fun c12 => ?_)
                · replace hF := (if_pos c12).symm.trans hF
                  obtain rfl := Option.some.inj hF
                  exact KX29 g9 hB0 hFr
                · replace hF := (if_neg c12).symm.trans hF
                  refine ab_aload_n C 0 rfl rfl dX9_readSounds_46 ?_
                  refine ab_g9 (v := .ref (a0 + 2)) C lf_X9_13 hB0.1 rfl dX9_readSounds_47 ?_
                  refine ab_bipush (v := (16 : Int32)) C dX9_readSounds_50 (by decide) ?_
                  refine ab_bipush (v := (6 : Int32)) C dX9_readSounds_52 (by decide) ?_
                  refine ab_aload_n C 0 rfl rfl dX9_readSounds_54 ?_
                  refine ab_g9 (v := .ref (a0 + 2)) C lf_X9_13 hB0.1 rfl dX9_readSounds_55 ?_
                  refine ab_iconst (v := (2 : Int32)) C dX9_readSounds_58 (by decide) ?_
                  obtain ⟨v13, hxv13, hF⟩ := Option.bind_eq_some_iff.mp hF
                  refine ab_iald C (X9_r1 hB0) hxv13 dX9_readSounds_59 ?_
                  refine ab_imul C dX9_readSounds_60 ?_
                  refine ab_iadd C dX9_readSounds_61 ?_
                  refine ab_iload_n C 2 rfl rfl dX9_readSounds_62 ?_
                  refine ab_iadd C dX9_readSounds_63 ?_
                  refine ab_aload_n C 0 rfl rfl dX9_readSounds_64 ?_
                  obtain ⟨v14, hxv14, hF⟩ := Option.bind_eq_some_iff.mp hF
                  refine ab_cVR (v := .int v14) (st := [.int (((16 : Int32) + ((6 : Int32) * v13)) + v7), .ref (a0 + 2)]) C lm_X9_89 (X9_now_ok (xl X) hB0 (r := v14) hxv14) [] rfl hB0.1 rfl rfl rfl (by decide) ⟨Nat.zero_le _, Nat.zero_le _⟩ (Nat.le_of_ble_eq_true rfl) dX9_readSounds_65 ?_
                  refine ab_cSR (v := .int (X9_soundBy v14)) (st := [.int (((16 : Int32) + ((6 : Int32) * v13)) + v7), .ref (a0 + 2)]) C lm_X9_103 (X9_soundBy_ok (xl X) (r := (X9_soundBy v14)) rfl) rfl rfl (by decide) ⟨Nat.zero_le _, Nat.zero_le _⟩ (Nat.le_of_ble_eq_true rfl) dX9_readSounds_68 ?_
                  obtain ⟨w15, hxw15, hF⟩ := Option.bind_eq_some_iff.mp hF
                  refine ab_iast C (X9_r1 hB0) hxw15 dX9_readSounds_71 (fun g16 eg16 og16 => ?_)
                  have hB0 : X9_at g16 a0 (sA Z8 1 w15) := X9_w1 hB0 eg16 og16
                  have hFr : ∀ q, (q < a0 ∨ a0 + 20 ≤ q) → g16 q = h q := fun q u0 => (og16 q (by omega)).trans (hFr q u0)
                  obtain ⟨v17, qv17⟩ : ∃ y : Int32, y = (v7 + (1 : Int32)) := ⟨_, rfl⟩
                  replace hF := aLet_e hF v17 qv17
                  refine ab_iinc (lv' := [(3, .int v17), (0, .ref a0), (2, .int v6)]) C 2 rfl dX9_readSounds_72 (by rw [qv17]; rfl) (by decide) rfl ?_
                  refine ab_aload_n C 1 rfl rfl dX9_readSounds_75 ?_
                  refine ab_dup C rfl dX9_readSounds_76 ?_
                  refine ab_g9 (v := .int ((sA Z8 1 w15).1 7)) C lf_X9_86 hB0.1 rfl dX9_readSounds_77 ?_
                  refine ab_iconst (v := (1 : Int32)) C dX9_readSounds_80 (by decide) ?_
                  refine ab_iadd C dX9_readSounds_81 ?_
                  refine ab_p9 (ty := .int) C lf_X9_86 rfl (by decide +kernel) rfl rfl (Nat.le_of_ble_eq_true rfl) hB0.1 dX9_readSounds_82 (fun g18 eg18 og18 => ?_)
                  have hB0 : X9_at g18 a0 (sI (sA Z8 1 w15) 7 (((sA Z8 1 w15).1 7) + (1 : Int32))) := X9_p7 hB0 eg18 og18
                  have hFr : ∀ q, (q < a0 ∨ a0 + 20 ≤ q) → g18 q = h q := fun q u0 => (og18 q (by omega)).trans (hFr q u0)
                  refine ab_goto C 29 dX9_readSounds_85 (by decide) ?_
                  refine aV.sub (lv' := [(0, .ref a0), (2, .int v6), (3, .int v17)]) [1, 2, 0] rfl ?_
                  exact ih29 v17 (sI (sA Z8 1 w15) 7 (((sA Z8 1 w15).1 7) + (1 : Int32))) g18 hB0 hFr res29 hF KX29
          refine aV.sub (lv' := [(0, .ref a0), (2, .int v6), (3, .int (0 : Int32))]) [2, 1, 0] rfl ?_
          obtain ⟨e19, he19, hF⟩ := Option.bind_eq_some_iff.mp hF
          refine L29 aFu (0 : Int32) Z2 g3 hB0 hFr e19 he19 (fun g20 hB0 hFr => ?_)
          refine ab_iload_n C 2 rfl rfl dX9_readSounds_88 ?_
          have J110 : ∀ (Z21 : Rec) (g22 : aH), (X9_at g22 a0 Z21) → (∀ q, (q < a0 ∨ a0 + 20 ≤ q) → g22 q = h q) → X9_readSounds_J110 e19 (X9_readSounds_L2 n2) Z21 = some res2 → aV X G 4 110 [(0, .ref a0), (3, .int e19.1)] [] g22 nx 0 0 := by
            intro Z21 g22 hB0 hFr hF
            rw [X9_readSounds_J110] at hF
            refine ab_aload_n C 0 rfl rfl dX9_readSounds_110 ?_
            refine ab_g9 (v := .ref (a0 + 2)) C lf_X9_13 hB0.1 rfl dX9_readSounds_111 ?_
            refine ab_iconst (v := (1 : Int32)) C dX9_readSounds_114 (by decide) ?_
            refine ab_aload_n C 0 rfl rfl dX9_readSounds_115 ?_
            refine ab_g9 (v := .ref (a0 + 2)) C lf_X9_13 hB0.1 rfl dX9_readSounds_116 ?_
            refine ab_iconst (v := (2 : Int32)) C dX9_readSounds_119 (by decide) ?_
            obtain ⟨v23, hxv23, hF⟩ := Option.bind_eq_some_iff.mp hF
            refine ab_iald C (X9_r1 hB0) hxv23 dX9_readSounds_120 ?_
            have J134 : ∀ (v24 : Int32), X9_readSounds_J134 Z21 (X9_readSounds_L2 n2) v24 = some res2 → aV X G 4 134 [(0, .ref a0)] [.int v24, .int (1 : Int32), .ref (a0 + 2)] g22 nx 0 0 := by
              intro v24 hF
              rw [X9_readSounds_J134] at hF
              obtain ⟨w25, hxw25, hF⟩ := Option.bind_eq_some_iff.mp hF
              refine ab_iast C (X9_r1 hB0) hxw25 dX9_readSounds_134 (fun g26 eg26 og26 => ?_)
              have hB0 : X9_at g26 a0 (sA Z21 1 w25) := X9_w1 hB0 eg26 og26
              have hFr : ∀ q, (q < a0 ∨ a0 + 20 ≤ q) → g26 q = h q := fun q u0 => (og26 q (by omega)).trans (hFr q u0)
              refine ab_aload_n C 0 rfl rfl dX9_readSounds_135 ?_
              refine ab_g9 (v := .ref (a0 + 2)) C lf_X9_13 hB0.1 rfl dX9_readSounds_136 ?_
              refine ab_iconst (v := (2 : Int32)) C dX9_readSounds_139 (by decide) ?_
              refine ab_dup2_11 C rfl rfl dX9_readSounds_140 ?_
              obtain ⟨v27, hxv27, hF⟩ := Option.bind_eq_some_iff.mp hF
              refine ab_iald C (X9_r1 hB0) hxv27 dX9_readSounds_141 ?_
              refine ab_aload_n C 0 rfl rfl dX9_readSounds_142 ?_
              refine ab_g9 (v := .int ((sA Z21 1 w25).1 8)) C lf_X9_83 hB0.1 rfl dX9_readSounds_143 ?_
              refine ab_bipush (v := (-4 : Int32)) C dX9_readSounds_146 (by decide) ?_
              have J156 : ∀ (v28 : Int32), X9_readSounds_J156 Z21 w25 v27 (X9_readSounds_L2 n2) v28 = some res2 → aV X G 4 156 [(0, .ref a0)] [.int v28, .int v27, .int (2 : Int32), .ref (a0 + 2)] g26 nx 0 0 := by
                intro v28 hF
                rw [X9_readSounds_J156] at hF
                refine ab_iadd C dX9_readSounds_156 ?_
                obtain ⟨w29, hxw29, hF⟩ := Option.bind_eq_some_iff.mp hF
                refine ab_iast C (X9_r1 hB0) hxw29 dX9_readSounds_157 (fun g30 eg30 og30 => ?_)
                have hB0 : X9_at g30 a0 (sA (sA Z21 1 w25) 1 w29) := X9_w1 hB0 eg30 og30
                have hFr : ∀ q, (q < a0 ∨ a0 + 20 ≤ q) → g30 q = h q := fun q u0 => (og30 q (by omega)).trans (hFr q u0)
                refine ab_aload_n C 0 rfl rfl dX9_readSounds_158 ?_
                obtain ⟨v31, hxv31, hF⟩ := Option.bind_eq_some_iff.mp hF
                refine ab_cVR (v := .int v31) (st := []) C lm_X9_89 (X9_now_ok (xl X) hB0 (r := v31) hxv31) [] rfl hB0.1 rfl rfl rfl (by decide) ⟨Nat.zero_le _, Nat.zero_le _⟩ (Nat.le_of_ble_eq_true rfl) dX9_readSounds_159 ?_
                refine ab_bipush (v := (47 : Int32)) C dX9_readSounds_162 (by decide) ?_
                have J183 : ∀ (v32 : Int32), X9_readSounds_J183 Z21 w25 w29 (X9_readSounds_L2 n2) v32 = some res2 → aV X G 4 183 [(0, .ref a0)] [.int v32] g30 nx 0 0 := by
                  intro v32 hF
                  rw [X9_readSounds_J183] at hF
                  refine ab_istore_n (lv' := [(1, .int v32), (0, .ref a0)]) C dX9_readSounds_183 rfl (by decide) rfl ?_
                  refine ab_aload_n C 1 rfl rfl dX9_readSounds_184 ?_
                  refine ab_dup C rfl dX9_readSounds_185 ?_
                  refine ab_g9 (v := .int ((sA (sA Z21 1 w25) 1 w29).1 7)) C lf_X9_86 hB0.1 rfl dX9_readSounds_186 ?_
                  refine ab_iload_n C 0 rfl rfl dX9_readSounds_189 ?_
                  refine ab_if_eq C 197 dX9_readSounds_190 (by decide) (fun c33 => ?_) (fun c33 => ?_)
                  · replace hF := (if_pos c33).symm.trans hF
                    refine ab_iconst (v := (0 : Int32)) C dX9_readSounds_197 (by decide) ?_
                    refine ab_iadd C dX9_readSounds_198 ?_
                    refine ab_p9 (ty := .int) C lf_X9_86 rfl (by decide +kernel) rfl rfl (Nat.le_of_ble_eq_true rfl) hB0.1 dX9_readSounds_199 (fun g34 eg34 og34 => ?_)
                    have hB0 : X9_at g34 a0 (sI (sA (sA Z21 1 w25) 1 w29) 7 (((sA (sA Z21 1 w25) 1 w29).1 7) + (0 : Int32))) := X9_p7 hB0 eg34 og34
                    have hFr : ∀ q, (q < a0 ∨ a0 + 20 ≤ q) → g34 q = h q := fun q u0 => (og34 q (by omega)).trans (hFr q u0)
                    refine ab_goto C 2 dX9_readSounds_202 (by decide) ?_
                    refine aV.sub (lv' := [(0, .ref a0), (1, .int v32)]) [1, 0] rfl ?_
                    exact ih2 v32 (sI (sA (sA Z21 1 w25) 1 w29) 7 (((sA (sA Z21 1 w25) 1 w29).1 7) + (0 : Int32))) g34 hB0 hFr res2 hF KX2
                  · replace hF := (if_neg c33).symm.trans hF
                    refine ab_iconst (v := (1 : Int32)) C dX9_readSounds_193 (by decide) ?_
                    refine ab_goto C 198 dX9_readSounds_194 (by decide) ?_
                    refine ab_iadd C dX9_readSounds_198 ?_
                    refine ab_p9 (ty := .int) C lf_X9_86 rfl (by decide +kernel) rfl rfl (Nat.le_of_ble_eq_true rfl) hB0.1 dX9_readSounds_199 (fun g35 eg35 og35 => ?_)
                    have hB0 : X9_at g35 a0 (sI (sA (sA Z21 1 w25) 1 w29) 7 (((sA (sA Z21 1 w25) 1 w29).1 7) + (1 : Int32))) := X9_p7 hB0 eg35 og35
                    have hFr : ∀ q, (q < a0 ∨ a0 + 20 ≤ q) → g35 q = h q := fun q u0 => (og35 q (by omega)).trans (hFr q u0)
                    refine ab_goto C 2 dX9_readSounds_202 (by decide) ?_
                    refine aV.sub (lv' := [(0, .ref a0), (1, .int v32)]) [1, 0] rfl ?_
                    exact ih2 v32 (sI (sA (sA Z21 1 w25) 1 w29) 7 (((sA (sA Z21 1 w25) 1 w29).1 7) + (1 : Int32))) g35 hB0 hFr res2 hF KX2
                have J182 : X9_readSounds_J182 Z21 w25 w29 (X9_readSounds_L2 n2) = some res2 → aV X G 4 182 [(0, .ref a0)] [] g30 nx 0 0 := by
                  intro  hF
                  rw [X9_readSounds_J182] at hF
                  refine ab_iconst (v := (0 : Int32)) C dX9_readSounds_182 (by decide) ?_
                  exact J183 (0 : Int32) hF
                refine ab_icmp_ne C 182 dX9_readSounds_164 (by decide) (fun c36 => ?_) (fun c36 => ?_)
                · replace hF := (if_neg c36).symm.trans hF
                  exact J182 hF
                · replace hF := (if_pos c36).symm.trans hF
                  refine ab_aload_n C 0 rfl rfl dX9_readSounds_167 ?_
                  refine ab_g9 (v := .ref (a0 + 2)) C lf_X9_13 hB0.1 rfl dX9_readSounds_168 ?_
                  refine ab_iconst (v := (2 : Int32)) C dX9_readSounds_171 (by decide) ?_
                  obtain ⟨v37, hxv37, hF⟩ := Option.bind_eq_some_iff.mp hF
                  refine ab_iald C (X9_r1 hB0) hxv37 dX9_readSounds_172 ?_
                  refine ab_bipush (v := (6 : Int32)) C dX9_readSounds_173 (by decide) ?_
                  refine ab_icmp_ge C 182 dX9_readSounds_175 (by decide) (fun c38 => ?_) (fun c38 => ?_)
                  · replace hF := (if_pos c38).symm.trans hF
                    exact J182 hF
                  · replace hF := (if_neg c38).symm.trans hF
                    refine ab_iconst (v := (1 : Int32)) C dX9_readSounds_178 (by decide) ?_
                    refine ab_goto C 183 dX9_readSounds_179 (by decide) ?_
                    exact J183 (1 : Int32) hF
              refine ab_icmp_ne C 155 dX9_readSounds_148 (by decide) (fun c39 => ?_) (fun c39 => ?_)
              · replace hF := (if_neg c39).symm.trans hF
                refine ab_iconst (v := (0 : Int32)) C dX9_readSounds_155 (by decide) ?_
                exact J156 (0 : Int32) hF
              · replace hF := (if_pos c39).symm.trans hF
                refine ab_iconst (v := (1 : Int32)) C dX9_readSounds_151 (by decide) ?_
                refine ab_goto C 156 dX9_readSounds_152 (by decide) ?_
                exact J156 (1 : Int32) hF
            refine ab_if_ne C 128 dX9_readSounds_121 (by decide) (fun c40 => ?_) (fun c40 => ?_)
            · replace hF := (if_neg c40).symm.trans hF
              refine ab_aload_n C 0 rfl rfl dX9_readSounds_128 ?_
              refine ab_g9 (v := .ref (a0 + 2)) C lf_X9_13 hB0.1 rfl dX9_readSounds_129 ?_
              refine ab_iconst (v := (1 : Int32)) C dX9_readSounds_132 (by decide) ?_
              obtain ⟨v41, hxv41, hF⟩ := Option.bind_eq_some_iff.mp hF
              refine ab_iald C (X9_r1 hB0) hxv41 dX9_readSounds_133 ?_
              refine aV.sub (lv' := [(0, .ref a0)]) [0] rfl ?_
              exact J134 v41 hF
            · replace hF := (if_pos c40).symm.trans hF
              refine ab_iload_n C 1 rfl rfl dX9_readSounds_124 ?_
              refine ab_goto C 134 dX9_readSounds_125 (by decide) ?_
              refine aV.sub (lv' := [(0, .ref a0)]) [0] rfl ?_
              exact J134 e19.1 hF
          have J106 : X9_readSounds_J106 e19 (X9_readSounds_L2 n2) = some res2 → aV X G 4 106 [(0, .ref a0), (3, .int e19.1)] [] g20 nx 0 0 := by
            intro  hF
            rw [X9_readSounds_J106] at hF
            refine ab_aload_n C 0 rfl rfl dX9_readSounds_106 ?_
            refine ab_cVN (st := []) C lm_X9_93 (X9_wrong_ok (xl X) hB0 (r := (X9_wrong e19.2)) rfl) [] rfl hB0.1 rfl rfl rfl (by decide) ⟨Nat.zero_le _, Nat.zero_le _⟩ (Nat.le_of_ble_eq_true rfl) dX9_readSounds_107 (fun g42 pg42 => ?_)
            obtain ⟨k0, Og42⟩ := pg42
            have hB0 : X9_at g42 a0 (X9_wrong e19.2) := k0
            have hFr : ∀ q, (q < a0 ∨ a0 + 20 ≤ q) → g42 q = h q := fun q u0 => (Og42 q (by omega)).trans (hFr q u0)
            exact J110 (X9_wrong e19.2) g42 hB0 hFr hF
          refine ab_if_eq C 106 dX9_readSounds_89 (by decide) (fun c43 => ?_) (fun c43 => ?_)
          · replace hF := (if_pos c43).symm.trans hF
            refine aV.sub (lv' := [(0, .ref a0), (3, .int e19.1)]) [0, 2] rfl ?_
            exact J106 hF
          · replace hF := (if_neg c43).symm.trans hF
            refine ab_aload_n C 0 rfl rfl dX9_readSounds_92 ?_
            refine ab_g9 (v := .ref (a0 + 2)) C lf_X9_13 hB0.1 rfl dX9_readSounds_93 ?_
            refine ab_iconst (v := (2 : Int32)) C dX9_readSounds_96 (by decide) ?_
            obtain ⟨v44, hxv44, hF⟩ := Option.bind_eq_some_iff.mp hF
            refine ab_iald C (X9_r1 hB0) hxv44 dX9_readSounds_97 ?_
            refine ab_if_le C 110 dX9_readSounds_98 (by decide) (fun c45 => ?_) (fun c45 => ?_)
            · replace hF := (if_pos c45).symm.trans hF
              refine aV.sub (lv' := [(0, .ref a0), (3, .int e19.1)]) [0, 2] rfl ?_
              exact J110 e19.2 g20 hB0 hFr hF
            · replace hF := (if_neg c45).symm.trans hF
              refine ab_iload_n C 2 rfl rfl dX9_readSounds_101 ?_
              refine ab_iload_n C 1 rfl rfl dX9_readSounds_102 ?_
              refine ab_icmp_ge C 110 dX9_readSounds_103 (by decide) (fun c46 => ?_) (fun c46 => ?_)
              · replace hF := (if_pos c46).symm.trans hF
                refine aV.sub (lv' := [(0, .ref a0), (3, .int e19.1)]) [0, 2] rfl ?_
                exact J110 e19.2 g20 hB0 hFr hF
              · replace hF := (if_neg c46).symm.trans hF
                refine aV.sub (lv' := [(0, .ref a0), (3, .int e19.1)]) [0, 2] rfl ?_
                exact J106 hF
        refine ab_if_ne C 20 dX9_readSounds_12 (by decide) (fun c47 => ?_) (fun c47 => ?_)
        · replace hF := (if_neg c47).symm.trans hF
          refine ab_aload_n C 0 rfl rfl dX9_readSounds_20 ?_
          refine ab_g9 (v := .ref (a0 + 2)) C lf_X9_13 hB0.1 rfl dX9_readSounds_21 ?_
          refine ab_iconst (v := (1 : Int32)) C dX9_readSounds_24 (by decide) ?_
          obtain ⟨v48, hxv48, hF⟩ := Option.bind_eq_some_iff.mp hF
          refine ab_iald C (X9_r1 hB0) hxv48 dX9_readSounds_25 ?_
          refine aV.sub (lv' := [(0, .ref a0)]) [0] rfl ?_
          exact J26 v48 hF
        · replace hF := (if_pos c47).symm.trans hF
          refine ab_bipush (v := (6 : Int32)) C dX9_readSounds_15 (by decide) ?_
          refine ab_goto C 26 dX9_readSounds_17 (by decide) ?_
          refine aV.sub (lv' := [(0, .ref a0)]) [0] rfl ?_
          exact J26 (6 : Int32) hF
  refine aV.sub (lv' := [(0, .ref a0), (1, .int (1 : Int32))]) [1, 0] rfl ?_
  obtain ⟨e49, he49, hF⟩ := Option.bind_eq_some_iff.mp hF
  refine L2 aFu (1 : Int32) S0 h hB0 hFr e49 he49 (fun g50 hB0 hFr => ?_)
  refine ab_aload_n C 0 rfl rfl dX9_readSounds_205 ?_
  refine ab_bipush (v := (59 : Int32)) C dX9_readSounds_206 (by decide) ?_
  obtain ⟨v51, hxv51, hF⟩ := Option.bind_eq_some_iff.mp hF
  refine ab_cVN (st := []) C lm_X9_96 (X9_must_ok (xl X) hB0 (r := v51) hxv51) [.int (59 : Int32)] rfl hB0.1 rfl rfl rfl (by decide) ⟨Nat.zero_le _, Nat.zero_le _⟩ (Nat.le_of_ble_eq_true rfl) dX9_readSounds_208 (fun g52 pg52 => ?_)
  obtain ⟨k0, Og52⟩ := pg52
  have hB0 : X9_at g52 a0 v51 := k0
  have hFr : ∀ q, (q < a0 ∨ a0 + 20 ≤ q) → g52 q = h q := fun q u0 => (Og52 q (by omega)).trans (hFr q u0)
  obtain rfl := Option.some.inj hF
  exact ab_vret C R0 dX9_readSounds_211 ⟨rfl, rfl, hB0, hFr⟩
theorem dX9_ownerBy_0 : decode cX9_ownerBy 0 = .ok (.iload_n 1, 1) := by decide +kernel
theorem dX9_ownerBy_1 : decode cX9_ownerBy 1 = .ok (.bipush 46, 2) := by decide +kernel
theorem dX9_ownerBy_3 : decode cX9_ownerBy 3 = .ok (.if_icmp .ne 7, 3) := by decide +kernel
theorem dX9_ownerBy_6 : decode cX9_ownerBy 6 = .ok (.iconst 0, 1) := by decide +kernel
theorem dX9_ownerBy_7 : decode cX9_ownerBy 7 = .ok (.goto 37, 3) := by decide +kernel
theorem dX9_ownerBy_10 : decode cX9_ownerBy 10 = .ok (.iload_n 1, 1) := by decide +kernel
theorem dX9_ownerBy_11 : decode cX9_ownerBy 11 = .ok (.i2l, 1) := by decide +kernel
theorem dX9_ownerBy_12 : decode cX9_ownerBy 12 = .ok (.ldc2_w 106, 3) := by decide +kernel
theorem dX9_ownerBy_15 : decode cX9_ownerBy 15 = .ok (.bipush 48, 2) := by decide +kernel
theorem dX9_ownerBy_17 : decode cX9_ownerBy 17 = .ok (.aload_n 0, 1) := by decide +kernel
theorem dX9_ownerBy_18 : decode cX9_ownerBy 18 = .ok (.getfield 13, 3) := by decide +kernel
theorem dX9_ownerBy_21 : decode cX9_ownerBy 21 = .ok (.iconst 0, 1) := by decide +kernel
theorem dX9_ownerBy_22 : decode cX9_ownerBy 22 = .ok (.iaload, 1) := by decide +kernel
theorem dX9_ownerBy_23 : decode cX9_ownerBy 23 = .ok (.iadd, 1) := by decide +kernel
theorem dX9_ownerBy_24 : decode cX9_ownerBy 24 = .ok (.iconst 1, 1) := by decide +kernel
theorem dX9_ownerBy_25 : decode cX9_ownerBy 25 = .ok (.isub, 1) := by decide +kernel
theorem dX9_ownerBy_26 : decode cX9_ownerBy 26 = .ok (.i2l, 1) := by decide +kernel
theorem dX9_ownerBy_27 : decode cX9_ownerBy 27 = .ok (.invokestatic 69, 3) := by decide +kernel
theorem dX9_ownerBy_30 : decode cX9_ownerBy 30 = .ok (.ifCond .eq 12, 3) := by decide +kernel
theorem dX9_ownerBy_33 : decode cX9_ownerBy 33 = .ok (.iload_n 1, 1) := by decide +kernel
theorem dX9_ownerBy_34 : decode cX9_ownerBy 34 = .ok (.bipush 48, 2) := by decide +kernel
theorem dX9_ownerBy_36 : decode cX9_ownerBy 36 = .ok (.isub, 1) := by decide +kernel
theorem dX9_ownerBy_37 : decode cX9_ownerBy 37 = .ok (.iconst 1, 1) := by decide +kernel
theorem dX9_ownerBy_38 : decode cX9_ownerBy 38 = .ok (.iadd, 1) := by decide +kernel
theorem dX9_ownerBy_39 : decode cX9_ownerBy 39 = .ok (.goto 5, 3) := by decide +kernel
theorem dX9_ownerBy_42 : decode cX9_ownerBy 42 = .ok (.bipush (-4), 2) := by decide +kernel
theorem dX9_ownerBy_44 : decode cX9_ownerBy 44 = .ok (.ireturn, 1) := by decide +kernel
def X9_ownerBy (S0 : Rec) (x1 : Int32) : Option (Int32) :=
  if x1 = (46 : Int32) then
    some (0 : Int32)
  else
    (rdI (S0.2.1 1) 96 (0 : Int32)).bind fun v2 =>
    if (X9_in (x1.toInt64) (48 : Int64) ((((48 : Int32) + v2) - (1 : Int32)).toInt64)) = 0 then
      some (-4 : Int32)
    else
      some ((x1 - (48 : Int32)) + (1 : Int32))
set_option maxRecDepth 100000 in
set_option maxHeartbeats 4000000 in
theorem X9_ownerBy_ok (l : Launch) {h : aH} {nx : Nat} {a0 : Nat} {S0 : Rec} {x1 : Int32} (hB0 : X9_at h a0 S0) {r : Int32} (hF : X9_ownerBy S0 x1 = some r) : aOk l 1 0 0 yX9_ownerBy cX9_ownerBy 2 (some .int) [.ref a0, .int x1] h nx (aRd (.int r) h nx) := by
  refine aOk.of (by decide +kernel) (Nat.le_of_ble_eq_true rfl) (fun X G hX C R0 _ => ?_)
  subst hX
  show aV X G 2 0 [(0, .ref a0), (1, .int x1)] [] h nx 0 0
  rw [X9_ownerBy] at hF
  refine ab_iload_n C 1 rfl rfl dX9_ownerBy_0 ?_
  refine ab_bipush (v := (46 : Int32)) C dX9_ownerBy_1 (by decide) ?_
  refine ab_icmp_ne C 10 dX9_ownerBy_3 (by decide) (fun c1 => ?_) (fun c1 => ?_)
  · replace hF := (if_neg c1).symm.trans hF
    refine ab_iload_n C 1 rfl rfl dX9_ownerBy_10 ?_
    refine ab_i2l C dX9_ownerBy_11 ?_
    refine ab_ldc2 (v := (48 : Int64)) C dX9_ownerBy_12 lq_X9_106 ?_
    refine ab_bipush (v := (48 : Int32)) C dX9_ownerBy_15 (by decide) ?_
    refine ab_aload_n C 0 rfl rfl dX9_ownerBy_17 ?_
    refine ab_g9 (v := .ref (a0 + 2)) C lf_X9_13 hB0.1 rfl dX9_ownerBy_18 ?_
    refine ab_iconst (v := (0 : Int32)) C dX9_ownerBy_21 (by decide) ?_
    obtain ⟨v2, hxv2, hF⟩ := Option.bind_eq_some_iff.mp hF
    refine ab_iald C (X9_r1 hB0) hxv2 dX9_ownerBy_22 ?_
    refine ab_iadd C dX9_ownerBy_23 ?_
    refine ab_iconst (v := (1 : Int32)) C dX9_ownerBy_24 (by decide) ?_
    refine ab_isub C dX9_ownerBy_25 ?_
    refine ab_i2l C dX9_ownerBy_26 ?_
    refine ab_cSR (v := .int (X9_in (x1.toInt64) (48 : Int64) ((((48 : Int32) + v2) - (1 : Int32)).toInt64))) (st := []) C lm_X9_69 (X9_in_ok (xl X) (r := (X9_in (x1.toInt64) (48 : Int64) ((((48 : Int32) + v2) - (1 : Int32)).toInt64))) rfl) rfl rfl (by decide) ⟨Nat.zero_le _, Nat.zero_le _⟩ (Nat.le_of_ble_eq_true rfl) dX9_ownerBy_27 ?_
    refine ab_if_eq C 42 dX9_ownerBy_30 (by decide) (fun c3 => ?_) (fun c3 => ?_)
    · replace hF := (if_pos c3).symm.trans hF
      refine ab_bipush (v := (-4 : Int32)) C dX9_ownerBy_42 (by decide) ?_
      obtain rfl := Option.some.inj hF
      exact ab_iret C R0 rfl dX9_ownerBy_44 ⟨rfl, rfl, rfl⟩
    · replace hF := (if_neg c3).symm.trans hF
      refine ab_iload_n C 1 rfl rfl dX9_ownerBy_33 ?_
      refine ab_bipush (v := (48 : Int32)) C dX9_ownerBy_34 (by decide) ?_
      refine ab_isub C dX9_ownerBy_36 ?_
      refine ab_iconst (v := (1 : Int32)) C dX9_ownerBy_37 (by decide) ?_
      refine ab_iadd C dX9_ownerBy_38 ?_
      refine ab_goto C 44 dX9_ownerBy_39 (by decide) ?_
      obtain rfl := Option.some.inj hF
      exact ab_iret C R0 rfl dX9_ownerBy_44 ⟨rfl, rfl, rfl⟩
  · replace hF := (if_pos c1).symm.trans hF
    refine ab_iconst (v := (0 : Int32)) C dX9_ownerBy_6 (by decide) ?_
    refine ab_goto C 44 dX9_ownerBy_7 (by decide) ?_
    obtain rfl := Option.some.inj hF
    exact ab_iret C R0 rfl dX9_ownerBy_44 ⟨rfl, rfl, rfl⟩
theorem dX9_readWhose_0 : decode cX9_readWhose 0 = .ok (.iconst 0, 1) := by decide +kernel
theorem dX9_readWhose_1 : decode cX9_readWhose 1 = .ok (.istore_n 1, 1) := by decide +kernel
theorem dX9_readWhose_2 : decode cX9_readWhose 2 = .ok (.iload_n 1, 1) := by decide +kernel
theorem dX9_readWhose_3 : decode cX9_readWhose 3 = .ok (.aload_n 0, 1) := by decide +kernel
theorem dX9_readWhose_4 : decode cX9_readWhose 4 = .ok (.getfield 13, 3) := by decide +kernel
theorem dX9_readWhose_7 : decode cX9_readWhose 7 = .ok (.iconst 2, 1) := by decide +kernel
theorem dX9_readWhose_8 : decode cX9_readWhose 8 = .ok (.iaload, 1) := by decide +kernel
theorem dX9_readWhose_9 : decode cX9_readWhose 9 = .ok (.if_icmp .ge 97, 3) := by decide +kernel
theorem dX9_readWhose_12 : decode cX9_readWhose 12 = .ok (.iconst 0, 1) := by decide +kernel
theorem dX9_readWhose_13 : decode cX9_readWhose 13 = .ok (.istore_n 2, 1) := by decide +kernel
theorem dX9_readWhose_14 : decode cX9_readWhose 14 = .ok (.iload_n 2, 1) := by decide +kernel
theorem dX9_readWhose_15 : decode cX9_readWhose 15 = .ok (.aload_n 0, 1) := by decide +kernel
theorem dX9_readWhose_16 : decode cX9_readWhose 16 = .ok (.getfield 13, 3) := by decide +kernel
theorem dX9_readWhose_19 : decode cX9_readWhose 19 = .ok (.iconst 1, 1) := by decide +kernel
theorem dX9_readWhose_20 : decode cX9_readWhose 20 = .ok (.iaload, 1) := by decide +kernel
theorem dX9_readWhose_21 : decode cX9_readWhose 21 = .ok (.if_icmp .ge 56, 3) := by decide +kernel
theorem dX9_readWhose_24 : decode cX9_readWhose 24 = .ok (.aload_n 0, 1) := by decide +kernel
theorem dX9_readWhose_25 : decode cX9_readWhose 25 = .ok (.aload_n 0, 1) := by decide +kernel
theorem dX9_readWhose_26 : decode cX9_readWhose 26 = .ok (.invokevirtual 89, 3) := by decide +kernel
theorem dX9_readWhose_29 : decode cX9_readWhose 29 = .ok (.invokevirtual 108, 3) := by decide +kernel
theorem dX9_readWhose_32 : decode cX9_readWhose 32 = .ok (.istore_n 3, 1) := by decide +kernel
theorem dX9_readWhose_33 : decode cX9_readWhose 33 = .ok (.iload_n 3, 1) := by decide +kernel
theorem dX9_readWhose_34 : decode cX9_readWhose 34 = .ok (.bipush (-4), 2) := by decide +kernel
theorem dX9_readWhose_36 : decode cX9_readWhose 36 = .ok (.if_icmp .ne 10, 3) := by decide +kernel
theorem dX9_readWhose_39 : decode cX9_readWhose 39 = .ok (.aload_n 0, 1) := by decide +kernel
theorem dX9_readWhose_40 : decode cX9_readWhose 40 = .ok (.invokevirtual 93, 3) := by decide +kernel
theorem dX9_readWhose_43 : decode cX9_readWhose 43 = .ok (.goto 28, 3) := by decide +kernel
theorem dX9_readWhose_46 : decode cX9_readWhose 46 = .ok (.aload_n 0, 1) := by decide +kernel
theorem dX9_readWhose_47 : decode cX9_readWhose 47 = .ok (.getfield 13, 3) := by decide +kernel
theorem dX9_readWhose_50 : decode cX9_readWhose 50 = .ok (.bipush 52, 2) := by decide +kernel
theorem dX9_readWhose_52 : decode cX9_readWhose 52 = .ok (.bipush 6, 2) := by decide +kernel
theorem dX9_readWhose_54 : decode cX9_readWhose 54 = .ok (.iload_n 1, 1) := by decide +kernel
theorem dX9_readWhose_55 : decode cX9_readWhose 55 = .ok (.imul, 1) := by decide +kernel
theorem dX9_readWhose_56 : decode cX9_readWhose 56 = .ok (.iadd, 1) := by decide +kernel
theorem dX9_readWhose_57 : decode cX9_readWhose 57 = .ok (.iload_n 2, 1) := by decide +kernel
theorem dX9_readWhose_58 : decode cX9_readWhose 58 = .ok (.iadd, 1) := by decide +kernel
theorem dX9_readWhose_59 : decode cX9_readWhose 59 = .ok (.iload_n 3, 1) := by decide +kernel
theorem dX9_readWhose_60 : decode cX9_readWhose 60 = .ok (.iastore, 1) := by decide +kernel
theorem dX9_readWhose_61 : decode cX9_readWhose 61 = .ok (.aload_n 0, 1) := by decide +kernel
theorem dX9_readWhose_62 : decode cX9_readWhose 62 = .ok (.dup, 1) := by decide +kernel
theorem dX9_readWhose_63 : decode cX9_readWhose 63 = .ok (.getfield 86, 3) := by decide +kernel
theorem dX9_readWhose_66 : decode cX9_readWhose 66 = .ok (.iconst 1, 1) := by decide +kernel
theorem dX9_readWhose_67 : decode cX9_readWhose 67 = .ok (.iadd, 1) := by decide +kernel
theorem dX9_readWhose_68 : decode cX9_readWhose 68 = .ok (.putfield 86, 3) := by decide +kernel
theorem dX9_readWhose_71 : decode cX9_readWhose 71 = .ok (.iinc 2 1, 3) := by decide +kernel
theorem dX9_readWhose_74 : decode cX9_readWhose 74 = .ok (.goto (-60), 3) := by decide +kernel
theorem dX9_readWhose_77 : decode cX9_readWhose 77 = .ok (.aload_n 0, 1) := by decide +kernel
theorem dX9_readWhose_78 : decode cX9_readWhose 78 = .ok (.iload_n 1, 1) := by decide +kernel
theorem dX9_readWhose_79 : decode cX9_readWhose 79 = .ok (.aload_n 0, 1) := by decide +kernel
theorem dX9_readWhose_80 : decode cX9_readWhose 80 = .ok (.getfield 13, 3) := by decide +kernel
theorem dX9_readWhose_83 : decode cX9_readWhose 83 = .ok (.iconst 2, 1) := by decide +kernel
theorem dX9_readWhose_84 : decode cX9_readWhose 84 = .ok (.iaload, 1) := by decide +kernel
theorem dX9_readWhose_85 : decode cX9_readWhose 85 = .ok (.iconst 1, 1) := by decide +kernel
theorem dX9_readWhose_86 : decode cX9_readWhose 86 = .ok (.isub, 1) := by decide +kernel
theorem dX9_readWhose_87 : decode cX9_readWhose 87 = .ok (.if_icmp .ge 8, 3) := by decide +kernel
theorem dX9_readWhose_90 : decode cX9_readWhose 90 = .ok (.bipush 47, 2) := by decide +kernel
theorem dX9_readWhose_92 : decode cX9_readWhose 92 = .ok (.goto 5, 3) := by decide +kernel
theorem dX9_readWhose_95 : decode cX9_readWhose 95 = .ok (.bipush 59, 2) := by decide +kernel
theorem dX9_readWhose_97 : decode cX9_readWhose 97 = .ok (.invokevirtual 96, 3) := by decide +kernel
theorem dX9_readWhose_100 : decode cX9_readWhose 100 = .ok (.iinc 1 1, 3) := by decide +kernel
theorem dX9_readWhose_103 : decode cX9_readWhose 103 = .ok (.goto (-101), 3) := by decide +kernel
theorem dX9_readWhose_106 : decode cX9_readWhose 106 = .ok (.return_, 1) := by decide +kernel
def X9_readWhose_L14 (v1 : Int32) : Nat → Int32 → Rec → Option (Rec)
  | 0, _, _ => none
  | n14 + 1, v6, Z7 => (rdI (Z7.2.1 1) 96 (1 : Int32)).bind fun v9 =>
    if v9 ≤ v6 then
      some Z7
    else
      (X9_now Z7).bind fun v11 =>
      (X9_ownerBy Z7 v11).bind fun v12 =>
      if v12 = (-4 : Int32) then
        aLet (v6 + (1 : Int32)) fun v19 =>
        X9_readWhose_L14 v1 n14 v19 (X9_wrong Z7)
      else
        (wrI (Z7.2.1 1) 96 (((52 : Int32) + ((6 : Int32) * v1)) + v6) v12).bind fun w14 =>
        aLet (v6 + (1 : Int32)) fun v17 =>
        X9_readWhose_L14 v1 n14 v17 (sI (sA Z7 1 w14) 7 (((sA Z7 1 w14).1 7) + (1 : Int32)))
def X9_readWhose_J97 (e20 : (Rec)) (v1 : Int32) (k2 : Int32 → Rec → Option (Rec)) (v23 : Int32) : Option (Rec) :=
  (X9_must e20 v23).bind fun v24 =>
  aLet (v1 + (1 : Int32)) fun v26 =>
  k2 v26 v24
def X9_readWhose_L2 : Nat → Int32 → Rec → Option (Rec)
  | 0, _, _ => none
  | n2 + 1, v1, Z2 => (rdI (Z2.2.1 1) 96 (2 : Int32)).bind fun v4 =>
    if v4 ≤ v1 then
      some Z2
    else
      (X9_readWhose_L14 v1 aFu (0 : Int32) Z2).bind fun e20 =>
      (rdI (e20.2.1 1) 96 (2 : Int32)).bind fun v22 =>
      if (v22 - (1 : Int32)) ≤ v1 then
        X9_readWhose_J97 e20 v1 (X9_readWhose_L2 n2) (59 : Int32)
      else
        X9_readWhose_J97 e20 v1 (X9_readWhose_L2 n2) (47 : Int32)
def X9_readWhose (S0 : Rec) : Option (Rec) :=
  (X9_readWhose_L2 aFu (0 : Int32) S0).bind fun e28 =>
  some e28
set_option maxRecDepth 100000 in
set_option maxHeartbeats 4000000 in
theorem X9_readWhose_ok (l : Launch) {h : aH} {nx : Nat} {a0 : Nat} {S0 : Rec} (hB0 : X9_at h a0 S0) {r : Rec} (hF : X9_readWhose S0 = some r) : aOk l 2 0 0 yX9_readWhose cX9_readWhose 4 none [.ref a0] h nx (aMt none nx (fun h1 => X9_at h1 a0 r ∧ (∀ q, (q < a0 ∨ a0 + 20 ≤ q) → h1 q = h q))) := by
  refine aOk.of (by decide +kernel) (Nat.le_of_ble_eq_true rfl) (fun X G hX C R0 _ => ?_)
  subst hX
  show aV X G 4 0 [(0, .ref a0)] [] h nx 0 0
  have hFr : ∀ q, (q < a0 ∨ a0 + 20 ≤ q) → h q = h q := fun _ _ => rfl
  rw [X9_readWhose] at hF
  refine ab_iconst (v := (0 : Int32)) C dX9_readWhose_0 (by decide) ?_
  refine ab_istore_n (lv' := [(1, .int (0 : Int32)), (0, .ref a0)]) C dX9_readWhose_1 rfl (by decide) rfl ?_
  have L2 : ∀ (n2 : Nat) (v1 : Int32) (Z2 : Rec) (g3 : aH), (X9_at g3 a0 Z2) → (∀ q, (q < a0 ∨ a0 + 20 ≤ q) → g3 q = h q) → ∀ (res2 : Rec), X9_readWhose_L2 n2 v1 Z2 = some res2 → (∀ (q9 : aH), (X9_at q9 a0 res2) → (∀ q, (q < a0 ∨ a0 + 20 ≤ q) → q9 q = h q) → aV X G 4 106 [] [] q9 nx 0 0) → aV X G 4 2 [(0, .ref a0), (1, .int v1)] [] g3 nx 0 0 := by
    intro n2
    induction n2 with
    | zero => intro v1 Z2 g3 hB0 hFr res2 hF KX2; cases (show (none : Option (Rec)) = some res2 from hF)
    | succ n2 ih2 =>
      intro v1 Z2 g3 hB0 hFr res2 hF KX2
      rw [X9_readWhose_L2] at hF
      refine ab_iload_n C 1 rfl rfl dX9_readWhose_2 ?_
      refine ab_aload_n C 0 rfl rfl dX9_readWhose_3 ?_
      refine ab_g9 (v := .ref (a0 + 2)) C lf_X9_13 hB0.1 rfl dX9_readWhose_4 ?_
      refine ab_iconst (v := (2 : Int32)) C dX9_readWhose_7 (by decide) ?_
      obtain ⟨v4, hxv4, hF⟩ := Option.bind_eq_some_iff.mp hF
      refine ab_iald C (X9_r1 hB0) hxv4 dX9_readWhose_8 ?_
      refine ab_icmp_ge C 106 dX9_readWhose_9 (by decide) (fun c5 => ?_) (fun c5 => ?_)
      · replace hF := (if_pos c5).symm.trans hF
        obtain rfl := Option.some.inj hF
        refine aV.sub (lv' := []) [] rfl ?_
        exact KX2 g3 hB0 hFr
      · replace hF := (if_neg c5).symm.trans hF
        refine ab_iconst (v := (0 : Int32)) C dX9_readWhose_12 (by decide) ?_
        refine ab_istore_n (lv' := [(2, .int (0 : Int32)), (0, .ref a0), (1, .int v1)]) C dX9_readWhose_13 rfl (by decide) rfl ?_
        have L14 : ∀ (n14 : Nat) (v6 : Int32) (Z7 : Rec) (g8 : aH), (X9_at g8 a0 Z7) → (∀ q, (q < a0 ∨ a0 + 20 ≤ q) → g8 q = h q) → ∀ (res14 : Rec), X9_readWhose_L14 v1 n14 v6 Z7 = some res14 → (∀ (q9 : aH), (X9_at q9 a0 res14) → (∀ q, (q < a0 ∨ a0 + 20 ≤ q) → q9 q = h q) → aV X G 4 77 [(0, .ref a0), (1, .int v1)] [] q9 nx 0 0) → aV X G 4 14 [(0, .ref a0), (1, .int v1), (2, .int v6)] [] g8 nx 0 0 := by
          intro n14
          induction n14 with
          | zero => intro v6 Z7 g8 hB0 hFr res14 hF KX14; cases (show (none : Option (Rec)) = some res14 from hF)
          | succ n14 ih14 =>
            intro v6 Z7 g8 hB0 hFr res14 hF KX14
            rw [X9_readWhose_L14] at hF
            refine ab_iload_n C 2 rfl rfl dX9_readWhose_14 ?_
            refine ab_aload_n C 0 rfl rfl dX9_readWhose_15 ?_
            refine ab_g9 (v := .ref (a0 + 2)) C lf_X9_13 hB0.1 rfl dX9_readWhose_16 ?_
            refine ab_iconst (v := (1 : Int32)) C dX9_readWhose_19 (by decide) ?_
            obtain ⟨v9, hxv9, hF⟩ := Option.bind_eq_some_iff.mp hF
            refine ab_iald C (X9_r1 hB0) hxv9 dX9_readWhose_20 ?_
            refine ab_icmp_ge C 77 dX9_readWhose_21 (by decide) (fun c10 => ?_) (fun c10 => ?_)
            · replace hF := (if_pos c10).symm.trans hF
              obtain rfl := Option.some.inj hF
              refine aV.sub (lv' := [(0, .ref a0), (1, .int v1)]) [0, 1] rfl ?_
              exact KX14 g8 hB0 hFr
            · replace hF := (if_neg c10).symm.trans hF
              refine ab_aload_n C 0 rfl rfl dX9_readWhose_24 ?_
              refine ab_aload_n C 0 rfl rfl dX9_readWhose_25 ?_
              obtain ⟨v11, hxv11, hF⟩ := Option.bind_eq_some_iff.mp hF
              refine ab_cVR (v := .int v11) (st := [.ref a0]) C lm_X9_89 (X9_now_ok (xl X) hB0 (r := v11) hxv11) [] rfl hB0.1 rfl rfl rfl (by decide) ⟨Nat.zero_le _, Nat.zero_le _⟩ (Nat.le_of_ble_eq_true rfl) dX9_readWhose_26 ?_
              obtain ⟨v12, hxv12, hF⟩ := Option.bind_eq_some_iff.mp hF
              refine ab_cVR (v := .int v12) (st := []) C lm_X9_108 (X9_ownerBy_ok (xl X) hB0 (r := v12) hxv12) [.int v11] rfl hB0.1 rfl rfl rfl (by decide) ⟨Nat.zero_le _, Nat.zero_le _⟩ (Nat.le_of_ble_eq_true rfl) dX9_readWhose_29 ?_
              refine ab_istore_n (lv' := [(3, .int v12), (0, .ref a0), (1, .int v1), (2, .int v6)]) C dX9_readWhose_32 rfl (by decide) rfl ?_
              refine ab_iload_n C 0 rfl rfl dX9_readWhose_33 ?_
              refine ab_bipush (v := (-4 : Int32)) C dX9_readWhose_34 (by decide) ?_
              refine ab_icmp_ne C 46 dX9_readWhose_36 (by decide) (fun c13 => ?_) (fun c13 => ?_)
              · replace hF := (if_neg c13).symm.trans hF
                refine ab_aload_n C 1 rfl rfl dX9_readWhose_46 ?_
                refine ab_g9 (v := .ref (a0 + 2)) C lf_X9_13 hB0.1 rfl dX9_readWhose_47 ?_
                refine ab_bipush (v := (52 : Int32)) C dX9_readWhose_50 (by decide) ?_
                refine ab_bipush (v := (6 : Int32)) C dX9_readWhose_52 (by decide) ?_
                refine ab_iload_n C 2 rfl rfl dX9_readWhose_54 ?_
                refine ab_imul C dX9_readWhose_55 ?_
                refine ab_iadd C dX9_readWhose_56 ?_
                refine ab_iload_n C 3 rfl rfl dX9_readWhose_57 ?_
                refine ab_iadd C dX9_readWhose_58 ?_
                refine ab_iload_n C 0 rfl rfl dX9_readWhose_59 ?_
                obtain ⟨w14, hxw14, hF⟩ := Option.bind_eq_some_iff.mp hF
                refine ab_iast C (X9_r1 hB0) hxw14 dX9_readWhose_60 (fun g15 eg15 og15 => ?_)
                have hB0 : X9_at g15 a0 (sA Z7 1 w14) := X9_w1 hB0 eg15 og15
                have hFr : ∀ q, (q < a0 ∨ a0 + 20 ≤ q) → g15 q = h q := fun q u0 => (og15 q (by omega)).trans (hFr q u0)
                refine ab_aload_n C 1 rfl rfl dX9_readWhose_61 ?_
                refine ab_dup C rfl dX9_readWhose_62 ?_
                refine ab_g9 (v := .int ((sA Z7 1 w14).1 7)) C lf_X9_86 hB0.1 rfl dX9_readWhose_63 ?_
                refine ab_iconst (v := (1 : Int32)) C dX9_readWhose_66 (by decide) ?_
                refine ab_iadd C dX9_readWhose_67 ?_
                refine ab_p9 (ty := .int) C lf_X9_86 rfl (by decide +kernel) rfl rfl (Nat.le_of_ble_eq_true rfl) hB0.1 dX9_readWhose_68 (fun g16 eg16 og16 => ?_)
                have hB0 : X9_at g16 a0 (sI (sA Z7 1 w14) 7 (((sA Z7 1 w14).1 7) + (1 : Int32))) := X9_p7 hB0 eg16 og16
                have hFr : ∀ q, (q < a0 ∨ a0 + 20 ≤ q) → g16 q = h q := fun q u0 => (og16 q (by omega)).trans (hFr q u0)
                obtain ⟨v17, qv17⟩ : ∃ y : Int32, y = (v6 + (1 : Int32)) := ⟨_, rfl⟩
                replace hF := aLet_e hF v17 qv17
                refine ab_iinc (lv' := [(2, .int v17), (3, .int v12), (0, .ref a0), (1, .int v1)]) C 3 rfl dX9_readWhose_71 (by rw [qv17]; rfl) (by decide) rfl ?_
                refine ab_goto C 14 dX9_readWhose_74 (by decide) ?_
                refine aV.sub (lv' := [(0, .ref a0), (1, .int v1), (2, .int v17)]) [2, 3, 0] rfl ?_
                exact ih14 v17 (sI (sA Z7 1 w14) 7 (((sA Z7 1 w14).1 7) + (1 : Int32))) g16 hB0 hFr res14 hF KX14
              · replace hF := (if_pos c13).symm.trans hF
                refine ab_aload_n C 1 rfl rfl dX9_readWhose_39 ?_
                refine ab_cVN (st := []) C lm_X9_93 (X9_wrong_ok (xl X) hB0 (r := (X9_wrong Z7)) rfl) [] rfl hB0.1 rfl rfl rfl (by decide) ⟨Nat.zero_le _, Nat.zero_le _⟩ (Nat.le_of_ble_eq_true rfl) dX9_readWhose_40 (fun g18 pg18 => ?_)
                obtain ⟨k0, Og18⟩ := pg18
                have hB0 : X9_at g18 a0 (X9_wrong Z7) := k0
                have hFr : ∀ q, (q < a0 ∨ a0 + 20 ≤ q) → g18 q = h q := fun q u0 => (Og18 q (by omega)).trans (hFr q u0)
                refine ab_goto C 71 dX9_readWhose_43 (by decide) ?_
                obtain ⟨v19, qv19⟩ : ∃ y : Int32, y = (v6 + (1 : Int32)) := ⟨_, rfl⟩
                replace hF := aLet_e hF v19 qv19
                refine ab_iinc (lv' := [(2, .int v19), (3, .int v12), (0, .ref a0), (1, .int v1)]) C 3 rfl dX9_readWhose_71 (by rw [qv19]; rfl) (by decide) rfl ?_
                refine ab_goto C 14 dX9_readWhose_74 (by decide) ?_
                refine aV.sub (lv' := [(0, .ref a0), (1, .int v1), (2, .int v19)]) [2, 3, 0] rfl ?_
                exact ih14 v19 (X9_wrong Z7) g18 hB0 hFr res14 hF KX14
        refine aV.sub (lv' := [(0, .ref a0), (1, .int v1), (2, .int (0 : Int32))]) [1, 2, 0] rfl ?_
        obtain ⟨e20, he20, hF⟩ := Option.bind_eq_some_iff.mp hF
        refine L14 aFu (0 : Int32) Z2 g3 hB0 hFr e20 he20 (fun g21 hB0 hFr => ?_)
        refine ab_aload_n C 0 rfl rfl dX9_readWhose_77 ?_
        refine ab_iload_n C 1 rfl rfl dX9_readWhose_78 ?_
        refine ab_aload_n C 0 rfl rfl dX9_readWhose_79 ?_
        refine ab_g9 (v := .ref (a0 + 2)) C lf_X9_13 hB0.1 rfl dX9_readWhose_80 ?_
        refine ab_iconst (v := (2 : Int32)) C dX9_readWhose_83 (by decide) ?_
        obtain ⟨v22, hxv22, hF⟩ := Option.bind_eq_some_iff.mp hF
        refine ab_iald C (X9_r1 hB0) hxv22 dX9_readWhose_84 ?_
        refine ab_iconst (v := (1 : Int32)) C dX9_readWhose_85 (by decide) ?_
        refine ab_isub C dX9_readWhose_86 ?_
        have J97 : ∀ (v23 : Int32), X9_readWhose_J97 e20 v1 (X9_readWhose_L2 n2) v23 = some res2 → aV X G 4 97 [(0, .ref a0), (1, .int v1)] [.int v23, .ref a0] g21 nx 0 0 := by
          intro v23 hF
          rw [X9_readWhose_J97] at hF
          obtain ⟨v24, hxv24, hF⟩ := Option.bind_eq_some_iff.mp hF
          refine ab_cVN (st := []) C lm_X9_96 (X9_must_ok (xl X) hB0 (r := v24) hxv24) [.int v23] rfl hB0.1 rfl rfl rfl (by decide) ⟨Nat.zero_le _, Nat.zero_le _⟩ (Nat.le_of_ble_eq_true rfl) dX9_readWhose_97 (fun g25 pg25 => ?_)
          obtain ⟨k0, Og25⟩ := pg25
          have hB0 : X9_at g25 a0 v24 := k0
          have hFr : ∀ q, (q < a0 ∨ a0 + 20 ≤ q) → g25 q = h q := fun q u0 => (Og25 q (by omega)).trans (hFr q u0)
          obtain ⟨v26, qv26⟩ : ∃ y : Int32, y = (v1 + (1 : Int32)) := ⟨_, rfl⟩
          replace hF := aLet_e hF v26 qv26
          refine ab_iinc (lv' := [(1, .int v26), (0, .ref a0)]) C 1 rfl dX9_readWhose_100 (by rw [qv26]; rfl) (by decide) rfl ?_
          refine ab_goto C 2 dX9_readWhose_103 (by decide) ?_
          refine aV.sub (lv' := [(0, .ref a0), (1, .int v26)]) [1, 0] rfl ?_
          exact ih2 v26 v24 g25 hB0 hFr res2 hF KX2
        refine ab_icmp_ge C 95 dX9_readWhose_87 (by decide) (fun c27 => ?_) (fun c27 => ?_)
        · replace hF := (if_pos c27).symm.trans hF
          refine ab_bipush (v := (59 : Int32)) C dX9_readWhose_95 (by decide) ?_
          exact J97 (59 : Int32) hF
        · replace hF := (if_neg c27).symm.trans hF
          refine ab_bipush (v := (47 : Int32)) C dX9_readWhose_90 (by decide) ?_
          refine ab_goto C 97 dX9_readWhose_92 (by decide) ?_
          exact J97 (47 : Int32) hF
  refine aV.sub (lv' := [(0, .ref a0), (1, .int (0 : Int32))]) [1, 0] rfl ?_
  obtain ⟨e28, he28, hF⟩ := Option.bind_eq_some_iff.mp hF
  refine L2 aFu (0 : Int32) S0 h hB0 hFr e28 he28 (fun g29 hB0 hFr => ?_)
  obtain rfl := Option.some.inj hF
  exact ab_vret C R0 dX9_readWhose_106 ⟨rfl, rfl, hB0, hFr⟩
theorem dX9_readWords_0 : decode cX9_readWords 0 = .ok (.iconst 1, 1) := by decide +kernel
theorem dX9_readWords_1 : decode cX9_readWords 1 = .ok (.istore_n 1, 1) := by decide +kernel
theorem dX9_readWords_2 : decode cX9_readWords 2 = .ok (.iload_n 1, 1) := by decide +kernel
theorem dX9_readWords_3 : decode cX9_readWords 3 = .ok (.ifCond .eq 167, 3) := by decide +kernel
theorem dX9_readWords_6 : decode cX9_readWords 6 = .ok (.bipush 88, 2) := by decide +kernel
theorem dX9_readWords_8 : decode cX9_readWords 8 = .ok (.iconst 2, 1) := by decide +kernel
theorem dX9_readWords_9 : decode cX9_readWords 9 = .ok (.aload_n 0, 1) := by decide +kernel
theorem dX9_readWords_10 : decode cX9_readWords 10 = .ok (.getfield 13, 3) := by decide +kernel
theorem dX9_readWords_13 : decode cX9_readWords 13 = .ok (.iconst 4, 1) := by decide +kernel
theorem dX9_readWords_14 : decode cX9_readWords 14 = .ok (.iaload, 1) := by decide +kernel
theorem dX9_readWords_15 : decode cX9_readWords 15 = .ok (.imul, 1) := by decide +kernel
theorem dX9_readWords_16 : decode cX9_readWords 16 = .ok (.iadd, 1) := by decide +kernel
theorem dX9_readWords_17 : decode cX9_readWords 17 = .ok (.istore_n 2, 1) := by decide +kernel
theorem dX9_readWords_18 : decode cX9_readWords 18 = .ok (.aload_n 0, 1) := by decide +kernel
theorem dX9_readWords_19 : decode cX9_readWords 19 = .ok (.invokevirtual 89, 3) := by decide +kernel
theorem dX9_readWords_22 : decode cX9_readWords 22 = .ok (.i2l, 1) := by decide +kernel
theorem dX9_readWords_23 : decode cX9_readWords 23 = .ok (.ldc2_w 111, 3) := by decide +kernel
theorem dX9_readWords_26 : decode cX9_readWords 26 = .ok (.ldc2_w 113, 3) := by decide +kernel
theorem dX9_readWords_29 : decode cX9_readWords 29 = .ok (.invokestatic 69, 3) := by decide +kernel
theorem dX9_readWords_32 : decode cX9_readWords 32 = .ok (.ifCond .eq 69, 3) := by decide +kernel
theorem dX9_readWords_35 : decode cX9_readWords 35 = .ok (.aload_n 0, 1) := by decide +kernel
theorem dX9_readWords_36 : decode cX9_readWords 36 = .ok (.getfield 13, 3) := by decide +kernel
theorem dX9_readWords_39 : decode cX9_readWords 39 = .ok (.iload_n 2, 1) := by decide +kernel
theorem dX9_readWords_40 : decode cX9_readWords 40 = .ok (.iaload, 1) := by decide +kernel
theorem dX9_readWords_41 : decode cX9_readWords 41 = .ok (.bipush 6, 2) := by decide +kernel
theorem dX9_readWords_43 : decode cX9_readWords 43 = .ok (.if_icmp .ge 58, 3) := by decide +kernel
theorem dX9_readWords_46 : decode cX9_readWords 46 = .ok (.aload_n 0, 1) := by decide +kernel
theorem dX9_readWords_47 : decode cX9_readWords 47 = .ok (.invokevirtual 89, 3) := by decide +kernel
theorem dX9_readWords_50 : decode cX9_readWords 50 = .ok (.invokestatic 79, 3) := by decide +kernel
theorem dX9_readWords_53 : decode cX9_readWords 53 = .ok (.istore_n 3, 1) := by decide +kernel
theorem dX9_readWords_54 : decode cX9_readWords 54 = .ok (.aload_n 0, 1) := by decide +kernel
theorem dX9_readWords_55 : decode cX9_readWords 55 = .ok (.getfield 13, 3) := by decide +kernel
theorem dX9_readWords_58 : decode cX9_readWords 58 = .ok (.iload_n 2, 1) := by decide +kernel
theorem dX9_readWords_59 : decode cX9_readWords 59 = .ok (.iconst 1, 1) := by decide +kernel
theorem dX9_readWords_60 : decode cX9_readWords 60 = .ok (.iadd, 1) := by decide +kernel
theorem dX9_readWords_61 : decode cX9_readWords 61 = .ok (.dup2, 1) := by decide +kernel
theorem dX9_readWords_62 : decode cX9_readWords 62 = .ok (.iaload, 1) := by decide +kernel
theorem dX9_readWords_63 : decode cX9_readWords 63 = .ok (.iload_n 3, 1) := by decide +kernel
theorem dX9_readWords_64 : decode cX9_readWords 64 = .ok (.bipush (-4), 2) := by decide +kernel
theorem dX9_readWords_66 : decode cX9_readWords 66 = .ok (.if_icmp .ne 7, 3) := by decide +kernel
theorem dX9_readWords_69 : decode cX9_readWords 69 = .ok (.iconst 0, 1) := by decide +kernel
theorem dX9_readWords_70 : decode cX9_readWords 70 = .ok (.goto 6, 3) := by decide +kernel
theorem dX9_readWords_73 : decode cX9_readWords 73 = .ok (.iconst 1, 1) := by decide +kernel
theorem dX9_readWords_74 : decode cX9_readWords 74 = .ok (.iload_n 3, 1) := by decide +kernel
theorem dX9_readWords_75 : decode cX9_readWords 75 = .ok (.ishl, 1) := by decide +kernel
theorem dX9_readWords_76 : decode cX9_readWords 76 = .ok (.ior, 1) := by decide +kernel
theorem dX9_readWords_77 : decode cX9_readWords 77 = .ok (.iastore, 1) := by decide +kernel
theorem dX9_readWords_78 : decode cX9_readWords 78 = .ok (.aload_n 0, 1) := by decide +kernel
theorem dX9_readWords_79 : decode cX9_readWords 79 = .ok (.getfield 13, 3) := by decide +kernel
theorem dX9_readWords_82 : decode cX9_readWords 82 = .ok (.iload_n 2, 1) := by decide +kernel
theorem dX9_readWords_83 : decode cX9_readWords 83 = .ok (.dup2, 1) := by decide +kernel
theorem dX9_readWords_84 : decode cX9_readWords 84 = .ok (.iaload, 1) := by decide +kernel
theorem dX9_readWords_85 : decode cX9_readWords 85 = .ok (.iconst 1, 1) := by decide +kernel
theorem dX9_readWords_86 : decode cX9_readWords 86 = .ok (.iadd, 1) := by decide +kernel
theorem dX9_readWords_87 : decode cX9_readWords 87 = .ok (.iastore, 1) := by decide +kernel
theorem dX9_readWords_88 : decode cX9_readWords 88 = .ok (.aload_n 0, 1) := by decide +kernel
theorem dX9_readWords_89 : decode cX9_readWords 89 = .ok (.dup, 1) := by decide +kernel
theorem dX9_readWords_90 : decode cX9_readWords 90 = .ok (.getfield 86, 3) := by decide +kernel
theorem dX9_readWords_93 : decode cX9_readWords 93 = .ok (.iconst 1, 1) := by decide +kernel
theorem dX9_readWords_94 : decode cX9_readWords 94 = .ok (.iadd, 1) := by decide +kernel
theorem dX9_readWords_95 : decode cX9_readWords 95 = .ok (.putfield 86, 3) := by decide +kernel
theorem dX9_readWords_98 : decode cX9_readWords 98 = .ok (.goto (-80), 3) := by decide +kernel
theorem dX9_readWords_101 : decode cX9_readWords 101 = .ok (.aload_n 0, 1) := by decide +kernel
theorem dX9_readWords_102 : decode cX9_readWords 102 = .ok (.getfield 13, 3) := by decide +kernel
theorem dX9_readWords_105 : decode cX9_readWords 105 = .ok (.iload_n 2, 1) := by decide +kernel
theorem dX9_readWords_106 : decode cX9_readWords 106 = .ok (.iaload, 1) := by decide +kernel
theorem dX9_readWords_107 : decode cX9_readWords 107 = .ok (.ifCond .ne 7, 3) := by decide +kernel
theorem dX9_readWords_110 : decode cX9_readWords 110 = .ok (.aload_n 0, 1) := by decide +kernel
theorem dX9_readWords_111 : decode cX9_readWords 111 = .ok (.invokevirtual 93, 3) := by decide +kernel
theorem dX9_readWords_114 : decode cX9_readWords 114 = .ok (.aload_n 0, 1) := by decide +kernel
theorem dX9_readWords_115 : decode cX9_readWords 115 = .ok (.getfield 13, 3) := by decide +kernel
theorem dX9_readWords_118 : decode cX9_readWords 118 = .ok (.iconst 4, 1) := by decide +kernel
theorem dX9_readWords_119 : decode cX9_readWords 119 = .ok (.dup2, 1) := by decide +kernel
theorem dX9_readWords_120 : decode cX9_readWords 120 = .ok (.iaload, 1) := by decide +kernel
theorem dX9_readWords_121 : decode cX9_readWords 121 = .ok (.iconst 1, 1) := by decide +kernel
theorem dX9_readWords_122 : decode cX9_readWords 122 = .ok (.iadd, 1) := by decide +kernel
theorem dX9_readWords_123 : decode cX9_readWords 123 = .ok (.iastore, 1) := by decide +kernel
theorem dX9_readWords_124 : decode cX9_readWords 124 = .ok (.aload_n 0, 1) := by decide +kernel
theorem dX9_readWords_125 : decode cX9_readWords 125 = .ok (.invokevirtual 89, 3) := by decide +kernel
theorem dX9_readWords_128 : decode cX9_readWords 128 = .ok (.bipush 44, 2) := by decide +kernel
theorem dX9_readWords_130 : decode cX9_readWords 130 = .ok (.if_icmp .ne 17, 3) := by decide +kernel
theorem dX9_readWords_133 : decode cX9_readWords 133 = .ok (.aload_n 0, 1) := by decide +kernel
theorem dX9_readWords_134 : decode cX9_readWords 134 = .ok (.getfield 13, 3) := by decide +kernel
theorem dX9_readWords_137 : decode cX9_readWords 137 = .ok (.iconst 4, 1) := by decide +kernel
theorem dX9_readWords_138 : decode cX9_readWords 138 = .ok (.iaload, 1) := by decide +kernel
theorem dX9_readWords_139 : decode cX9_readWords 139 = .ok (.iconst 4, 1) := by decide +kernel
theorem dX9_readWords_140 : decode cX9_readWords 140 = .ok (.if_icmp .ge 7, 3) := by decide +kernel
theorem dX9_readWords_143 : decode cX9_readWords 143 = .ok (.iconst 1, 1) := by decide +kernel
theorem dX9_readWords_144 : decode cX9_readWords 144 = .ok (.goto 4, 3) := by decide +kernel
theorem dX9_readWords_147 : decode cX9_readWords 147 = .ok (.iconst 0, 1) := by decide +kernel
theorem dX9_readWords_148 : decode cX9_readWords 148 = .ok (.istore_n 1, 1) := by decide +kernel
theorem dX9_readWords_149 : decode cX9_readWords 149 = .ok (.aload_n 0, 1) := by decide +kernel
theorem dX9_readWords_150 : decode cX9_readWords 150 = .ok (.dup, 1) := by decide +kernel
theorem dX9_readWords_151 : decode cX9_readWords 151 = .ok (.getfield 86, 3) := by decide +kernel
theorem dX9_readWords_154 : decode cX9_readWords 154 = .ok (.iload_n 1, 1) := by decide +kernel
theorem dX9_readWords_155 : decode cX9_readWords 155 = .ok (.ifCond .eq 7, 3) := by decide +kernel
theorem dX9_readWords_158 : decode cX9_readWords 158 = .ok (.iconst 1, 1) := by decide +kernel
theorem dX9_readWords_159 : decode cX9_readWords 159 = .ok (.goto 4, 3) := by decide +kernel
theorem dX9_readWords_162 : decode cX9_readWords 162 = .ok (.iconst 0, 1) := by decide +kernel
theorem dX9_readWords_163 : decode cX9_readWords 163 = .ok (.iadd, 1) := by decide +kernel
theorem dX9_readWords_164 : decode cX9_readWords 164 = .ok (.putfield 86, 3) := by decide +kernel
theorem dX9_readWords_167 : decode cX9_readWords 167 = .ok (.goto (-165), 3) := by decide +kernel
theorem dX9_readWords_170 : decode cX9_readWords 170 = .ok (.aload_n 0, 1) := by decide +kernel
theorem dX9_readWords_171 : decode cX9_readWords 171 = .ok (.bipush 59, 2) := by decide +kernel
theorem dX9_readWords_173 : decode cX9_readWords 173 = .ok (.invokevirtual 96, 3) := by decide +kernel
theorem dX9_readWords_176 : decode cX9_readWords 176 = .ok (.return_, 1) := by decide +kernel
def X9_readWords_J76 (Z7 : Rec) (v6 : Int32) (v15 : Int32) (k18 : Rec → Option (Rec)) (v16 : Int32) : Option (Rec) :=
  (wrI (Z7.2.1 1) 96 (v6 + (1 : Int32)) (v15 ||| v16)).bind fun w17 =>
  (rdI ((sA Z7 1 w17).2.1 1) 96 v6).bind fun v19 =>
  (wrI ((sA Z7 1 w17).2.1 1) 96 v6 (v19 + (1 : Int32))).bind fun w20 =>
  k18 (sI (sA (sA Z7 1 w17) 1 w20) 7 (((sA (sA Z7 1 w17) 1 w20).1 7) + (1 : Int32)))
def X9_readWords_L18 (v6 : Int32) : Nat → Rec → Option (Rec)
  | 0, _ => none
  | n18 + 1, Z7 => (X9_now Z7).bind fun v9 =>
    if (X9_in (v9.toInt64) (97 : Int64) (122 : Int64)) = 0 then
      some Z7
    else
      (rdI (Z7.2.1 1) 96 v6).bind fun v11 =>
      if (6 : Int32) ≤ v11 then
        some Z7
      else
        (X9_now Z7).bind fun v13 =>
        aLet (X9_vowelBy v13) fun v14 =>
        (rdI (Z7.2.1 1) 96 (v6 + (1 : Int32))).bind fun v15 =>
        if v14 = (-4 : Int32) then
          X9_readWords_J76 Z7 v6 v15 (X9_readWords_L18 v6 n18) (0 : Int32)
        else
          X9_readWords_J76 Z7 v6 v15 (X9_readWords_L18 v6 n18) ((1 : Int32) <<< (v14 &&& 31))
def X9_readWords_J148 (Z27 : Rec) (w30 : (Nat → Int32)) (k2 : Int32 → Rec → Option (Rec)) (v33 : Int32) : Option (Rec) :=
  if v33 = 0 then
    k2 v33 (sI (sA Z27 1 w30) 7 (((sA Z27 1 w30).1 7) + (0 : Int32)))
  else
    k2 v33 (sI (sA Z27 1 w30) 7 (((sA Z27 1 w30).1 7) + (1 : Int32)))
def X9_readWords_J147 (Z27 : Rec) (w30 : (Nat → Int32)) (k2 : Int32 → Rec → Option (Rec)) : Option (Rec) :=
  X9_readWords_J148 Z27 w30 (k2) (0 : Int32)
def X9_readWords_J114 (k2 : Int32 → Rec → Option (Rec)) (Z27 : Rec) : Option (Rec) :=
  (rdI (Z27.2.1 1) 96 (4 : Int32)).bind fun v29 =>
  (wrI (Z27.2.1 1) 96 (4 : Int32) (v29 + (1 : Int32))).bind fun w30 =>
  (X9_now (sA Z27 1 w30)).bind fun v32 =>
  if v32 = (44 : Int32) then
    (rdI ((sA Z27 1 w30).2.1 1) 96 (4 : Int32)).bind fun v38 =>
    if (4 : Int32) ≤ v38 then
      X9_readWords_J147 Z27 w30 (k2)
    else
      X9_readWords_J148 Z27 w30 (k2) (1 : Int32)
  else
    X9_readWords_J147 Z27 w30 (k2)
def X9_readWords_L2 : Nat → Int32 → Rec → Option (Rec)
  | 0, _, _ => none
  | n2 + 1, v1, Z2 => if v1 = 0 then
      some Z2
    else
      (rdI (Z2.2.1 1) 96 (4 : Int32)).bind fun v5 =>
      aLet ((88 : Int32) + ((2 : Int32) * v5)) fun v6 =>
      (X9_readWords_L18 v6 aFu Z2).bind fun e24 =>
      (rdI (e24.2.1 1) 96 v6).bind fun v26 =>
      if v26 = 0 then
        X9_readWords_J114 (X9_readWords_L2 n2) (X9_wrong e24)
      else
        X9_readWords_J114 (X9_readWords_L2 n2) e24
def X9_readWords (S0 : Rec) : Option (Rec) :=
  (X9_readWords_L2 aFu (1 : Int32) S0).bind fun e42 =>
  (X9_must e42 (59 : Int32)).bind fun v44 =>
  some v44
set_option maxRecDepth 100000 in
set_option maxHeartbeats 4000000 in
theorem X9_readWords_ok (l : Launch) {h : aH} {nx : Nat} {a0 : Nat} {S0 : Rec} (hB0 : X9_at h a0 S0) {r : Rec} (hF : X9_readWords S0 = some r) : aOk l 2 0 0 yX9_readWords cX9_readWords 4 none [.ref a0] h nx (aMt none nx (fun h1 => X9_at h1 a0 r ∧ (∀ q, (q < a0 ∨ a0 + 20 ≤ q) → h1 q = h q))) := by
  refine aOk.of (by decide +kernel) (Nat.le_of_ble_eq_true rfl) (fun X G hX C R0 _ => ?_)
  subst hX
  show aV X G 4 0 [(0, .ref a0)] [] h nx 0 0
  have hFr : ∀ q, (q < a0 ∨ a0 + 20 ≤ q) → h q = h q := fun _ _ => rfl
  rw [X9_readWords] at hF
  refine ab_iconst (v := (1 : Int32)) C dX9_readWords_0 (by decide) ?_
  refine ab_istore_n (lv' := [(1, .int (1 : Int32)), (0, .ref a0)]) C dX9_readWords_1 rfl (by decide) rfl ?_
  have L2 : ∀ (n2 : Nat) (v1 : Int32) (Z2 : Rec) (g3 : aH), (X9_at g3 a0 Z2) → (∀ q, (q < a0 ∨ a0 + 20 ≤ q) → g3 q = h q) → ∀ (res2 : Rec), X9_readWords_L2 n2 v1 Z2 = some res2 → (∀ (q9 : aH), (X9_at q9 a0 res2) → (∀ q, (q < a0 ∨ a0 + 20 ≤ q) → q9 q = h q) → aV X G 4 170 [(0, .ref a0)] [] q9 nx 0 0) → aV X G 4 2 [(0, .ref a0), (1, .int v1)] [] g3 nx 0 0 := by
    intro n2
    induction n2 with
    | zero => intro v1 Z2 g3 hB0 hFr res2 hF KX2; cases (show (none : Option (Rec)) = some res2 from hF)
    | succ n2 ih2 =>
      intro v1 Z2 g3 hB0 hFr res2 hF KX2
      rw [X9_readWords_L2] at hF
      refine ab_iload_n C 1 rfl rfl dX9_readWords_2 ?_
      refine ab_if_eq C 170 dX9_readWords_3 (by decide) (fun c4 => ?_) (fun c4 => ?_)
      · replace hF := (if_pos c4).symm.trans hF
        obtain rfl := Option.some.inj hF
        refine aV.sub (lv' := [(0, .ref a0)]) [0] rfl ?_
        exact KX2 g3 hB0 hFr
      · replace hF := (if_neg c4).symm.trans hF
        refine ab_bipush (v := (88 : Int32)) C dX9_readWords_6 (by decide) ?_
        refine ab_iconst (v := (2 : Int32)) C dX9_readWords_8 (by decide) ?_
        refine ab_aload_n C 0 rfl rfl dX9_readWords_9 ?_
        refine ab_g9 (v := .ref (a0 + 2)) C lf_X9_13 hB0.1 rfl dX9_readWords_10 ?_
        refine ab_iconst (v := (4 : Int32)) C dX9_readWords_13 (by decide) ?_
        obtain ⟨v5, hxv5, hF⟩ := Option.bind_eq_some_iff.mp hF
        refine ab_iald C (X9_r1 hB0) hxv5 dX9_readWords_14 ?_
        refine ab_imul C dX9_readWords_15 ?_
        refine ab_iadd C dX9_readWords_16 ?_
        refine ab_topi (fun v6 qv6 => ?_)
        replace hF := aLet_e hF v6 qv6
        refine ab_istore_n (lv' := [(2, .int v6), (0, .ref a0), (1, .int v1)]) C dX9_readWords_17 rfl (by decide) rfl ?_
        have L18 : ∀ (n18 : Nat) (Z7 : Rec) (g8 : aH), (X9_at g8 a0 Z7) → (∀ q, (q < a0 ∨ a0 + 20 ≤ q) → g8 q = h q) → ∀ (res18 : Rec), X9_readWords_L18 v6 n18 Z7 = some res18 → (∀ (q9 : aH), (X9_at q9 a0 res18) → (∀ q, (q < a0 ∨ a0 + 20 ≤ q) → q9 q = h q) → aV X G 4 101 [(0, .ref a0), (2, .int v6)] [] q9 nx 0 0) → aV X G 4 18 [(0, .ref a0), (2, .int v6)] [] g8 nx 0 0 := by
          intro n18
          induction n18 with
          | zero => intro Z7 g8 hB0 hFr res18 hF KX18; cases (show (none : Option (Rec)) = some res18 from hF)
          | succ n18 ih18 =>
            intro Z7 g8 hB0 hFr res18 hF KX18
            rw [X9_readWords_L18] at hF
            refine ab_aload_n C 0 rfl rfl dX9_readWords_18 ?_
            obtain ⟨v9, hxv9, hF⟩ := Option.bind_eq_some_iff.mp hF
            refine ab_cVR (v := .int v9) (st := []) C lm_X9_89 (X9_now_ok (xl X) hB0 (r := v9) hxv9) [] rfl hB0.1 rfl rfl rfl (by decide) ⟨Nat.zero_le _, Nat.zero_le _⟩ (Nat.le_of_ble_eq_true rfl) dX9_readWords_19 ?_
            refine ab_i2l C dX9_readWords_22 ?_
            refine ab_ldc2 (v := (97 : Int64)) C dX9_readWords_23 lq_X9_111 ?_
            refine ab_ldc2 (v := (122 : Int64)) C dX9_readWords_26 lq_X9_113 ?_
            refine ab_cSR (v := .int (X9_in (v9.toInt64) (97 : Int64) (122 : Int64))) (st := []) C lm_X9_69 (X9_in_ok (xl X) (r := (X9_in (v9.toInt64) (97 : Int64) (122 : Int64))) rfl) rfl rfl (by decide) ⟨Nat.zero_le _, Nat.zero_le _⟩ (Nat.le_of_ble_eq_true rfl) dX9_readWords_29 ?_
            refine ab_if_eq C 101 dX9_readWords_32 (by decide) (fun c10 => ?_) (fun c10 => ?_)
            · replace hF := (if_pos c10).symm.trans hF
              obtain rfl := Option.some.inj hF
              exact KX18 g8 hB0 hFr
            · replace hF := (if_neg c10).symm.trans hF
              refine ab_aload_n C 0 rfl rfl dX9_readWords_35 ?_
              refine ab_g9 (v := .ref (a0 + 2)) C lf_X9_13 hB0.1 rfl dX9_readWords_36 ?_
              refine ab_iload_n C 1 rfl rfl dX9_readWords_39 ?_
              obtain ⟨v11, hxv11, hF⟩ := Option.bind_eq_some_iff.mp hF
              refine ab_iald C (X9_r1 hB0) hxv11 dX9_readWords_40 ?_
              refine ab_bipush (v := (6 : Int32)) C dX9_readWords_41 (by decide) ?_
              refine ab_icmp_ge C 101 dX9_readWords_43 (by decide) (fun c12 => ?_) (fun c12 => ?_)
              · replace hF := (if_pos c12).symm.trans hF
                obtain rfl := Option.some.inj hF
                exact KX18 g8 hB0 hFr
              · replace hF := (if_neg c12).symm.trans hF
                refine ab_aload_n C 0 rfl rfl dX9_readWords_46 ?_
                obtain ⟨v13, hxv13, hF⟩ := Option.bind_eq_some_iff.mp hF
                refine ab_cVR (v := .int v13) (st := []) C lm_X9_89 (X9_now_ok (xl X) hB0 (r := v13) hxv13) [] rfl hB0.1 rfl rfl rfl (by decide) ⟨Nat.zero_le _, Nat.zero_le _⟩ (Nat.le_of_ble_eq_true rfl) dX9_readWords_47 ?_
                refine ab_cSR (v := .int (X9_vowelBy v13)) (st := []) C lm_X9_79 (X9_vowelBy_ok (xl X) (r := (X9_vowelBy v13)) rfl) rfl rfl (by decide) ⟨Nat.zero_le _, Nat.zero_le _⟩ (Nat.le_of_ble_eq_true rfl) dX9_readWords_50 ?_
                refine ab_topi (fun v14 qv14 => ?_)
                replace hF := aLet_e hF v14 qv14
                refine ab_istore_n (lv' := [(3, .int v14), (0, .ref a0), (2, .int v6)]) C dX9_readWords_53 rfl (by decide) rfl ?_
                refine ab_aload_n C 1 rfl rfl dX9_readWords_54 ?_
                refine ab_g9 (v := .ref (a0 + 2)) C lf_X9_13 hB0.1 rfl dX9_readWords_55 ?_
                refine ab_iload_n C 2 rfl rfl dX9_readWords_58 ?_
                refine ab_iconst (v := (1 : Int32)) C dX9_readWords_59 (by decide) ?_
                refine ab_iadd C dX9_readWords_60 ?_
                refine ab_dup2_11 C rfl rfl dX9_readWords_61 ?_
                obtain ⟨v15, hxv15, hF⟩ := Option.bind_eq_some_iff.mp hF
                refine ab_iald C (X9_r1 hB0) hxv15 dX9_readWords_62 ?_
                refine ab_iload_n C 0 rfl rfl dX9_readWords_63 ?_
                refine ab_bipush (v := (-4 : Int32)) C dX9_readWords_64 (by decide) ?_
                have J76 : ∀ (v16 : Int32), X9_readWords_J76 Z7 v6 v15 (X9_readWords_L18 v6 n18) v16 = some res18 → aV X G 4 76 [(0, .ref a0), (2, .int v6)] [.int v16, .int v15, .int (v6 + (1 : Int32)), .ref (a0 + 2)] g8 nx 0 0 := by
                  intro v16 hF
                  rw [X9_readWords_J76] at hF
                  refine ab_ior C dX9_readWords_76 ?_
                  obtain ⟨w17, hxw17, hF⟩ := Option.bind_eq_some_iff.mp hF
                  refine ab_iast C (X9_r1 hB0) hxw17 dX9_readWords_77 (fun g18 eg18 og18 => ?_)
                  have hB0 : X9_at g18 a0 (sA Z7 1 w17) := X9_w1 hB0 eg18 og18
                  have hFr : ∀ q, (q < a0 ∨ a0 + 20 ≤ q) → g18 q = h q := fun q u0 => (og18 q (by omega)).trans (hFr q u0)
                  refine ab_aload_n C 0 rfl rfl dX9_readWords_78 ?_
                  refine ab_g9 (v := .ref (a0 + 2)) C lf_X9_13 hB0.1 rfl dX9_readWords_79 ?_
                  refine ab_iload_n C 1 rfl rfl dX9_readWords_82 ?_
                  refine ab_dup2_11 C rfl rfl dX9_readWords_83 ?_
                  obtain ⟨v19, hxv19, hF⟩ := Option.bind_eq_some_iff.mp hF
                  refine ab_iald C (X9_r1 hB0) hxv19 dX9_readWords_84 ?_
                  refine ab_iconst (v := (1 : Int32)) C dX9_readWords_85 (by decide) ?_
                  refine ab_iadd C dX9_readWords_86 ?_
                  obtain ⟨w20, hxw20, hF⟩ := Option.bind_eq_some_iff.mp hF
                  refine ab_iast C (X9_r1 hB0) hxw20 dX9_readWords_87 (fun g21 eg21 og21 => ?_)
                  have hB0 : X9_at g21 a0 (sA (sA Z7 1 w17) 1 w20) := X9_w1 hB0 eg21 og21
                  have hFr : ∀ q, (q < a0 ∨ a0 + 20 ≤ q) → g21 q = h q := fun q u0 => (og21 q (by omega)).trans (hFr q u0)
                  refine ab_aload_n C 0 rfl rfl dX9_readWords_88 ?_
                  refine ab_dup C rfl dX9_readWords_89 ?_
                  refine ab_g9 (v := .int ((sA (sA Z7 1 w17) 1 w20).1 7)) C lf_X9_86 hB0.1 rfl dX9_readWords_90 ?_
                  refine ab_iconst (v := (1 : Int32)) C dX9_readWords_93 (by decide) ?_
                  refine ab_iadd C dX9_readWords_94 ?_
                  refine ab_p9 (ty := .int) C lf_X9_86 rfl (by decide +kernel) rfl rfl (Nat.le_of_ble_eq_true rfl) hB0.1 dX9_readWords_95 (fun g22 eg22 og22 => ?_)
                  have hB0 : X9_at g22 a0 (sI (sA (sA Z7 1 w17) 1 w20) 7 (((sA (sA Z7 1 w17) 1 w20).1 7) + (1 : Int32))) := X9_p7 hB0 eg22 og22
                  have hFr : ∀ q, (q < a0 ∨ a0 + 20 ≤ q) → g22 q = h q := fun q u0 => (og22 q (by omega)).trans (hFr q u0)
                  refine ab_goto C 18 dX9_readWords_98 (by decide) ?_
                  exact ih18 (sI (sA (sA Z7 1 w17) 1 w20) 7 (((sA (sA Z7 1 w17) 1 w20).1 7) + (1 : Int32))) g22 hB0 hFr res18 hF KX18
                refine ab_icmp_ne C 73 dX9_readWords_66 (by decide) (fun c23 => ?_) (fun c23 => ?_)
                · replace hF := (if_neg c23).symm.trans hF
                  refine ab_iconst (v := (1 : Int32)) C dX9_readWords_73 (by decide) ?_
                  refine ab_iload_n C 0 rfl rfl dX9_readWords_74 ?_
                  refine ab_ishl C dX9_readWords_75 ?_
                  refine aV.sub (lv' := [(0, .ref a0), (2, .int v6)]) [1, 2] rfl ?_
                  exact J76 ((1 : Int32) <<< (v14 &&& 31)) hF
                · replace hF := (if_pos c23).symm.trans hF
                  refine ab_iconst (v := (0 : Int32)) C dX9_readWords_69 (by decide) ?_
                  refine ab_goto C 76 dX9_readWords_70 (by decide) ?_
                  refine aV.sub (lv' := [(0, .ref a0), (2, .int v6)]) [1, 2] rfl ?_
                  exact J76 (0 : Int32) hF
        refine aV.sub (lv' := [(0, .ref a0), (2, .int v6)]) [1, 0] rfl ?_
        obtain ⟨e24, he24, hF⟩ := Option.bind_eq_some_iff.mp hF
        refine L18 aFu Z2 g3 hB0 hFr e24 he24 (fun g25 hB0 hFr => ?_)
        refine ab_aload_n C 0 rfl rfl dX9_readWords_101 ?_
        refine ab_g9 (v := .ref (a0 + 2)) C lf_X9_13 hB0.1 rfl dX9_readWords_102 ?_
        refine ab_iload_n C 1 rfl rfl dX9_readWords_105 ?_
        obtain ⟨v26, hxv26, hF⟩ := Option.bind_eq_some_iff.mp hF
        refine ab_iald C (X9_r1 hB0) hxv26 dX9_readWords_106 ?_
        have J114 : ∀ (Z27 : Rec) (g28 : aH), (X9_at g28 a0 Z27) → (∀ q, (q < a0 ∨ a0 + 20 ≤ q) → g28 q = h q) → X9_readWords_J114 (X9_readWords_L2 n2) Z27 = some res2 → aV X G 4 114 [(0, .ref a0)] [] g28 nx 0 0 := by
          intro Z27 g28 hB0 hFr hF
          rw [X9_readWords_J114] at hF
          refine ab_aload_n C 0 rfl rfl dX9_readWords_114 ?_
          refine ab_g9 (v := .ref (a0 + 2)) C lf_X9_13 hB0.1 rfl dX9_readWords_115 ?_
          refine ab_iconst (v := (4 : Int32)) C dX9_readWords_118 (by decide) ?_
          refine ab_dup2_11 C rfl rfl dX9_readWords_119 ?_
          obtain ⟨v29, hxv29, hF⟩ := Option.bind_eq_some_iff.mp hF
          refine ab_iald C (X9_r1 hB0) hxv29 dX9_readWords_120 ?_
          refine ab_iconst (v := (1 : Int32)) C dX9_readWords_121 (by decide) ?_
          refine ab_iadd C dX9_readWords_122 ?_
          obtain ⟨w30, hxw30, hF⟩ := Option.bind_eq_some_iff.mp hF
          refine ab_iast C (X9_r1 hB0) hxw30 dX9_readWords_123 (fun g31 eg31 og31 => ?_)
          have hB0 : X9_at g31 a0 (sA Z27 1 w30) := X9_w1 hB0 eg31 og31
          have hFr : ∀ q, (q < a0 ∨ a0 + 20 ≤ q) → g31 q = h q := fun q u0 => (og31 q (by omega)).trans (hFr q u0)
          refine ab_aload_n C 0 rfl rfl dX9_readWords_124 ?_
          obtain ⟨v32, hxv32, hF⟩ := Option.bind_eq_some_iff.mp hF
          refine ab_cVR (v := .int v32) (st := []) C lm_X9_89 (X9_now_ok (xl X) hB0 (r := v32) hxv32) [] rfl hB0.1 rfl rfl rfl (by decide) ⟨Nat.zero_le _, Nat.zero_le _⟩ (Nat.le_of_ble_eq_true rfl) dX9_readWords_125 ?_
          refine ab_bipush (v := (44 : Int32)) C dX9_readWords_128 (by decide) ?_
          have J148 : ∀ (v33 : Int32), X9_readWords_J148 Z27 w30 (X9_readWords_L2 n2) v33 = some res2 → aV X G 4 148 [(0, .ref a0)] [.int v33] g31 nx 0 0 := by
            intro v33 hF
            rw [X9_readWords_J148] at hF
            refine ab_istore_n (lv' := [(1, .int v33), (0, .ref a0)]) C dX9_readWords_148 rfl (by decide) rfl ?_
            refine ab_aload_n C 1 rfl rfl dX9_readWords_149 ?_
            refine ab_dup C rfl dX9_readWords_150 ?_
            refine ab_g9 (v := .int ((sA Z27 1 w30).1 7)) C lf_X9_86 hB0.1 rfl dX9_readWords_151 ?_
            refine ab_iload_n C 0 rfl rfl dX9_readWords_154 ?_
            refine ab_if_eq C 162 dX9_readWords_155 (by decide) (fun c34 => ?_) (fun c34 => ?_)
            · replace hF := (if_pos c34).symm.trans hF
              refine ab_iconst (v := (0 : Int32)) C dX9_readWords_162 (by decide) ?_
              refine ab_iadd C dX9_readWords_163 ?_
              refine ab_p9 (ty := .int) C lf_X9_86 rfl (by decide +kernel) rfl rfl (Nat.le_of_ble_eq_true rfl) hB0.1 dX9_readWords_164 (fun g35 eg35 og35 => ?_)
              have hB0 : X9_at g35 a0 (sI (sA Z27 1 w30) 7 (((sA Z27 1 w30).1 7) + (0 : Int32))) := X9_p7 hB0 eg35 og35
              have hFr : ∀ q, (q < a0 ∨ a0 + 20 ≤ q) → g35 q = h q := fun q u0 => (og35 q (by omega)).trans (hFr q u0)
              refine ab_goto C 2 dX9_readWords_167 (by decide) ?_
              refine aV.sub (lv' := [(0, .ref a0), (1, .int v33)]) [1, 0] rfl ?_
              exact ih2 v33 (sI (sA Z27 1 w30) 7 (((sA Z27 1 w30).1 7) + (0 : Int32))) g35 hB0 hFr res2 hF KX2
            · replace hF := (if_neg c34).symm.trans hF
              refine ab_iconst (v := (1 : Int32)) C dX9_readWords_158 (by decide) ?_
              refine ab_goto C 163 dX9_readWords_159 (by decide) ?_
              refine ab_iadd C dX9_readWords_163 ?_
              refine ab_p9 (ty := .int) C lf_X9_86 rfl (by decide +kernel) rfl rfl (Nat.le_of_ble_eq_true rfl) hB0.1 dX9_readWords_164 (fun g36 eg36 og36 => ?_)
              have hB0 : X9_at g36 a0 (sI (sA Z27 1 w30) 7 (((sA Z27 1 w30).1 7) + (1 : Int32))) := X9_p7 hB0 eg36 og36
              have hFr : ∀ q, (q < a0 ∨ a0 + 20 ≤ q) → g36 q = h q := fun q u0 => (og36 q (by omega)).trans (hFr q u0)
              refine ab_goto C 2 dX9_readWords_167 (by decide) ?_
              refine aV.sub (lv' := [(0, .ref a0), (1, .int v33)]) [1, 0] rfl ?_
              exact ih2 v33 (sI (sA Z27 1 w30) 7 (((sA Z27 1 w30).1 7) + (1 : Int32))) g36 hB0 hFr res2 hF KX2
          have J147 : X9_readWords_J147 Z27 w30 (X9_readWords_L2 n2) = some res2 → aV X G 4 147 [(0, .ref a0)] [] g31 nx 0 0 := by
            intro  hF
            rw [X9_readWords_J147] at hF
            refine ab_iconst (v := (0 : Int32)) C dX9_readWords_147 (by decide) ?_
            exact J148 (0 : Int32) hF
          refine ab_icmp_ne C 147 dX9_readWords_130 (by decide) (fun c37 => ?_) (fun c37 => ?_)
          · replace hF := (if_neg c37).symm.trans hF
            exact J147 hF
          · replace hF := (if_pos c37).symm.trans hF
            refine ab_aload_n C 0 rfl rfl dX9_readWords_133 ?_
            refine ab_g9 (v := .ref (a0 + 2)) C lf_X9_13 hB0.1 rfl dX9_readWords_134 ?_
            refine ab_iconst (v := (4 : Int32)) C dX9_readWords_137 (by decide) ?_
            obtain ⟨v38, hxv38, hF⟩ := Option.bind_eq_some_iff.mp hF
            refine ab_iald C (X9_r1 hB0) hxv38 dX9_readWords_138 ?_
            refine ab_iconst (v := (4 : Int32)) C dX9_readWords_139 (by decide) ?_
            refine ab_icmp_ge C 147 dX9_readWords_140 (by decide) (fun c39 => ?_) (fun c39 => ?_)
            · replace hF := (if_pos c39).symm.trans hF
              exact J147 hF
            · replace hF := (if_neg c39).symm.trans hF
              refine ab_iconst (v := (1 : Int32)) C dX9_readWords_143 (by decide) ?_
              refine ab_goto C 148 dX9_readWords_144 (by decide) ?_
              exact J148 (1 : Int32) hF
        refine ab_if_ne C 114 dX9_readWords_107 (by decide) (fun c40 => ?_) (fun c40 => ?_)
        · replace hF := (if_neg c40).symm.trans hF
          refine aV.sub (lv' := [(0, .ref a0)]) [0] rfl ?_
          exact J114 e24 g25 hB0 hFr hF
        · replace hF := (if_pos c40).symm.trans hF
          refine ab_aload_n C 0 rfl rfl dX9_readWords_110 ?_
          refine ab_cVN (st := []) C lm_X9_93 (X9_wrong_ok (xl X) hB0 (r := (X9_wrong e24)) rfl) [] rfl hB0.1 rfl rfl rfl (by decide) ⟨Nat.zero_le _, Nat.zero_le _⟩ (Nat.le_of_ble_eq_true rfl) dX9_readWords_111 (fun g41 pg41 => ?_)
          obtain ⟨k0, Og41⟩ := pg41
          have hB0 : X9_at g41 a0 (X9_wrong e24) := k0
          have hFr : ∀ q, (q < a0 ∨ a0 + 20 ≤ q) → g41 q = h q := fun q u0 => (Og41 q (by omega)).trans (hFr q u0)
          refine aV.sub (lv' := [(0, .ref a0)]) [0] rfl ?_
          exact J114 (X9_wrong e24) g41 hB0 hFr hF
  refine aV.sub (lv' := [(0, .ref a0), (1, .int (1 : Int32))]) [1, 0] rfl ?_
  obtain ⟨e42, he42, hF⟩ := Option.bind_eq_some_iff.mp hF
  refine L2 aFu (1 : Int32) S0 h hB0 hFr e42 he42 (fun g43 hB0 hFr => ?_)
  refine ab_aload_n C 0 rfl rfl dX9_readWords_170 ?_
  refine ab_bipush (v := (59 : Int32)) C dX9_readWords_171 (by decide) ?_
  obtain ⟨v44, hxv44, hF⟩ := Option.bind_eq_some_iff.mp hF
  refine ab_cVN (st := []) C lm_X9_96 (X9_must_ok (xl X) hB0 (r := v44) hxv44) [.int (59 : Int32)] rfl hB0.1 rfl rfl rfl (by decide) ⟨Nat.zero_le _, Nat.zero_le _⟩ (Nat.le_of_ble_eq_true rfl) dX9_readWords_173 (fun g45 pg45 => ?_)
  obtain ⟨k0, Og45⟩ := pg45
  have hB0 : X9_at g45 a0 v44 := k0
  have hFr : ∀ q, (q < a0 ∨ a0 + 20 ≤ q) → g45 q = h q := fun q u0 => (Og45 q (by omega)).trans (hFr q u0)
  obtain rfl := Option.some.inj hF
  exact ab_vret C R0 dX9_readWords_176 ⟨rfl, rfl, hB0, hFr⟩
theorem dX9_readChange_0 : decode cX9_readChange 0 = .ok (.iconst 0, 1) := by decide +kernel
theorem dX9_readChange_1 : decode cX9_readChange 1 = .ok (.istore_n 1, 1) := by decide +kernel
theorem dX9_readChange_2 : decode cX9_readChange 2 = .ok (.iload_n 1, 1) := by decide +kernel
theorem dX9_readChange_3 : decode cX9_readChange 3 = .ok (.iconst 5, 1) := by decide +kernel
theorem dX9_readChange_4 : decode cX9_readChange 4 = .ok (.if_icmp .ge 50, 3) := by decide +kernel
theorem dX9_readChange_7 : decode cX9_readChange 7 = .ok (.aload_n 0, 1) := by decide +kernel
theorem dX9_readChange_8 : decode cX9_readChange 8 = .ok (.invokevirtual 89, 3) := by decide +kernel
theorem dX9_readChange_11 : decode cX9_readChange 11 = .ok (.invokestatic 79, 3) := by decide +kernel
theorem dX9_readChange_14 : decode cX9_readChange 14 = .ok (.istore_n 2, 1) := by decide +kernel
theorem dX9_readChange_15 : decode cX9_readChange 15 = .ok (.iload_n 2, 1) := by decide +kernel
theorem dX9_readChange_16 : decode cX9_readChange 16 = .ok (.bipush (-4), 2) := by decide +kernel
theorem dX9_readChange_18 : decode cX9_readChange 18 = .ok (.if_icmp .ne 10, 3) := by decide +kernel
theorem dX9_readChange_21 : decode cX9_readChange 21 = .ok (.aload_n 0, 1) := by decide +kernel
theorem dX9_readChange_22 : decode cX9_readChange 22 = .ok (.invokevirtual 93, 3) := by decide +kernel
theorem dX9_readChange_25 : decode cX9_readChange 25 = .ok (.goto 23, 3) := by decide +kernel
theorem dX9_readChange_28 : decode cX9_readChange 28 = .ok (.aload_n 0, 1) := by decide +kernel
theorem dX9_readChange_29 : decode cX9_readChange 29 = .ok (.getfield 13, 3) := by decide +kernel
theorem dX9_readChange_32 : decode cX9_readChange 32 = .ok (.bipush 11, 2) := by decide +kernel
theorem dX9_readChange_34 : decode cX9_readChange 34 = .ok (.iload_n 1, 1) := by decide +kernel
theorem dX9_readChange_35 : decode cX9_readChange 35 = .ok (.iadd, 1) := by decide +kernel
theorem dX9_readChange_36 : decode cX9_readChange 36 = .ok (.iload_n 2, 1) := by decide +kernel
theorem dX9_readChange_37 : decode cX9_readChange 37 = .ok (.iastore, 1) := by decide +kernel
theorem dX9_readChange_38 : decode cX9_readChange 38 = .ok (.aload_n 0, 1) := by decide +kernel
theorem dX9_readChange_39 : decode cX9_readChange 39 = .ok (.dup, 1) := by decide +kernel
theorem dX9_readChange_40 : decode cX9_readChange 40 = .ok (.getfield 86, 3) := by decide +kernel
theorem dX9_readChange_43 : decode cX9_readChange 43 = .ok (.iconst 1, 1) := by decide +kernel
theorem dX9_readChange_44 : decode cX9_readChange 44 = .ok (.iadd, 1) := by decide +kernel
theorem dX9_readChange_45 : decode cX9_readChange 45 = .ok (.putfield 86, 3) := by decide +kernel
theorem dX9_readChange_48 : decode cX9_readChange 48 = .ok (.iinc 1 1, 3) := by decide +kernel
theorem dX9_readChange_51 : decode cX9_readChange 51 = .ok (.goto (-49), 3) := by decide +kernel
theorem dX9_readChange_54 : decode cX9_readChange 54 = .ok (.aload_n 0, 1) := by decide +kernel
theorem dX9_readChange_55 : decode cX9_readChange 55 = .ok (.getfield 86, 3) := by decide +kernel
theorem dX9_readChange_58 : decode cX9_readChange 58 = .ok (.aload_n 0, 1) := by decide +kernel
theorem dX9_readChange_59 : decode cX9_readChange 59 = .ok (.getfield 75, 3) := by decide +kernel
theorem dX9_readChange_62 : decode cX9_readChange 62 = .ok (.if_icmp .ge 7, 3) := by decide +kernel
theorem dX9_readChange_65 : decode cX9_readChange 65 = .ok (.aload_n 0, 1) := by decide +kernel
theorem dX9_readChange_66 : decode cX9_readChange 66 = .ok (.invokevirtual 93, 3) := by decide +kernel
theorem dX9_readChange_69 : decode cX9_readChange 69 = .ok (.return_, 1) := by decide +kernel
def X9_readChange_L2 : Nat → Int32 → Rec → Option (Rec)
  | 0, _, _ => none
  | n2 + 1, v1, Z2 => if (5 : Int32) ≤ v1 then
      some Z2
    else
      (X9_now Z2).bind fun v5 =>
      aLet (X9_vowelBy v5) fun v6 =>
      if v6 = (-4 : Int32) then
        aLet (v1 + (1 : Int32)) fun v13 =>
        X9_readChange_L2 n2 v13 (X9_wrong Z2)
      else
        (wrI (Z2.2.1 1) 96 ((11 : Int32) + v1) v6).bind fun w8 =>
        aLet (v1 + (1 : Int32)) fun v11 =>
        X9_readChange_L2 n2 v11 (sI (sA Z2 1 w8) 7 (((sA Z2 1 w8).1 7) + (1 : Int32)))
def X9_readChange (S0 : Rec) : Option (Rec) :=
  (X9_readChange_L2 aFu (0 : Int32) S0).bind fun e14 =>
  if (e14.1 6) ≤ (e14.1 7) then
    some e14
  else
    some (X9_wrong e14)
set_option maxRecDepth 100000 in
set_option maxHeartbeats 4000000 in
theorem X9_readChange_ok (l : Launch) {h : aH} {nx : Nat} {a0 : Nat} {S0 : Rec} (hB0 : X9_at h a0 S0) {r : Rec} (hF : X9_readChange S0 = some r) : aOk l 1 0 0 yX9_readChange cX9_readChange 3 none [.ref a0] h nx (aMt none nx (fun h1 => X9_at h1 a0 r ∧ (∀ q, (q < a0 ∨ a0 + 20 ≤ q) → h1 q = h q))) := by
  refine aOk.of (by decide +kernel) (Nat.le_of_ble_eq_true rfl) (fun X G hX C R0 _ => ?_)
  subst hX
  show aV X G 3 0 [(0, .ref a0)] [] h nx 0 0
  have hFr : ∀ q, (q < a0 ∨ a0 + 20 ≤ q) → h q = h q := fun _ _ => rfl
  rw [X9_readChange] at hF
  refine ab_iconst (v := (0 : Int32)) C dX9_readChange_0 (by decide) ?_
  refine ab_istore_n (lv' := [(1, .int (0 : Int32)), (0, .ref a0)]) C dX9_readChange_1 rfl (by decide) rfl ?_
  have L2 : ∀ (n2 : Nat) (v1 : Int32) (Z2 : Rec) (g3 : aH), (X9_at g3 a0 Z2) → (∀ q, (q < a0 ∨ a0 + 20 ≤ q) → g3 q = h q) → ∀ (res2 : Rec), X9_readChange_L2 n2 v1 Z2 = some res2 → (∀ (q9 : aH), (X9_at q9 a0 res2) → (∀ q, (q < a0 ∨ a0 + 20 ≤ q) → q9 q = h q) → aV X G 3 54 [(0, .ref a0)] [] q9 nx 0 0) → aV X G 3 2 [(0, .ref a0), (1, .int v1)] [] g3 nx 0 0 := by
    intro n2
    induction n2 with
    | zero => intro v1 Z2 g3 hB0 hFr res2 hF KX2; cases (show (none : Option (Rec)) = some res2 from hF)
    | succ n2 ih2 =>
      intro v1 Z2 g3 hB0 hFr res2 hF KX2
      rw [X9_readChange_L2] at hF
      refine ab_iload_n C 1 rfl rfl dX9_readChange_2 ?_
      refine ab_iconst (v := (5 : Int32)) C dX9_readChange_3 (by decide) ?_
      refine ab_icmp_ge C 54 dX9_readChange_4 (by decide) (fun c4 => ?_) (fun c4 => ?_)
      · replace hF := (if_pos c4).symm.trans hF
        obtain rfl := Option.some.inj hF
        refine aV.sub (lv' := [(0, .ref a0)]) [0] rfl ?_
        exact KX2 g3 hB0 hFr
      · replace hF := (if_neg c4).symm.trans hF
        refine ab_aload_n C 0 rfl rfl dX9_readChange_7 ?_
        obtain ⟨v5, hxv5, hF⟩ := Option.bind_eq_some_iff.mp hF
        refine ab_cVR (v := .int v5) (st := []) C lm_X9_89 (X9_now_ok (xl X) hB0 (r := v5) hxv5) [] rfl hB0.1 rfl rfl rfl (by decide) ⟨Nat.zero_le _, Nat.zero_le _⟩ (Nat.le_of_ble_eq_true rfl) dX9_readChange_8 ?_
        refine ab_cSR (v := .int (X9_vowelBy v5)) (st := []) C lm_X9_79 (X9_vowelBy_ok (xl X) (r := (X9_vowelBy v5)) rfl) rfl rfl (by decide) ⟨Nat.zero_le _, Nat.zero_le _⟩ (Nat.le_of_ble_eq_true rfl) dX9_readChange_11 ?_
        refine ab_topi (fun v6 qv6 => ?_)
        replace hF := aLet_e hF v6 qv6
        refine ab_istore_n (lv' := [(2, .int v6), (0, .ref a0), (1, .int v1)]) C dX9_readChange_14 rfl (by decide) rfl ?_
        refine ab_iload_n C 0 rfl rfl dX9_readChange_15 ?_
        refine ab_bipush (v := (-4 : Int32)) C dX9_readChange_16 (by decide) ?_
        refine ab_icmp_ne C 28 dX9_readChange_18 (by decide) (fun c7 => ?_) (fun c7 => ?_)
        · replace hF := (if_neg c7).symm.trans hF
          refine ab_aload_n C 1 rfl rfl dX9_readChange_28 ?_
          refine ab_g9 (v := .ref (a0 + 2)) C lf_X9_13 hB0.1 rfl dX9_readChange_29 ?_
          refine ab_bipush (v := (11 : Int32)) C dX9_readChange_32 (by decide) ?_
          refine ab_iload_n C 2 rfl rfl dX9_readChange_34 ?_
          refine ab_iadd C dX9_readChange_35 ?_
          refine ab_iload_n C 0 rfl rfl dX9_readChange_36 ?_
          obtain ⟨w8, hxw8, hF⟩ := Option.bind_eq_some_iff.mp hF
          refine ab_iast C (X9_r1 hB0) hxw8 dX9_readChange_37 (fun g9 eg9 og9 => ?_)
          have hB0 : X9_at g9 a0 (sA Z2 1 w8) := X9_w1 hB0 eg9 og9
          have hFr : ∀ q, (q < a0 ∨ a0 + 20 ≤ q) → g9 q = h q := fun q u0 => (og9 q (by omega)).trans (hFr q u0)
          refine ab_aload_n C 1 rfl rfl dX9_readChange_38 ?_
          refine ab_dup C rfl dX9_readChange_39 ?_
          refine ab_g9 (v := .int ((sA Z2 1 w8).1 7)) C lf_X9_86 hB0.1 rfl dX9_readChange_40 ?_
          refine ab_iconst (v := (1 : Int32)) C dX9_readChange_43 (by decide) ?_
          refine ab_iadd C dX9_readChange_44 ?_
          refine ab_p9 (ty := .int) C lf_X9_86 rfl (by decide +kernel) rfl rfl (Nat.le_of_ble_eq_true rfl) hB0.1 dX9_readChange_45 (fun g10 eg10 og10 => ?_)
          have hB0 : X9_at g10 a0 (sI (sA Z2 1 w8) 7 (((sA Z2 1 w8).1 7) + (1 : Int32))) := X9_p7 hB0 eg10 og10
          have hFr : ∀ q, (q < a0 ∨ a0 + 20 ≤ q) → g10 q = h q := fun q u0 => (og10 q (by omega)).trans (hFr q u0)
          obtain ⟨v11, qv11⟩ : ∃ y : Int32, y = (v1 + (1 : Int32)) := ⟨_, rfl⟩
          replace hF := aLet_e hF v11 qv11
          refine ab_iinc (lv' := [(1, .int v11), (2, .int v6), (0, .ref a0)]) C 2 rfl dX9_readChange_48 (by rw [qv11]; rfl) (by decide) rfl ?_
          refine ab_goto C 2 dX9_readChange_51 (by decide) ?_
          refine aV.sub (lv' := [(0, .ref a0), (1, .int v11)]) [2, 0] rfl ?_
          exact ih2 v11 (sI (sA Z2 1 w8) 7 (((sA Z2 1 w8).1 7) + (1 : Int32))) g10 hB0 hFr res2 hF KX2
        · replace hF := (if_pos c7).symm.trans hF
          refine ab_aload_n C 1 rfl rfl dX9_readChange_21 ?_
          refine ab_cVN (st := []) C lm_X9_93 (X9_wrong_ok (xl X) hB0 (r := (X9_wrong Z2)) rfl) [] rfl hB0.1 rfl rfl rfl (by decide) ⟨Nat.zero_le _, Nat.zero_le _⟩ (Nat.le_of_ble_eq_true rfl) dX9_readChange_22 (fun g12 pg12 => ?_)
          obtain ⟨k0, Og12⟩ := pg12
          have hB0 : X9_at g12 a0 (X9_wrong Z2) := k0
          have hFr : ∀ q, (q < a0 ∨ a0 + 20 ≤ q) → g12 q = h q := fun q u0 => (Og12 q (by omega)).trans (hFr q u0)
          refine ab_goto C 48 dX9_readChange_25 (by decide) ?_
          obtain ⟨v13, qv13⟩ : ∃ y : Int32, y = (v1 + (1 : Int32)) := ⟨_, rfl⟩
          replace hF := aLet_e hF v13 qv13
          refine ab_iinc (lv' := [(1, .int v13), (2, .int v6), (0, .ref a0)]) C 2 rfl dX9_readChange_48 (by rw [qv13]; rfl) (by decide) rfl ?_
          refine ab_goto C 2 dX9_readChange_51 (by decide) ?_
          refine aV.sub (lv' := [(0, .ref a0), (1, .int v13)]) [2, 0] rfl ?_
          exact ih2 v13 (X9_wrong Z2) g12 hB0 hFr res2 hF KX2
  refine aV.sub (lv' := [(0, .ref a0), (1, .int (0 : Int32))]) [1, 0] rfl ?_
  obtain ⟨e14, he14, hF⟩ := Option.bind_eq_some_iff.mp hF
  refine L2 aFu (0 : Int32) S0 h hB0 hFr e14 he14 (fun g15 hB0 hFr => ?_)
  refine ab_aload_n C 0 rfl rfl dX9_readChange_54 ?_
  refine ab_g9 (v := .int (e14.1 7)) C lf_X9_86 hB0.1 rfl dX9_readChange_55 ?_
  refine ab_aload_n C 0 rfl rfl dX9_readChange_58 ?_
  refine ab_g9 (v := .int (e14.1 6)) C lf_X9_75 hB0.1 rfl dX9_readChange_59 ?_
  refine ab_icmp_ge C 69 dX9_readChange_62 (by decide) (fun c16 => ?_) (fun c16 => ?_)
  · replace hF := (if_pos c16).symm.trans hF
    obtain rfl := Option.some.inj hF
    exact ab_vret C R0 dX9_readChange_69 ⟨rfl, rfl, hB0, hFr⟩
  · replace hF := (if_neg c16).symm.trans hF
    refine ab_aload_n C 0 rfl rfl dX9_readChange_65 ?_
    refine ab_cVN (st := []) C lm_X9_93 (X9_wrong_ok (xl X) hB0 (r := (X9_wrong e14)) rfl) [] rfl hB0.1 rfl rfl rfl (by decide) ⟨Nat.zero_le _, Nat.zero_le _⟩ (Nat.le_of_ble_eq_true rfl) dX9_readChange_66 (fun g17 pg17 => ?_)
    obtain ⟨k0, Og17⟩ := pg17
    have hB0 : X9_at g17 a0 (X9_wrong e14) := k0
    have hFr : ∀ q, (q < a0 ∨ a0 + 20 ≤ q) → g17 q = h q := fun q u0 => (Og17 q (by omega)).trans (hFr q u0)
    obtain rfl := Option.some.inj hF
    exact ab_vret C R0 dX9_readChange_69 ⟨rfl, rfl, hB0, hFr⟩
theorem dX9_land_0 : decode cX9_land 0 = .ok (.iconst 0, 1) := by decide +kernel
theorem dX9_land_1 : decode cX9_land 1 = .ok (.istore_n 1, 1) := by decide +kernel
theorem dX9_land_2 : decode cX9_land 2 = .ok (.iload_n 1, 1) := by decide +kernel
theorem dX9_land_3 : decode cX9_land 3 = .ok (.bipush 96, 2) := by decide +kernel
theorem dX9_land_5 : decode cX9_land 5 = .ok (.if_icmp .ge 16, 3) := by decide +kernel
theorem dX9_land_8 : decode cX9_land 8 = .ok (.aload_n 0, 1) := by decide +kernel
theorem dX9_land_9 : decode cX9_land 9 = .ok (.getfield 13, 3) := by decide +kernel
theorem dX9_land_12 : decode cX9_land 12 = .ok (.iload_n 1, 1) := by decide +kernel
theorem dX9_land_13 : decode cX9_land 13 = .ok (.iconst 0, 1) := by decide +kernel
theorem dX9_land_14 : decode cX9_land 14 = .ok (.iastore, 1) := by decide +kernel
theorem dX9_land_15 : decode cX9_land 15 = .ok (.iinc 1 1, 3) := by decide +kernel
theorem dX9_land_18 : decode cX9_land 18 = .ok (.goto (-16), 3) := by decide +kernel
theorem dX9_land_21 : decode cX9_land 21 = .ok (.aload_n 0, 1) := by decide +kernel
theorem dX9_land_22 : decode cX9_land 22 = .ok (.iconst 0, 1) := by decide +kernel
theorem dX9_land_23 : decode cX9_land 23 = .ok (.putfield 86, 3) := by decide +kernel
theorem dX9_land_26 : decode cX9_land 26 = .ok (.aload_n 0, 1) := by decide +kernel
theorem dX9_land_27 : decode cX9_land 27 = .ok (.bipush (-4), 2) := by decide +kernel
theorem dX9_land_29 : decode cX9_land 29 = .ok (.putfield 83, 3) := by decide +kernel
theorem dX9_land_32 : decode cX9_land 32 = .ok (.aload_n 0, 1) := by decide +kernel
theorem dX9_land_33 : decode cX9_land 33 = .ok (.invokevirtual 115, 3) := by decide +kernel
theorem dX9_land_36 : decode cX9_land 36 = .ok (.aload_n 0, 1) := by decide +kernel
theorem dX9_land_37 : decode cX9_land 37 = .ok (.getfield 83, 3) := by decide +kernel
theorem dX9_land_40 : decode cX9_land 40 = .ok (.bipush (-4), 2) := by decide +kernel
theorem dX9_land_42 : decode cX9_land 42 = .ok (.if_icmp .ne 7, 3) := by decide +kernel
theorem dX9_land_45 : decode cX9_land 45 = .ok (.aload_n 0, 1) := by decide +kernel
theorem dX9_land_46 : decode cX9_land 46 = .ok (.invokevirtual 118, 3) := by decide +kernel
theorem dX9_land_49 : decode cX9_land 49 = .ok (.aload_n 0, 1) := by decide +kernel
theorem dX9_land_50 : decode cX9_land 50 = .ok (.getfield 83, 3) := by decide +kernel
theorem dX9_land_53 : decode cX9_land 53 = .ok (.bipush (-4), 2) := by decide +kernel
theorem dX9_land_55 : decode cX9_land 55 = .ok (.if_icmp .ne 7, 3) := by decide +kernel
theorem dX9_land_58 : decode cX9_land 58 = .ok (.aload_n 0, 1) := by decide +kernel
theorem dX9_land_59 : decode cX9_land 59 = .ok (.invokevirtual 121, 3) := by decide +kernel
theorem dX9_land_62 : decode cX9_land 62 = .ok (.aload_n 0, 1) := by decide +kernel
theorem dX9_land_63 : decode cX9_land 63 = .ok (.getfield 83, 3) := by decide +kernel
theorem dX9_land_66 : decode cX9_land 66 = .ok (.bipush (-4), 2) := by decide +kernel
theorem dX9_land_68 : decode cX9_land 68 = .ok (.if_icmp .ne 7, 3) := by decide +kernel
theorem dX9_land_71 : decode cX9_land 71 = .ok (.aload_n 0, 1) := by decide +kernel
theorem dX9_land_72 : decode cX9_land 72 = .ok (.invokevirtual 124, 3) := by decide +kernel
theorem dX9_land_75 : decode cX9_land 75 = .ok (.aload_n 0, 1) := by decide +kernel
theorem dX9_land_76 : decode cX9_land 76 = .ok (.getfield 83, 3) := by decide +kernel
theorem dX9_land_79 : decode cX9_land 79 = .ok (.bipush (-4), 2) := by decide +kernel
theorem dX9_land_81 : decode cX9_land 81 = .ok (.if_icmp .ne 7, 3) := by decide +kernel
theorem dX9_land_84 : decode cX9_land 84 = .ok (.aload_n 0, 1) := by decide +kernel
theorem dX9_land_85 : decode cX9_land 85 = .ok (.invokevirtual 127, 3) := by decide +kernel
theorem dX9_land_88 : decode cX9_land 88 = .ok (.aload_n 0, 1) := by decide +kernel
theorem dX9_land_89 : decode cX9_land 89 = .ok (.iconst 0, 1) := by decide +kernel
theorem dX9_land_90 : decode cX9_land 90 = .ok (.putfield 75, 3) := by decide +kernel
theorem dX9_land_93 : decode cX9_land 93 = .ok (.aload_n 0, 1) := by decide +kernel
theorem dX9_land_94 : decode cX9_land 94 = .ok (.getfield 83, 3) := by decide +kernel
theorem dX9_land_97 : decode cX9_land 97 = .ok (.bipush (-4), 2) := by decide +kernel
theorem dX9_land_99 : decode cX9_land 99 = .ok (.if_icmp .eq 11, 3) := by decide +kernel
theorem dX9_land_102 : decode cX9_land 102 = .ok (.bipush (-100), 2) := by decide +kernel
theorem dX9_land_104 : decode cX9_land 104 = .ok (.aload_n 0, 1) := by decide +kernel
theorem dX9_land_105 : decode cX9_land 105 = .ok (.getfield 83, 3) := by decide +kernel
theorem dX9_land_108 : decode cX9_land 108 = .ok (.isub, 1) := by decide +kernel
theorem dX9_land_109 : decode cX9_land 109 = .ok (.ireturn, 1) := by decide +kernel
theorem dX9_land_110 : decode cX9_land 110 = .ok (.iconst 0, 1) := by decide +kernel
theorem dX9_land_111 : decode cX9_land 111 = .ok (.istore_n 1, 1) := by decide +kernel
theorem dX9_land_112 : decode cX9_land 112 = .ok (.iload_n 1, 1) := by decide +kernel
theorem dX9_land_113 : decode cX9_land 113 = .ok (.bipush 96, 2) := by decide +kernel
theorem dX9_land_115 : decode cX9_land 115 = .ok (.if_icmp .ge 21, 3) := by decide +kernel
theorem dX9_land_118 : decode cX9_land 118 = .ok (.aload_n 0, 1) := by decide +kernel
theorem dX9_land_119 : decode cX9_land 119 = .ok (.getfield 7, 3) := by decide +kernel
theorem dX9_land_122 : decode cX9_land 122 = .ok (.iload_n 1, 1) := by decide +kernel
theorem dX9_land_123 : decode cX9_land 123 = .ok (.aload_n 0, 1) := by decide +kernel
theorem dX9_land_124 : decode cX9_land 124 = .ok (.getfield 13, 3) := by decide +kernel
theorem dX9_land_127 : decode cX9_land 127 = .ok (.iload_n 1, 1) := by decide +kernel
theorem dX9_land_128 : decode cX9_land 128 = .ok (.iaload, 1) := by decide +kernel
theorem dX9_land_129 : decode cX9_land 129 = .ok (.iastore, 1) := by decide +kernel
theorem dX9_land_130 : decode cX9_land 130 = .ok (.iinc 1 1, 3) := by decide +kernel
theorem dX9_land_133 : decode cX9_land 133 = .ok (.goto (-21), 3) := by decide +kernel
theorem dX9_land_136 : decode cX9_land 136 = .ok (.aload_n 0, 1) := by decide +kernel
theorem dX9_land_137 : decode cX9_land 137 = .ok (.iconst 0, 1) := by decide +kernel
theorem dX9_land_138 : decode cX9_land 138 = .ok (.putfield 130, 3) := by decide +kernel
theorem dX9_land_141 : decode cX9_land 141 = .ok (.aload_n 0, 1) := by decide +kernel
theorem dX9_land_142 : decode cX9_land 142 = .ok (.getfield 7, 3) := by decide +kernel
theorem dX9_land_145 : decode cX9_land 145 = .ok (.iconst 0, 1) := by decide +kernel
theorem dX9_land_146 : decode cX9_land 146 = .ok (.iaload, 1) := by decide +kernel
theorem dX9_land_147 : decode cX9_land 147 = .ok (.ireturn, 1) := by decide +kernel
def X9_land_L2 : Nat → Int32 → Rec → Option (Rec)
  | 0, _, _ => none
  | n2 + 1, v1, Z2 => if (96 : Int32) ≤ v1 then
      some Z2
    else
      (wrI (Z2.2.1 1) 96 v1 (0 : Int32)).bind fun w5 =>
      aLet (v1 + (1 : Int32)) fun v7 =>
      X9_land_L2 n2 v7 (sA Z2 1 w5)
def X9_land_L112 : Nat → Int32 → Rec → Option (Rec)
  | 0, _, _ => none
  | n112 + 1, v24, Z25 => if (96 : Int32) ≤ v24 then
      some Z25
    else
      (rdI (Z25.2.1 1) 96 v24).bind fun v28 =>
      (wrI (Z25.2.1 0) 96 v24 v28).bind fun w29 =>
      aLet (v24 + (1 : Int32)) fun v31 =>
      X9_land_L112 n112 v31 (sA Z25 0 w29)
def X9_land_J88 (Z20 : Rec) : Option (Int32 × Rec) :=
  if ((sI Z20 6 (0 : Int32)).1 8) = (-4 : Int32) then
    (X9_land_L112 aFu (0 : Int32) (sI Z20 6 (0 : Int32))).bind fun e32 =>
    (rdI ((sI e32 4 (0 : Int32)).2.1 0) 96 (0 : Int32)).bind fun v35 =>
    some (v35, (sI e32 4 (0 : Int32)))
  else
    some (((-100 : Int32) - ((sI Z20 6 (0 : Int32)).1 8)), (sI Z20 6 (0 : Int32)))
def X9_land_J75 (Z18 : Rec) : Option (Int32 × Rec) :=
  if (Z18.1 8) = (-4 : Int32) then
    (X9_readChange Z18).bind fun v37 =>
    X9_land_J88 v37
  else
    X9_land_J88 Z18
def X9_land_J62 (Z16 : Rec) : Option (Int32 × Rec) :=
  if (Z16.1 8) = (-4 : Int32) then
    (X9_readWords Z16).bind fun v40 =>
    X9_land_J75 v40
  else
    X9_land_J75 Z16
def X9_land_J49 (Z14 : Rec) : Option (Int32 × Rec) :=
  if (Z14.1 8) = (-4 : Int32) then
    (X9_readWhose Z14).bind fun v43 =>
    X9_land_J62 v43
  else
    X9_land_J62 Z14
def X9_land (S0 : Rec) : Option (Int32 × Rec) :=
  (X9_land_L2 aFu (0 : Int32) S0).bind fun e8 =>
  (X9_readHolders (sI (sI e8 7 (0 : Int32)) 8 (-4 : Int32))).bind fun v12 =>
  if (v12.1 8) = (-4 : Int32) then
    (X9_readSounds v12).bind fun v46 =>
    X9_land_J49 v46
  else
    X9_land_J49 v12
set_option maxRecDepth 100000 in
set_option maxHeartbeats 4000000 in
theorem X9_land_ok (l : Launch) {h : aH} {nx : Nat} {a0 : Nat} {S0 : Rec} (hB0 : X9_at h a0 S0) {r : Int32 × Rec} (hF : X9_land S0 = some r) : aOk l 3 0 0 yX9_land cX9_land 2 (some .int) [.ref a0] h nx (aMt (some (.int r.1)) nx (fun h1 => X9_at h1 a0 r.2 ∧ (∀ q, (q < a0 ∨ a0 + 20 ≤ q) → h1 q = h q))) := by
  refine aOk.of (by decide +kernel) (Nat.le_of_ble_eq_true rfl) (fun X G hX C R0 _ => ?_)
  subst hX
  show aV X G 2 0 [(0, .ref a0)] [] h nx 0 0
  have hFr : ∀ q, (q < a0 ∨ a0 + 20 ≤ q) → h q = h q := fun _ _ => rfl
  rw [X9_land] at hF
  refine ab_iconst (v := (0 : Int32)) C dX9_land_0 (by decide) ?_
  refine ab_istore_n (lv' := [(1, .int (0 : Int32)), (0, .ref a0)]) C dX9_land_1 rfl (by decide) rfl ?_
  have L2 : ∀ (n2 : Nat) (v1 : Int32) (Z2 : Rec) (g3 : aH), (X9_at g3 a0 Z2) → (∀ q, (q < a0 ∨ a0 + 20 ≤ q) → g3 q = h q) → ∀ (res2 : Rec), X9_land_L2 n2 v1 Z2 = some res2 → (∀ (q9 : aH), (X9_at q9 a0 res2) → (∀ q, (q < a0 ∨ a0 + 20 ≤ q) → q9 q = h q) → aV X G 2 21 [(0, .ref a0)] [] q9 nx 0 0) → aV X G 2 2 [(0, .ref a0), (1, .int v1)] [] g3 nx 0 0 := by
    intro n2
    induction n2 with
    | zero => intro v1 Z2 g3 hB0 hFr res2 hF KX2; cases (show (none : Option (Rec)) = some res2 from hF)
    | succ n2 ih2 =>
      intro v1 Z2 g3 hB0 hFr res2 hF KX2
      rw [X9_land_L2] at hF
      refine ab_iload_n C 1 rfl rfl dX9_land_2 ?_
      refine ab_bipush (v := (96 : Int32)) C dX9_land_3 (by decide) ?_
      refine ab_icmp_ge C 21 dX9_land_5 (by decide) (fun c4 => ?_) (fun c4 => ?_)
      · replace hF := (if_pos c4).symm.trans hF
        obtain rfl := Option.some.inj hF
        refine aV.sub (lv' := [(0, .ref a0)]) [0] rfl ?_
        exact KX2 g3 hB0 hFr
      · replace hF := (if_neg c4).symm.trans hF
        refine ab_aload_n C 0 rfl rfl dX9_land_8 ?_
        refine ab_g9 (v := .ref (a0 + 2)) C lf_X9_13 hB0.1 rfl dX9_land_9 ?_
        refine ab_iload_n C 1 rfl rfl dX9_land_12 ?_
        refine ab_iconst (v := (0 : Int32)) C dX9_land_13 (by decide) ?_
        obtain ⟨w5, hxw5, hF⟩ := Option.bind_eq_some_iff.mp hF
        refine ab_iast C (X9_r1 hB0) hxw5 dX9_land_14 (fun g6 eg6 og6 => ?_)
        have hB0 : X9_at g6 a0 (sA Z2 1 w5) := X9_w1 hB0 eg6 og6
        have hFr : ∀ q, (q < a0 ∨ a0 + 20 ≤ q) → g6 q = h q := fun q u0 => (og6 q (by omega)).trans (hFr q u0)
        obtain ⟨v7, qv7⟩ : ∃ y : Int32, y = (v1 + (1 : Int32)) := ⟨_, rfl⟩
        replace hF := aLet_e hF v7 qv7
        refine ab_iinc (lv' := [(1, .int v7), (0, .ref a0)]) C 1 rfl dX9_land_15 (by rw [qv7]; rfl) (by decide) rfl ?_
        refine ab_goto C 2 dX9_land_18 (by decide) ?_
        refine aV.sub (lv' := [(0, .ref a0), (1, .int v7)]) [1, 0] rfl ?_
        exact ih2 v7 (sA Z2 1 w5) g6 hB0 hFr res2 hF KX2
  refine aV.sub (lv' := [(0, .ref a0), (1, .int (0 : Int32))]) [1, 0] rfl ?_
  obtain ⟨e8, he8, hF⟩ := Option.bind_eq_some_iff.mp hF
  refine L2 aFu (0 : Int32) S0 h hB0 hFr e8 he8 (fun g9 hB0 hFr => ?_)
  refine ab_aload_n C 0 rfl rfl dX9_land_21 ?_
  refine ab_iconst (v := (0 : Int32)) C dX9_land_22 (by decide) ?_
  refine ab_p9 (ty := .int) C lf_X9_86 rfl (by decide +kernel) rfl rfl (Nat.le_of_ble_eq_true rfl) hB0.1 dX9_land_23 (fun g10 eg10 og10 => ?_)
  have hB0 : X9_at g10 a0 (sI e8 7 (0 : Int32)) := X9_p7 hB0 eg10 og10
  have hFr : ∀ q, (q < a0 ∨ a0 + 20 ≤ q) → g10 q = h q := fun q u0 => (og10 q (by omega)).trans (hFr q u0)
  refine ab_aload_n C 0 rfl rfl dX9_land_26 ?_
  refine ab_bipush (v := (-4 : Int32)) C dX9_land_27 (by decide) ?_
  refine ab_p9 (ty := .int) C lf_X9_83 rfl (by decide +kernel) rfl rfl (Nat.le_of_ble_eq_true rfl) hB0.1 dX9_land_29 (fun g11 eg11 og11 => ?_)
  have hB0 : X9_at g11 a0 (sI (sI e8 7 (0 : Int32)) 8 (-4 : Int32)) := X9_p8 hB0 eg11 og11
  have hFr : ∀ q, (q < a0 ∨ a0 + 20 ≤ q) → g11 q = h q := fun q u0 => (og11 q (by omega)).trans (hFr q u0)
  refine ab_aload_n C 0 rfl rfl dX9_land_32 ?_
  obtain ⟨v12, hxv12, hF⟩ := Option.bind_eq_some_iff.mp hF
  refine ab_cVN (st := []) C lm_X9_115 (X9_readHolders_ok (xl X) hB0 (r := v12) hxv12) [] rfl hB0.1 rfl rfl rfl (by decide) ⟨Nat.zero_le _, Nat.zero_le _⟩ (Nat.le_of_ble_eq_true rfl) dX9_land_33 (fun g13 pg13 => ?_)
  obtain ⟨k0, Og13⟩ := pg13
  have hB0 : X9_at g13 a0 v12 := k0
  have hFr : ∀ q, (q < a0 ∨ a0 + 20 ≤ q) → g13 q = h q := fun q u0 => (Og13 q (by omega)).trans (hFr q u0)
  refine ab_aload_n C 0 rfl rfl dX9_land_36 ?_
  refine ab_g9 (v := .int (v12.1 8)) C lf_X9_83 hB0.1 rfl dX9_land_37 ?_
  refine ab_bipush (v := (-4 : Int32)) C dX9_land_40 (by decide) ?_
  have J49 : ∀ (Z14 : Rec) (g15 : aH), (X9_at g15 a0 Z14) → (∀ q, (q < a0 ∨ a0 + 20 ≤ q) → g15 q = h q) → X9_land_J49 Z14 = some r → aV X G 2 49 [(0, .ref a0)] [] g15 nx 0 0 := by
    intro Z14 g15 hB0 hFr hF
    rw [X9_land_J49] at hF
    refine ab_aload_n C 0 rfl rfl dX9_land_49 ?_
    refine ab_g9 (v := .int (Z14.1 8)) C lf_X9_83 hB0.1 rfl dX9_land_50 ?_
    refine ab_bipush (v := (-4 : Int32)) C dX9_land_53 (by decide) ?_
    have J62 : ∀ (Z16 : Rec) (g17 : aH), (X9_at g17 a0 Z16) → (∀ q, (q < a0 ∨ a0 + 20 ≤ q) → g17 q = h q) → X9_land_J62 Z16 = some r → aV X G 2 62 [(0, .ref a0)] [] g17 nx 0 0 := by
      intro Z16 g17 hB0 hFr hF
      rw [X9_land_J62] at hF
      refine ab_aload_n C 0 rfl rfl dX9_land_62 ?_
      refine ab_g9 (v := .int (Z16.1 8)) C lf_X9_83 hB0.1 rfl dX9_land_63 ?_
      refine ab_bipush (v := (-4 : Int32)) C dX9_land_66 (by decide) ?_
      have J75 : ∀ (Z18 : Rec) (g19 : aH), (X9_at g19 a0 Z18) → (∀ q, (q < a0 ∨ a0 + 20 ≤ q) → g19 q = h q) → X9_land_J75 Z18 = some r → aV X G 2 75 [(0, .ref a0)] [] g19 nx 0 0 := by
        intro Z18 g19 hB0 hFr hF
        rw [X9_land_J75] at hF
        refine ab_aload_n C 0 rfl rfl dX9_land_75 ?_
        refine ab_g9 (v := .int (Z18.1 8)) C lf_X9_83 hB0.1 rfl dX9_land_76 ?_
        refine ab_bipush (v := (-4 : Int32)) C dX9_land_79 (by decide) ?_
        have J88 : ∀ (Z20 : Rec) (g21 : aH), (X9_at g21 a0 Z20) → (∀ q, (q < a0 ∨ a0 + 20 ≤ q) → g21 q = h q) → X9_land_J88 Z20 = some r → aV X G 2 88 [(0, .ref a0)] [] g21 nx 0 0 := by
          intro Z20 g21 hB0 hFr hF
          rw [X9_land_J88] at hF
          refine ab_aload_n C 0 rfl rfl dX9_land_88 ?_
          refine ab_iconst (v := (0 : Int32)) C dX9_land_89 (by decide) ?_
          refine ab_p9 (ty := .int) C lf_X9_75 rfl (by decide +kernel) rfl rfl (Nat.le_of_ble_eq_true rfl) hB0.1 dX9_land_90 (fun g22 eg22 og22 => ?_)
          have hB0 : X9_at g22 a0 (sI Z20 6 (0 : Int32)) := X9_p6 hB0 eg22 og22
          have hFr : ∀ q, (q < a0 ∨ a0 + 20 ≤ q) → g22 q = h q := fun q u0 => (og22 q (by omega)).trans (hFr q u0)
          refine ab_aload_n C 0 rfl rfl dX9_land_93 ?_
          refine ab_g9 (v := .int ((sI Z20 6 (0 : Int32)).1 8)) C lf_X9_83 hB0.1 rfl dX9_land_94 ?_
          refine ab_bipush (v := (-4 : Int32)) C dX9_land_97 (by decide) ?_
          refine ab_icmp_eq C 110 dX9_land_99 (by decide) (fun c23 => ?_) (fun c23 => ?_)
          · replace hF := (if_pos c23).symm.trans hF
            refine ab_iconst (v := (0 : Int32)) C dX9_land_110 (by decide) ?_
            refine ab_istore_n (lv' := [(1, .int (0 : Int32)), (0, .ref a0)]) C dX9_land_111 rfl (by decide) rfl ?_
            have L112 : ∀ (n112 : Nat) (v24 : Int32) (Z25 : Rec) (g26 : aH), (X9_at g26 a0 Z25) → (∀ q, (q < a0 ∨ a0 + 20 ≤ q) → g26 q = h q) → ∀ (res112 : Rec), X9_land_L112 n112 v24 Z25 = some res112 → (∀ (q9 : aH), (X9_at q9 a0 res112) → (∀ q, (q < a0 ∨ a0 + 20 ≤ q) → q9 q = h q) → aV X G 2 136 [(0, .ref a0)] [] q9 nx 0 0) → aV X G 2 112 [(0, .ref a0), (1, .int v24)] [] g26 nx 0 0 := by
              intro n112
              induction n112 with
              | zero => intro v24 Z25 g26 hB0 hFr res112 hF KX112; cases (show (none : Option (Rec)) = some res112 from hF)
              | succ n112 ih112 =>
                intro v24 Z25 g26 hB0 hFr res112 hF KX112
                rw [X9_land_L112] at hF
                refine ab_iload_n C 1 rfl rfl dX9_land_112 ?_
                refine ab_bipush (v := (96 : Int32)) C dX9_land_113 (by decide) ?_
                refine ab_icmp_ge C 136 dX9_land_115 (by decide) (fun c27 => ?_) (fun c27 => ?_)
                · replace hF := (if_pos c27).symm.trans hF
                  obtain rfl := Option.some.inj hF
                  refine aV.sub (lv' := [(0, .ref a0)]) [0] rfl ?_
                  exact KX112 g26 hB0 hFr
                · replace hF := (if_neg c27).symm.trans hF
                  refine ab_aload_n C 0 rfl rfl dX9_land_118 ?_
                  refine ab_g9 (v := .ref (a0 + 1)) C lf_X9_7 hB0.1 rfl dX9_land_119 ?_
                  refine ab_iload_n C 1 rfl rfl dX9_land_122 ?_
                  refine ab_aload_n C 0 rfl rfl dX9_land_123 ?_
                  refine ab_g9 (v := .ref (a0 + 2)) C lf_X9_13 hB0.1 rfl dX9_land_124 ?_
                  refine ab_iload_n C 1 rfl rfl dX9_land_127 ?_
                  obtain ⟨v28, hxv28, hF⟩ := Option.bind_eq_some_iff.mp hF
                  refine ab_iald C (X9_r1 hB0) hxv28 dX9_land_128 ?_
                  obtain ⟨w29, hxw29, hF⟩ := Option.bind_eq_some_iff.mp hF
                  refine ab_iast C (X9_r0 hB0) hxw29 dX9_land_129 (fun g30 eg30 og30 => ?_)
                  have hB0 : X9_at g30 a0 (sA Z25 0 w29) := X9_w0 hB0 eg30 og30
                  have hFr : ∀ q, (q < a0 ∨ a0 + 20 ≤ q) → g30 q = h q := fun q u0 => (og30 q (by omega)).trans (hFr q u0)
                  obtain ⟨v31, qv31⟩ : ∃ y : Int32, y = (v24 + (1 : Int32)) := ⟨_, rfl⟩
                  replace hF := aLet_e hF v31 qv31
                  refine ab_iinc (lv' := [(1, .int v31), (0, .ref a0)]) C 1 rfl dX9_land_130 (by rw [qv31]; rfl) (by decide) rfl ?_
                  refine ab_goto C 112 dX9_land_133 (by decide) ?_
                  refine aV.sub (lv' := [(0, .ref a0), (1, .int v31)]) [1, 0] rfl ?_
                  exact ih112 v31 (sA Z25 0 w29) g30 hB0 hFr res112 hF KX112
            refine aV.sub (lv' := [(0, .ref a0), (1, .int (0 : Int32))]) [1, 0] rfl ?_
            obtain ⟨e32, he32, hF⟩ := Option.bind_eq_some_iff.mp hF
            refine L112 aFu (0 : Int32) (sI Z20 6 (0 : Int32)) g22 hB0 hFr e32 he32 (fun g33 hB0 hFr => ?_)
            refine ab_aload_n C 0 rfl rfl dX9_land_136 ?_
            refine ab_iconst (v := (0 : Int32)) C dX9_land_137 (by decide) ?_
            refine ab_p9 (ty := .int) C lf_X9_130 rfl (by decide +kernel) rfl rfl (Nat.le_of_ble_eq_true rfl) hB0.1 dX9_land_138 (fun g34 eg34 og34 => ?_)
            have hB0 : X9_at g34 a0 (sI e32 4 (0 : Int32)) := X9_p4 hB0 eg34 og34
            have hFr : ∀ q, (q < a0 ∨ a0 + 20 ≤ q) → g34 q = h q := fun q u0 => (og34 q (by omega)).trans (hFr q u0)
            refine ab_aload_n C 0 rfl rfl dX9_land_141 ?_
            refine ab_g9 (v := .ref (a0 + 1)) C lf_X9_7 hB0.1 rfl dX9_land_142 ?_
            refine ab_iconst (v := (0 : Int32)) C dX9_land_145 (by decide) ?_
            obtain ⟨v35, hxv35, hF⟩ := Option.bind_eq_some_iff.mp hF
            refine ab_iald C (X9_r0 hB0) hxv35 dX9_land_146 ?_
            obtain rfl := Option.some.inj hF
            exact ab_iret C R0 rfl dX9_land_147 ⟨rfl, rfl, hB0, hFr⟩
          · replace hF := (if_neg c23).symm.trans hF
            refine ab_bipush (v := (-100 : Int32)) C dX9_land_102 (by decide) ?_
            refine ab_aload_n C 0 rfl rfl dX9_land_104 ?_
            refine ab_g9 (v := .int ((sI Z20 6 (0 : Int32)).1 8)) C lf_X9_83 hB0.1 rfl dX9_land_105 ?_
            refine ab_isub C dX9_land_108 ?_
            obtain rfl := Option.some.inj hF
            exact ab_iret C R0 rfl dX9_land_109 ⟨rfl, rfl, hB0, hFr⟩
        refine ab_icmp_ne C 88 dX9_land_81 (by decide) (fun c36 => ?_) (fun c36 => ?_)
        · replace hF := (if_neg c36).symm.trans hF
          exact J88 Z18 g19 hB0 hFr hF
        · replace hF := (if_pos c36).symm.trans hF
          refine ab_aload_n C 0 rfl rfl dX9_land_84 ?_
          obtain ⟨v37, hxv37, hF⟩ := Option.bind_eq_some_iff.mp hF
          refine ab_cVN (st := []) C lm_X9_127 (X9_readChange_ok (xl X) hB0 (r := v37) hxv37) [] rfl hB0.1 rfl rfl rfl (by decide) ⟨Nat.zero_le _, Nat.zero_le _⟩ (Nat.le_of_ble_eq_true rfl) dX9_land_85 (fun g38 pg38 => ?_)
          obtain ⟨k0, Og38⟩ := pg38
          have hB0 : X9_at g38 a0 v37 := k0
          have hFr : ∀ q, (q < a0 ∨ a0 + 20 ≤ q) → g38 q = h q := fun q u0 => (Og38 q (by omega)).trans (hFr q u0)
          exact J88 v37 g38 hB0 hFr hF
      refine ab_icmp_ne C 75 dX9_land_68 (by decide) (fun c39 => ?_) (fun c39 => ?_)
      · replace hF := (if_neg c39).symm.trans hF
        exact J75 Z16 g17 hB0 hFr hF
      · replace hF := (if_pos c39).symm.trans hF
        refine ab_aload_n C 0 rfl rfl dX9_land_71 ?_
        obtain ⟨v40, hxv40, hF⟩ := Option.bind_eq_some_iff.mp hF
        refine ab_cVN (st := []) C lm_X9_124 (X9_readWords_ok (xl X) hB0 (r := v40) hxv40) [] rfl hB0.1 rfl rfl rfl (by decide) ⟨Nat.zero_le _, Nat.zero_le _⟩ (Nat.le_of_ble_eq_true rfl) dX9_land_72 (fun g41 pg41 => ?_)
        obtain ⟨k0, Og41⟩ := pg41
        have hB0 : X9_at g41 a0 v40 := k0
        have hFr : ∀ q, (q < a0 ∨ a0 + 20 ≤ q) → g41 q = h q := fun q u0 => (Og41 q (by omega)).trans (hFr q u0)
        exact J75 v40 g41 hB0 hFr hF
    refine ab_icmp_ne C 62 dX9_land_55 (by decide) (fun c42 => ?_) (fun c42 => ?_)
    · replace hF := (if_neg c42).symm.trans hF
      exact J62 Z14 g15 hB0 hFr hF
    · replace hF := (if_pos c42).symm.trans hF
      refine ab_aload_n C 0 rfl rfl dX9_land_58 ?_
      obtain ⟨v43, hxv43, hF⟩ := Option.bind_eq_some_iff.mp hF
      refine ab_cVN (st := []) C lm_X9_121 (X9_readWhose_ok (xl X) hB0 (r := v43) hxv43) [] rfl hB0.1 rfl rfl rfl (by decide) ⟨Nat.zero_le _, Nat.zero_le _⟩ (Nat.le_of_ble_eq_true rfl) dX9_land_59 (fun g44 pg44 => ?_)
      obtain ⟨k0, Og44⟩ := pg44
      have hB0 : X9_at g44 a0 v43 := k0
      have hFr : ∀ q, (q < a0 ∨ a0 + 20 ≤ q) → g44 q = h q := fun q u0 => (Og44 q (by omega)).trans (hFr q u0)
      exact J62 v43 g44 hB0 hFr hF
  refine ab_icmp_ne C 49 dX9_land_42 (by decide) (fun c45 => ?_) (fun c45 => ?_)
  · replace hF := (if_neg c45).symm.trans hF
    exact J49 v12 g13 hB0 hFr hF
  · replace hF := (if_pos c45).symm.trans hF
    refine ab_aload_n C 0 rfl rfl dX9_land_45 ?_
    obtain ⟨v46, hxv46, hF⟩ := Option.bind_eq_some_iff.mp hF
    refine ab_cVN (st := []) C lm_X9_118 (X9_readSounds_ok (xl X) hB0 (r := v46) hxv46) [] rfl hB0.1 rfl rfl rfl (by decide) ⟨Nat.zero_le _, Nat.zero_le _⟩ (Nat.le_of_ble_eq_true rfl) dX9_land_46 (fun g47 pg47 => ?_)
    obtain ⟨k0, Og47⟩ := pg47
    have hB0 : X9_at g47 a0 v46 := k0
    have hFr : ∀ q, (q < a0 ∨ a0 + 20 ≤ q) → g47 q = h q := fun q u0 => (Og47 q (by omega)).trans (hFr q u0)
    exact J49 v46 g47 hB0 hFr hF
theorem dX9_placeOf_0 : decode cX9_placeOf 0 = .ok (.bipush 6, 2) := by decide +kernel
theorem dX9_placeOf_2 : decode cX9_placeOf 2 = .ok (.iload_n 0, 1) := by decide +kernel
theorem dX9_placeOf_3 : decode cX9_placeOf 3 = .ok (.bipush 8, 2) := by decide +kernel
theorem dX9_placeOf_5 : decode cX9_placeOf 5 = .ok (.idiv, 1) := by decide +kernel
theorem dX9_placeOf_6 : decode cX9_placeOf 6 = .ok (.imul, 1) := by decide +kernel
theorem dX9_placeOf_7 : decode cX9_placeOf 7 = .ok (.iload_n 0, 1) := by decide +kernel
theorem dX9_placeOf_8 : decode cX9_placeOf 8 = .ok (.bipush 8, 2) := by decide +kernel
theorem dX9_placeOf_10 : decode cX9_placeOf 10 = .ok (.irem, 1) := by decide +kernel
theorem dX9_placeOf_11 : decode cX9_placeOf 11 = .ok (.iadd, 1) := by decide +kernel
theorem dX9_placeOf_12 : decode cX9_placeOf 12 = .ok (.ireturn, 1) := by decide +kernel
def X9_placeOf (x0 : Int32) : Int32 :=
  (((6 : Int32) * (x0 / (8 : Int32))) + (x0 - x0 / (8 : Int32) * (8 : Int32)))
set_option maxRecDepth 100000 in
set_option maxHeartbeats 4000000 in
theorem X9_placeOf_ok (l : Launch) {h : aH} {nx : Nat} {x0 : Int32} {r : Int32} (hF : X9_placeOf x0 = r) : aOk l 0 0 0 yX9_placeOf cX9_placeOf 1 (some .int) [.int x0] h nx (aRd (.int r) h nx) := by
  refine aOk.of (by decide +kernel) (Nat.le_of_ble_eq_true rfl) (fun X G hX C R0 _ => ?_)
  subst hX
  show aV X G 1 0 [(0, .int x0)] [] h nx 0 0
  rw [X9_placeOf] at hF
  refine ab_bipush (v := (6 : Int32)) C dX9_placeOf_0 (by decide) ?_
  refine ab_iload_n C 0 rfl rfl dX9_placeOf_2 ?_
  refine ab_bipush (v := (8 : Int32)) C dX9_placeOf_3 (by decide) ?_
  refine ab_idiv C (by decide) dX9_placeOf_5 ?_
  refine ab_imul C dX9_placeOf_6 ?_
  refine ab_iload_n C 0 rfl rfl dX9_placeOf_7 ?_
  refine ab_bipush (v := (8 : Int32)) C dX9_placeOf_8 (by decide) ?_
  refine ab_irem C (by decide) dX9_placeOf_10 ?_
  refine ab_iadd C dX9_placeOf_11 ?_
  obtain rfl := hF
  exact ab_iret C R0 rfl dX9_placeOf_12 ⟨rfl, rfl, rfl⟩
theorem dX9_numberOf_0 : decode cX9_numberOf 0 = .ok (.bipush 8, 2) := by decide +kernel
theorem dX9_numberOf_2 : decode cX9_numberOf 2 = .ok (.iload_n 0, 1) := by decide +kernel
theorem dX9_numberOf_3 : decode cX9_numberOf 3 = .ok (.bipush 6, 2) := by decide +kernel
theorem dX9_numberOf_5 : decode cX9_numberOf 5 = .ok (.idiv, 1) := by decide +kernel
theorem dX9_numberOf_6 : decode cX9_numberOf 6 = .ok (.imul, 1) := by decide +kernel
theorem dX9_numberOf_7 : decode cX9_numberOf 7 = .ok (.iload_n 0, 1) := by decide +kernel
theorem dX9_numberOf_8 : decode cX9_numberOf 8 = .ok (.bipush 6, 2) := by decide +kernel
theorem dX9_numberOf_10 : decode cX9_numberOf 10 = .ok (.irem, 1) := by decide +kernel
theorem dX9_numberOf_11 : decode cX9_numberOf 11 = .ok (.iadd, 1) := by decide +kernel
theorem dX9_numberOf_12 : decode cX9_numberOf 12 = .ok (.ireturn, 1) := by decide +kernel
def X9_numberOf (x0 : Int32) : Int32 :=
  (((8 : Int32) * (x0 / (6 : Int32))) + (x0 - x0 / (6 : Int32) * (6 : Int32)))
set_option maxRecDepth 100000 in
set_option maxHeartbeats 4000000 in
theorem X9_numberOf_ok (l : Launch) {h : aH} {nx : Nat} {x0 : Int32} {r : Int32} (hF : X9_numberOf x0 = r) : aOk l 0 0 0 yX9_numberOf cX9_numberOf 1 (some .int) [.int x0] h nx (aRd (.int r) h nx) := by
  refine aOk.of (by decide +kernel) (Nat.le_of_ble_eq_true rfl) (fun X G hX C R0 _ => ?_)
  subst hX
  show aV X G 1 0 [(0, .int x0)] [] h nx 0 0
  rw [X9_numberOf] at hF
  refine ab_bipush (v := (8 : Int32)) C dX9_numberOf_0 (by decide) ?_
  refine ab_iload_n C 0 rfl rfl dX9_numberOf_2 ?_
  refine ab_bipush (v := (6 : Int32)) C dX9_numberOf_3 (by decide) ?_
  refine ab_idiv C (by decide) dX9_numberOf_5 ?_
  refine ab_imul C dX9_numberOf_6 ?_
  refine ab_iload_n C 0 rfl rfl dX9_numberOf_7 ?_
  refine ab_bipush (v := (6 : Int32)) C dX9_numberOf_8 (by decide) ?_
  refine ab_irem C (by decide) dX9_numberOf_10 ?_
  refine ab_iadd C dX9_numberOf_11 ?_
  obtain rfl := hF
  exact ab_iret C R0 rfl dX9_numberOf_12 ⟨rfl, rfl, rfl⟩
theorem dX9_isIn_0 : decode cX9_isIn 0 = .ok (.iload_n 1, 1) := by decide +kernel
theorem dX9_isIn_1 : decode cX9_isIn 1 = .ok (.bipush 6, 2) := by decide +kernel
theorem dX9_isIn_3 : decode cX9_isIn 3 = .ok (.idiv, 1) := by decide +kernel
theorem dX9_isIn_4 : decode cX9_isIn 4 = .ok (.aload_n 0, 1) := by decide +kernel
theorem dX9_isIn_5 : decode cX9_isIn 5 = .ok (.iconst 2, 1) := by decide +kernel
theorem dX9_isIn_6 : decode cX9_isIn 6 = .ok (.iaload, 1) := by decide +kernel
theorem dX9_isIn_7 : decode cX9_isIn 7 = .ok (.if_icmp .ge 17, 3) := by decide +kernel
theorem dX9_isIn_10 : decode cX9_isIn 10 = .ok (.iload_n 1, 1) := by decide +kernel
theorem dX9_isIn_11 : decode cX9_isIn 11 = .ok (.bipush 6, 2) := by decide +kernel
theorem dX9_isIn_13 : decode cX9_isIn 13 = .ok (.irem, 1) := by decide +kernel
theorem dX9_isIn_14 : decode cX9_isIn 14 = .ok (.aload_n 0, 1) := by decide +kernel
theorem dX9_isIn_15 : decode cX9_isIn 15 = .ok (.iconst 1, 1) := by decide +kernel
theorem dX9_isIn_16 : decode cX9_isIn 16 = .ok (.iaload, 1) := by decide +kernel
theorem dX9_isIn_17 : decode cX9_isIn 17 = .ok (.if_icmp .ge 7, 3) := by decide +kernel
theorem dX9_isIn_20 : decode cX9_isIn 20 = .ok (.iconst 1, 1) := by decide +kernel
theorem dX9_isIn_21 : decode cX9_isIn 21 = .ok (.goto 4, 3) := by decide +kernel
theorem dX9_isIn_24 : decode cX9_isIn 24 = .ok (.iconst 0, 1) := by decide +kernel
theorem dX9_isIn_25 : decode cX9_isIn 25 = .ok (.ireturn, 1) := by decide +kernel
def X9_isIn (f0 : (Nat → Int32)) (x1 : Int32) : Option (Int32) :=
  (rdI f0 96 (2 : Int32)).bind fun v1 =>
  if v1 ≤ (x1 / (6 : Int32)) then
    some (0 : Int32)
  else
    (rdI f0 96 (1 : Int32)).bind fun v3 =>
    if v3 ≤ (x1 - x1 / (6 : Int32) * (6 : Int32)) then
      some (0 : Int32)
    else
      some (1 : Int32)
set_option maxRecDepth 100000 in
set_option maxHeartbeats 4000000 in
theorem X9_isIn_ok (l : Launch) {h : aH} {nx : Nat} {a0 : Nat} {f0 : (Nat → Int32)} {x1 : Int32} (hB0 : row_at h a0 f0) {r : Int32} (hF : X9_isIn f0 x1 = some r) : aOk l 0 0 0 yX9_isIn cX9_isIn 2 (some .boolean) [.ref a0, .int x1] h nx (aRd (.int r) h nx) := by
  refine aOk.of (by decide +kernel) (Nat.le_of_ble_eq_true rfl) (fun X G hX C R0 _ => ?_)
  subst hX
  show aV X G 2 0 [(0, .ref a0), (1, .int x1)] [] h nx 0 0
  rw [X9_isIn] at hF
  refine ab_iload_n C 1 rfl rfl dX9_isIn_0 ?_
  refine ab_bipush (v := (6 : Int32)) C dX9_isIn_1 (by decide) ?_
  refine ab_idiv C (by decide) dX9_isIn_3 ?_
  refine ab_aload_n C 0 rfl rfl dX9_isIn_4 ?_
  refine ab_iconst (v := (2 : Int32)) C dX9_isIn_5 (by decide) ?_
  obtain ⟨v1, hxv1, hF⟩ := Option.bind_eq_some_iff.mp hF
  refine ab_iald C hB0 hxv1 dX9_isIn_6 ?_
  refine ab_icmp_ge C 24 dX9_isIn_7 (by decide) (fun c2 => ?_) (fun c2 => ?_)
  · replace hF := (if_pos c2).symm.trans hF
    refine ab_iconst (v := (0 : Int32)) C dX9_isIn_24 (by decide) ?_
    obtain rfl := Option.some.inj hF
    exact ab_iret C R0 rfl dX9_isIn_25 ⟨rfl, rfl, rfl⟩
  · replace hF := (if_neg c2).symm.trans hF
    refine ab_iload_n C 1 rfl rfl dX9_isIn_10 ?_
    refine ab_bipush (v := (6 : Int32)) C dX9_isIn_11 (by decide) ?_
    refine ab_irem C (by decide) dX9_isIn_13 ?_
    refine ab_aload_n C 0 rfl rfl dX9_isIn_14 ?_
    refine ab_iconst (v := (1 : Int32)) C dX9_isIn_15 (by decide) ?_
    obtain ⟨v3, hxv3, hF⟩ := Option.bind_eq_some_iff.mp hF
    refine ab_iald C hB0 hxv3 dX9_isIn_16 ?_
    refine ab_icmp_ge C 24 dX9_isIn_17 (by decide) (fun c4 => ?_) (fun c4 => ?_)
    · replace hF := (if_pos c4).symm.trans hF
      refine ab_iconst (v := (0 : Int32)) C dX9_isIn_24 (by decide) ?_
      obtain rfl := Option.some.inj hF
      exact ab_iret C R0 rfl dX9_isIn_25 ⟨rfl, rfl, rfl⟩
    · replace hF := (if_neg c4).symm.trans hF
      refine ab_iconst (v := (1 : Int32)) C dX9_isIn_20 (by decide) ?_
      refine ab_goto C 25 dX9_isIn_21 (by decide) ?_
      obtain rfl := Option.some.inj hF
      exact ab_iret C R0 rfl dX9_isIn_25 ⟨rfl, rfl, rfl⟩
theorem dX9_priceOf_0 : decode cX9_priceOf 0 = .ok (.iload_n 0, 1) := by decide +kernel
theorem dX9_priceOf_1 : decode cX9_priceOf 1 = .ok (.bipush 6, 2) := by decide +kernel
theorem dX9_priceOf_3 : decode cX9_priceOf 3 = .ok (.idiv, 1) := by decide +kernel
theorem dX9_priceOf_4 : decode cX9_priceOf 4 = .ok (.iload_n 0, 1) := by decide +kernel
theorem dX9_priceOf_5 : decode cX9_priceOf 5 = .ok (.bipush 6, 2) := by decide +kernel
theorem dX9_priceOf_7 : decode cX9_priceOf 7 = .ok (.irem, 1) := by decide +kernel
theorem dX9_priceOf_8 : decode cX9_priceOf 8 = .ok (.iadd, 1) := by decide +kernel
theorem dX9_priceOf_9 : decode cX9_priceOf 9 = .ok (.iconst 1, 1) := by decide +kernel
theorem dX9_priceOf_10 : decode cX9_priceOf 10 = .ok (.iadd, 1) := by decide +kernel
theorem dX9_priceOf_11 : decode cX9_priceOf 11 = .ok (.ireturn, 1) := by decide +kernel
def X9_priceOf (x0 : Int32) : Int32 :=
  (((x0 / (6 : Int32)) + (x0 - x0 / (6 : Int32) * (6 : Int32))) + (1 : Int32))
set_option maxRecDepth 100000 in
set_option maxHeartbeats 4000000 in
theorem X9_priceOf_ok (l : Launch) {h : aH} {nx : Nat} {x0 : Int32} {r : Int32} (hF : X9_priceOf x0 = r) : aOk l 0 0 0 yX9_priceOf cX9_priceOf 1 (some .int) [.int x0] h nx (aRd (.int r) h nx) := by
  refine aOk.of (by decide +kernel) (Nat.le_of_ble_eq_true rfl) (fun X G hX C R0 _ => ?_)
  subst hX
  show aV X G 1 0 [(0, .int x0)] [] h nx 0 0
  rw [X9_priceOf] at hF
  refine ab_iload_n C 0 rfl rfl dX9_priceOf_0 ?_
  refine ab_bipush (v := (6 : Int32)) C dX9_priceOf_1 (by decide) ?_
  refine ab_idiv C (by decide) dX9_priceOf_3 ?_
  refine ab_iload_n C 0 rfl rfl dX9_priceOf_4 ?_
  refine ab_bipush (v := (6 : Int32)) C dX9_priceOf_5 (by decide) ?_
  refine ab_irem C (by decide) dX9_priceOf_7 ?_
  refine ab_iadd C dX9_priceOf_8 ?_
  refine ab_iconst (v := (1 : Int32)) C dX9_priceOf_9 (by decide) ?_
  refine ab_iadd C dX9_priceOf_10 ?_
  obtain rfl := hF
  exact ab_iret C R0 rfl dX9_priceOf_11 ⟨rfl, rfl, rfl⟩
theorem dX9_cellsOf_0 : decode cX9_cellsOf 0 = .ok (.iconst 0, 1) := by decide +kernel
theorem dX9_cellsOf_1 : decode cX9_cellsOf 1 = .ok (.istore_n 3, 1) := by decide +kernel
theorem dX9_cellsOf_2 : decode cX9_cellsOf 2 = .ok (.iconst 0, 1) := by decide +kernel
theorem dX9_cellsOf_3 : decode cX9_cellsOf 3 = .ok (.istore 4, 2) := by decide +kernel
theorem dX9_cellsOf_5 : decode cX9_cellsOf 5 = .ok (.iload 4, 2) := by decide +kernel
theorem dX9_cellsOf_7 : decode cX9_cellsOf 7 = .ok (.bipush 36, 2) := by decide +kernel
theorem dX9_cellsOf_9 : decode cX9_cellsOf 9 = .ok (.if_icmp .ge 53, 3) := by decide +kernel
theorem dX9_cellsOf_12 : decode cX9_cellsOf 12 = .ok (.iload_n 3, 1) := by decide +kernel
theorem dX9_cellsOf_13 : decode cX9_cellsOf 13 = .ok (.aload_n 0, 1) := by decide +kernel
theorem dX9_cellsOf_14 : decode cX9_cellsOf 14 = .ok (.iload 4, 2) := by decide +kernel
theorem dX9_cellsOf_16 : decode cX9_cellsOf 16 = .ok (.invokestatic 133, 3) := by decide +kernel
theorem dX9_cellsOf_19 : decode cX9_cellsOf 19 = .ok (.ifCond .eq 34, 3) := by decide +kernel
theorem dX9_cellsOf_22 : decode cX9_cellsOf 22 = .ok (.aload_n 0, 1) := by decide +kernel
theorem dX9_cellsOf_23 : decode cX9_cellsOf 23 = .ok (.bipush 16, 2) := by decide +kernel
theorem dX9_cellsOf_25 : decode cX9_cellsOf 25 = .ok (.iload 4, 2) := by decide +kernel
theorem dX9_cellsOf_27 : decode cX9_cellsOf 27 = .ok (.iadd, 1) := by decide +kernel
theorem dX9_cellsOf_28 : decode cX9_cellsOf 28 = .ok (.iaload, 1) := by decide +kernel
theorem dX9_cellsOf_29 : decode cX9_cellsOf 29 = .ok (.iload_n 2, 1) := by decide +kernel
theorem dX9_cellsOf_30 : decode cX9_cellsOf 30 = .ok (.if_icmp .ne 23, 3) := by decide +kernel
theorem dX9_cellsOf_33 : decode cX9_cellsOf 33 = .ok (.iload_n 1, 1) := by decide +kernel
theorem dX9_cellsOf_34 : decode cX9_cellsOf 34 = .ok (.iconst (-1), 1) := by decide +kernel
theorem dX9_cellsOf_35 : decode cX9_cellsOf 35 = .ok (.if_icmp .eq 14, 3) := by decide +kernel
theorem dX9_cellsOf_38 : decode cX9_cellsOf 38 = .ok (.aload_n 0, 1) := by decide +kernel
theorem dX9_cellsOf_39 : decode cX9_cellsOf 39 = .ok (.bipush 52, 2) := by decide +kernel
theorem dX9_cellsOf_41 : decode cX9_cellsOf 41 = .ok (.iload 4, 2) := by decide +kernel
theorem dX9_cellsOf_43 : decode cX9_cellsOf 43 = .ok (.iadd, 1) := by decide +kernel
theorem dX9_cellsOf_44 : decode cX9_cellsOf 44 = .ok (.iaload, 1) := by decide +kernel
theorem dX9_cellsOf_45 : decode cX9_cellsOf 45 = .ok (.iload_n 1, 1) := by decide +kernel
theorem dX9_cellsOf_46 : decode cX9_cellsOf 46 = .ok (.if_icmp .ne 7, 3) := by decide +kernel
theorem dX9_cellsOf_49 : decode cX9_cellsOf 49 = .ok (.iconst 1, 1) := by decide +kernel
theorem dX9_cellsOf_50 : decode cX9_cellsOf 50 = .ok (.goto 4, 3) := by decide +kernel
theorem dX9_cellsOf_53 : decode cX9_cellsOf 53 = .ok (.iconst 0, 1) := by decide +kernel
theorem dX9_cellsOf_54 : decode cX9_cellsOf 54 = .ok (.iadd, 1) := by decide +kernel
theorem dX9_cellsOf_55 : decode cX9_cellsOf 55 = .ok (.istore_n 3, 1) := by decide +kernel
theorem dX9_cellsOf_56 : decode cX9_cellsOf 56 = .ok (.iinc 4 1, 3) := by decide +kernel
theorem dX9_cellsOf_59 : decode cX9_cellsOf 59 = .ok (.goto (-54), 3) := by decide +kernel
theorem dX9_cellsOf_62 : decode cX9_cellsOf 62 = .ok (.iload_n 3, 1) := by decide +kernel
theorem dX9_cellsOf_63 : decode cX9_cellsOf 63 = .ok (.ireturn, 1) := by decide +kernel
def X9_cellsOf_L5 (f0 : (Nat → Int32)) (x2 : Int32) (x1 : Int32) : Nat → Int32 → Int32 → Option (Int32)
  | 0, _, _ => none
  | n5 + 1, v1, v2 => if (36 : Int32) ≤ v2 then
      some v1
    else
      (X9_isIn f0 v2).bind fun v4 =>
      if v4 = 0 then
        aLet (v1 + (0 : Int32)) fun v6 =>
        aLet (v2 + (1 : Int32)) fun v7 =>
        X9_cellsOf_L5 f0 x2 x1 n5 v6 v7
      else
        (rdI f0 96 ((16 : Int32) + v2)).bind fun v8 =>
        if v8 = x2 then
          if x1 = (-1 : Int32) then
            aLet (v1 + (1 : Int32)) fun v13 =>
            aLet (v2 + (1 : Int32)) fun v14 =>
            X9_cellsOf_L5 f0 x2 x1 n5 v13 v14
          else
            (rdI f0 96 ((52 : Int32) + v2)).bind fun v15 =>
            if v15 = x1 then
              aLet (v1 + (1 : Int32)) fun v19 =>
              aLet (v2 + (1 : Int32)) fun v20 =>
              X9_cellsOf_L5 f0 x2 x1 n5 v19 v20
            else
              aLet (v1 + (0 : Int32)) fun v17 =>
              aLet (v2 + (1 : Int32)) fun v18 =>
              X9_cellsOf_L5 f0 x2 x1 n5 v17 v18
        else
          aLet (v1 + (0 : Int32)) fun v10 =>
          aLet (v2 + (1 : Int32)) fun v11 =>
          X9_cellsOf_L5 f0 x2 x1 n5 v10 v11
def X9_cellsOf (f0 : (Nat → Int32)) (x1 : Int32) (x2 : Int32) : Option (Int32) :=
  (X9_cellsOf_L5 f0 x2 x1 aFu (0 : Int32) (0 : Int32)).bind fun e21 =>
  some e21
set_option maxRecDepth 100000 in
set_option maxHeartbeats 4000000 in
theorem X9_cellsOf_ok (l : Launch) {h : aH} {nx : Nat} {a0 : Nat} {f0 : (Nat → Int32)} {x1 : Int32} {x2 : Int32} (hB0 : row_at h a0 f0) {r : Int32} (hF : X9_cellsOf f0 x1 x2 = some r) : aOk l 1 0 0 yX9_cellsOf cX9_cellsOf 5 (some .int) [.ref a0, .int x1, .int x2] h nx (aRd (.int r) h nx) := by
  refine aOk.of (by decide +kernel) (Nat.le_of_ble_eq_true rfl) (fun X G hX C R0 _ => ?_)
  subst hX
  show aV X G 5 0 [(0, .ref a0), (1, .int x1), (2, .int x2)] [] h nx 0 0
  rw [X9_cellsOf] at hF
  refine ab_iconst (v := (0 : Int32)) C dX9_cellsOf_0 (by decide) ?_
  refine ab_istore_n (lv' := [(3, .int (0 : Int32)), (0, .ref a0), (1, .int x1), (2, .int x2)]) C dX9_cellsOf_1 rfl (by decide) rfl ?_
  refine ab_iconst (v := (0 : Int32)) C dX9_cellsOf_2 (by decide) ?_
  refine ab_istore (lv' := [(4, .int (0 : Int32)), (3, .int (0 : Int32)), (0, .ref a0), (1, .int x1), (2, .int x2)]) C dX9_cellsOf_3 (by decide) rfl ?_
  have L5 : ∀ (n5 : Nat) (v1 : Int32) (v2 : Int32), ∀ (res5 : Int32), X9_cellsOf_L5 f0 x2 x1 n5 v1 v2 = some res5 → (aV X G 5 62 [(3, .int res5)] [] h nx 0 0) → aV X G 5 5 [(0, .ref a0), (1, .int x1), (2, .int x2), (3, .int v1), (4, .int v2)] [] h nx 0 0 := by
    intro n5
    induction n5 with
    | zero => intro v1 v2 res5 hF KX5; cases (show (none : Option (Int32)) = some res5 from hF)
    | succ n5 ih5 =>
      intro v1 v2 res5 hF KX5
      rw [X9_cellsOf_L5] at hF
      refine ab_iload C 4 rfl dX9_cellsOf_5 ?_
      refine ab_bipush (v := (36 : Int32)) C dX9_cellsOf_7 (by decide) ?_
      refine ab_icmp_ge C 62 dX9_cellsOf_9 (by decide) (fun c3 => ?_) (fun c3 => ?_)
      · replace hF := (if_pos c3).symm.trans hF
        obtain rfl := Option.some.inj hF
        refine aV.sub (lv' := [(3, .int v1)]) [3] rfl ?_
        exact KX5
      · replace hF := (if_neg c3).symm.trans hF
        refine ab_iload_n C 3 rfl rfl dX9_cellsOf_12 ?_
        refine ab_aload_n C 0 rfl rfl dX9_cellsOf_13 ?_
        refine ab_iload C 4 rfl dX9_cellsOf_14 ?_
        obtain ⟨v4, hxv4, hF⟩ := Option.bind_eq_some_iff.mp hF
        refine ab_cSR (v := .int v4) (st := [.int v1]) C lm_X9_133 (X9_isIn_ok (xl X) hB0 (r := v4) hxv4) rfl rfl (by decide) ⟨Nat.zero_le _, Nat.zero_le _⟩ (Nat.le_of_ble_eq_true rfl) dX9_cellsOf_16 ?_
        refine ab_if_eq C 53 dX9_cellsOf_19 (by decide) (fun c5 => ?_) (fun c5 => ?_)
        · replace hF := (if_pos c5).symm.trans hF
          refine ab_iconst (v := (0 : Int32)) C dX9_cellsOf_53 (by decide) ?_
          refine ab_iadd C dX9_cellsOf_54 ?_
          refine ab_topi (fun v6 qv6 => ?_)
          replace hF := aLet_e hF v6 qv6
          refine ab_istore_n (lv' := [(3, .int v6), (0, .ref a0), (1, .int x1), (2, .int x2), (4, .int v2)]) C dX9_cellsOf_55 rfl (by decide) rfl ?_
          obtain ⟨v7, qv7⟩ : ∃ y : Int32, y = (v2 + (1 : Int32)) := ⟨_, rfl⟩
          replace hF := aLet_e hF v7 qv7
          refine ab_iinc (lv' := [(4, .int v7), (3, .int v6), (0, .ref a0), (1, .int x1), (2, .int x2)]) C 4 rfl dX9_cellsOf_56 (by rw [qv7]; rfl) (by decide) rfl ?_
          refine ab_goto C 5 dX9_cellsOf_59 (by decide) ?_
          refine aV.sub (lv' := [(0, .ref a0), (1, .int x1), (2, .int x2), (3, .int v6), (4, .int v7)]) [2, 3, 4, 1, 0] rfl ?_
          exact ih5 v6 v7 res5 hF KX5
        · replace hF := (if_neg c5).symm.trans hF
          refine ab_aload_n C 0 rfl rfl dX9_cellsOf_22 ?_
          refine ab_bipush (v := (16 : Int32)) C dX9_cellsOf_23 (by decide) ?_
          refine ab_iload C 4 rfl dX9_cellsOf_25 ?_
          refine ab_iadd C dX9_cellsOf_27 ?_
          obtain ⟨v8, hxv8, hF⟩ := Option.bind_eq_some_iff.mp hF
          refine ab_iald C hB0 hxv8 dX9_cellsOf_28 ?_
          refine ab_iload_n C 2 rfl rfl dX9_cellsOf_29 ?_
          refine ab_icmp_ne C 53 dX9_cellsOf_30 (by decide) (fun c9 => ?_) (fun c9 => ?_)
          · replace hF := (if_neg c9).symm.trans hF
            refine ab_iconst (v := (0 : Int32)) C dX9_cellsOf_53 (by decide) ?_
            refine ab_iadd C dX9_cellsOf_54 ?_
            refine ab_topi (fun v10 qv10 => ?_)
            replace hF := aLet_e hF v10 qv10
            refine ab_istore_n (lv' := [(3, .int v10), (0, .ref a0), (1, .int x1), (2, .int x2), (4, .int v2)]) C dX9_cellsOf_55 rfl (by decide) rfl ?_
            obtain ⟨v11, qv11⟩ : ∃ y : Int32, y = (v2 + (1 : Int32)) := ⟨_, rfl⟩
            replace hF := aLet_e hF v11 qv11
            refine ab_iinc (lv' := [(4, .int v11), (3, .int v10), (0, .ref a0), (1, .int x1), (2, .int x2)]) C 4 rfl dX9_cellsOf_56 (by rw [qv11]; rfl) (by decide) rfl ?_
            refine ab_goto C 5 dX9_cellsOf_59 (by decide) ?_
            refine aV.sub (lv' := [(0, .ref a0), (1, .int x1), (2, .int x2), (3, .int v10), (4, .int v11)]) [2, 3, 4, 1, 0] rfl ?_
            exact ih5 v10 v11 res5 hF KX5
          · replace hF := (if_pos c9).symm.trans hF
            refine ab_iload_n C 1 rfl rfl dX9_cellsOf_33 ?_
            refine ab_iconst (v := (-1 : Int32)) C dX9_cellsOf_34 (by decide) ?_
            refine ab_icmp_eq C 49 dX9_cellsOf_35 (by decide) (fun c12 => ?_) (fun c12 => ?_)
            · replace hF := (if_pos c12).symm.trans hF
              refine ab_iconst (v := (1 : Int32)) C dX9_cellsOf_49 (by decide) ?_
              refine ab_goto C 54 dX9_cellsOf_50 (by decide) ?_
              refine ab_iadd C dX9_cellsOf_54 ?_
              refine ab_topi (fun v13 qv13 => ?_)
              replace hF := aLet_e hF v13 qv13
              refine ab_istore_n (lv' := [(3, .int v13), (0, .ref a0), (1, .int x1), (2, .int x2), (4, .int v2)]) C dX9_cellsOf_55 rfl (by decide) rfl ?_
              obtain ⟨v14, qv14⟩ : ∃ y : Int32, y = (v2 + (1 : Int32)) := ⟨_, rfl⟩
              replace hF := aLet_e hF v14 qv14
              refine ab_iinc (lv' := [(4, .int v14), (3, .int v13), (0, .ref a0), (1, .int x1), (2, .int x2)]) C 4 rfl dX9_cellsOf_56 (by rw [qv14]; rfl) (by decide) rfl ?_
              refine ab_goto C 5 dX9_cellsOf_59 (by decide) ?_
              refine aV.sub (lv' := [(0, .ref a0), (1, .int x1), (2, .int x2), (3, .int v13), (4, .int v14)]) [2, 3, 4, 1, 0] rfl ?_
              exact ih5 v13 v14 res5 hF KX5
            · replace hF := (if_neg c12).symm.trans hF
              refine ab_aload_n C 0 rfl rfl dX9_cellsOf_38 ?_
              refine ab_bipush (v := (52 : Int32)) C dX9_cellsOf_39 (by decide) ?_
              refine ab_iload C 4 rfl dX9_cellsOf_41 ?_
              refine ab_iadd C dX9_cellsOf_43 ?_
              obtain ⟨v15, hxv15, hF⟩ := Option.bind_eq_some_iff.mp hF
              refine ab_iald C hB0 hxv15 dX9_cellsOf_44 ?_
              refine ab_iload_n C 1 rfl rfl dX9_cellsOf_45 ?_
              refine ab_icmp_ne C 53 dX9_cellsOf_46 (by decide) (fun c16 => ?_) (fun c16 => ?_)
              · replace hF := (if_neg c16).symm.trans hF
                refine ab_iconst (v := (0 : Int32)) C dX9_cellsOf_53 (by decide) ?_
                refine ab_iadd C dX9_cellsOf_54 ?_
                refine ab_topi (fun v17 qv17 => ?_)
                replace hF := aLet_e hF v17 qv17
                refine ab_istore_n (lv' := [(3, .int v17), (0, .ref a0), (1, .int x1), (2, .int x2), (4, .int v2)]) C dX9_cellsOf_55 rfl (by decide) rfl ?_
                obtain ⟨v18, qv18⟩ : ∃ y : Int32, y = (v2 + (1 : Int32)) := ⟨_, rfl⟩
                replace hF := aLet_e hF v18 qv18
                refine ab_iinc (lv' := [(4, .int v18), (3, .int v17), (0, .ref a0), (1, .int x1), (2, .int x2)]) C 4 rfl dX9_cellsOf_56 (by rw [qv18]; rfl) (by decide) rfl ?_
                refine ab_goto C 5 dX9_cellsOf_59 (by decide) ?_
                refine aV.sub (lv' := [(0, .ref a0), (1, .int x1), (2, .int x2), (3, .int v17), (4, .int v18)]) [2, 3, 4, 1, 0] rfl ?_
                exact ih5 v17 v18 res5 hF KX5
              · replace hF := (if_pos c16).symm.trans hF
                refine ab_iconst (v := (1 : Int32)) C dX9_cellsOf_49 (by decide) ?_
                refine ab_goto C 54 dX9_cellsOf_50 (by decide) ?_
                refine ab_iadd C dX9_cellsOf_54 ?_
                refine ab_topi (fun v19 qv19 => ?_)
                replace hF := aLet_e hF v19 qv19
                refine ab_istore_n (lv' := [(3, .int v19), (0, .ref a0), (1, .int x1), (2, .int x2), (4, .int v2)]) C dX9_cellsOf_55 rfl (by decide) rfl ?_
                obtain ⟨v20, qv20⟩ : ∃ y : Int32, y = (v2 + (1 : Int32)) := ⟨_, rfl⟩
                replace hF := aLet_e hF v20 qv20
                refine ab_iinc (lv' := [(4, .int v20), (3, .int v19), (0, .ref a0), (1, .int x1), (2, .int x2)]) C 4 rfl dX9_cellsOf_56 (by rw [qv20]; rfl) (by decide) rfl ?_
                refine ab_goto C 5 dX9_cellsOf_59 (by decide) ?_
                refine aV.sub (lv' := [(0, .ref a0), (1, .int x1), (2, .int x2), (3, .int v19), (4, .int v20)]) [2, 3, 4, 1, 0] rfl ?_
                exact ih5 v19 v20 res5 hF KX5
  refine aV.sub (lv' := [(0, .ref a0), (1, .int x1), (2, .int x2), (3, .int (0 : Int32)), (4, .int (0 : Int32))]) [2, 3, 4, 1, 0] rfl ?_
  obtain ⟨e21, he21, hF⟩ := Option.bind_eq_some_iff.mp hF
  refine L5 aFu (0 : Int32) (0 : Int32) e21 he21 ?_
  refine ab_iload_n C 0 rfl rfl dX9_cellsOf_62 ?_
  obtain rfl := Option.some.inj hF
  exact ab_iret C R0 rfl dX9_cellsOf_63 ⟨rfl, rfl, rfl⟩
theorem dX9_isHis_0 : decode cX9_isHis 0 = .ok (.iload_n 1, 1) := by decide +kernel
theorem dX9_isHis_1 : decode cX9_isHis 1 = .ok (.i2l, 1) := by decide +kernel
theorem dX9_isHis_2 : decode cX9_isHis 2 = .ok (.lconst 0, 1) := by decide +kernel
theorem dX9_isHis_3 : decode cX9_isHis 3 = .ok (.aload_n 0, 1) := by decide +kernel
theorem dX9_isHis_4 : decode cX9_isHis 4 = .ok (.iconst 2, 1) := by decide +kernel
theorem dX9_isHis_5 : decode cX9_isHis 5 = .ok (.iaload, 1) := by decide +kernel
theorem dX9_isHis_6 : decode cX9_isHis 6 = .ok (.iconst 1, 1) := by decide +kernel
theorem dX9_isHis_7 : decode cX9_isHis 7 = .ok (.isub, 1) := by decide +kernel
theorem dX9_isHis_8 : decode cX9_isHis 8 = .ok (.i2l, 1) := by decide +kernel
theorem dX9_isHis_9 : decode cX9_isHis 9 = .ok (.invokestatic 69, 3) := by decide +kernel
theorem dX9_isHis_12 : decode cX9_isHis 12 = .ok (.ifCond .eq 37, 3) := by decide +kernel
theorem dX9_isHis_15 : decode cX9_isHis 15 = .ok (.iload_n 2, 1) := by decide +kernel
theorem dX9_isHis_16 : decode cX9_isHis 16 = .ok (.i2l, 1) := by decide +kernel
theorem dX9_isHis_17 : decode cX9_isHis 17 = .ok (.lconst 0, 1) := by decide +kernel
theorem dX9_isHis_18 : decode cX9_isHis 18 = .ok (.aload_n 0, 1) := by decide +kernel
theorem dX9_isHis_19 : decode cX9_isHis 19 = .ok (.iconst 1, 1) := by decide +kernel
theorem dX9_isHis_20 : decode cX9_isHis 20 = .ok (.iaload, 1) := by decide +kernel
theorem dX9_isHis_21 : decode cX9_isHis 21 = .ok (.iconst 1, 1) := by decide +kernel
theorem dX9_isHis_22 : decode cX9_isHis 22 = .ok (.isub, 1) := by decide +kernel
theorem dX9_isHis_23 : decode cX9_isHis 23 = .ok (.i2l, 1) := by decide +kernel
theorem dX9_isHis_24 : decode cX9_isHis 24 = .ok (.invokestatic 69, 3) := by decide +kernel
theorem dX9_isHis_27 : decode cX9_isHis 27 = .ok (.ifCond .eq 22, 3) := by decide +kernel
theorem dX9_isHis_30 : decode cX9_isHis 30 = .ok (.aload_n 0, 1) := by decide +kernel
theorem dX9_isHis_31 : decode cX9_isHis 31 = .ok (.bipush 52, 2) := by decide +kernel
theorem dX9_isHis_33 : decode cX9_isHis 33 = .ok (.bipush 6, 2) := by decide +kernel
theorem dX9_isHis_35 : decode cX9_isHis 35 = .ok (.iload_n 1, 1) := by decide +kernel
theorem dX9_isHis_36 : decode cX9_isHis 36 = .ok (.imul, 1) := by decide +kernel
theorem dX9_isHis_37 : decode cX9_isHis 37 = .ok (.iadd, 1) := by decide +kernel
theorem dX9_isHis_38 : decode cX9_isHis 38 = .ok (.iload_n 2, 1) := by decide +kernel
theorem dX9_isHis_39 : decode cX9_isHis 39 = .ok (.iadd, 1) := by decide +kernel
theorem dX9_isHis_40 : decode cX9_isHis 40 = .ok (.iaload, 1) := by decide +kernel
theorem dX9_isHis_41 : decode cX9_isHis 41 = .ok (.iload_n 3, 1) := by decide +kernel
theorem dX9_isHis_42 : decode cX9_isHis 42 = .ok (.if_icmp .ne 7, 3) := by decide +kernel
theorem dX9_isHis_45 : decode cX9_isHis 45 = .ok (.iconst 1, 1) := by decide +kernel
theorem dX9_isHis_46 : decode cX9_isHis 46 = .ok (.goto 4, 3) := by decide +kernel
theorem dX9_isHis_49 : decode cX9_isHis 49 = .ok (.iconst 0, 1) := by decide +kernel
theorem dX9_isHis_50 : decode cX9_isHis 50 = .ok (.ireturn, 1) := by decide +kernel
def X9_isHis (f0 : (Nat → Int32)) (x1 : Int32) (x2 : Int32) (x3 : Int32) : Option (Int32) :=
  (rdI f0 96 (2 : Int32)).bind fun v1 =>
  if (X9_in (x1.toInt64) (0 : Int64) ((v1 - (1 : Int32)).toInt64)) = 0 then
    some (0 : Int32)
  else
    (rdI f0 96 (1 : Int32)).bind fun v3 =>
    if (X9_in (x2.toInt64) (0 : Int64) ((v3 - (1 : Int32)).toInt64)) = 0 then
      some (0 : Int32)
    else
      (rdI f0 96 (((52 : Int32) + ((6 : Int32) * x1)) + x2)).bind fun v5 =>
      if v5 = x3 then
        some (1 : Int32)
      else
        some (0 : Int32)
set_option maxRecDepth 100000 in
set_option maxHeartbeats 4000000 in
theorem X9_isHis_ok (l : Launch) {h : aH} {nx : Nat} {a0 : Nat} {f0 : (Nat → Int32)} {x1 : Int32} {x2 : Int32} {x3 : Int32} (hB0 : row_at h a0 f0) {r : Int32} (hF : X9_isHis f0 x1 x2 x3 = some r) : aOk l 1 0 0 yX9_isHis cX9_isHis 4 (some .boolean) [.ref a0, .int x1, .int x2, .int x3] h nx (aRd (.int r) h nx) := by
  refine aOk.of (by decide +kernel) (Nat.le_of_ble_eq_true rfl) (fun X G hX C R0 _ => ?_)
  subst hX
  show aV X G 4 0 [(0, .ref a0), (1, .int x1), (2, .int x2), (3, .int x3)] [] h nx 0 0
  rw [X9_isHis] at hF
  refine ab_iload_n C 1 rfl rfl dX9_isHis_0 ?_
  refine ab_i2l C dX9_isHis_1 ?_
  refine ab_lconst (v := (0 : Int64)) C dX9_isHis_2 (by decide) ?_
  refine ab_aload_n C 0 rfl rfl dX9_isHis_3 ?_
  refine ab_iconst (v := (2 : Int32)) C dX9_isHis_4 (by decide) ?_
  obtain ⟨v1, hxv1, hF⟩ := Option.bind_eq_some_iff.mp hF
  refine ab_iald C hB0 hxv1 dX9_isHis_5 ?_
  refine ab_iconst (v := (1 : Int32)) C dX9_isHis_6 (by decide) ?_
  refine ab_isub C dX9_isHis_7 ?_
  refine ab_i2l C dX9_isHis_8 ?_
  refine ab_cSR (v := .int (X9_in (x1.toInt64) (0 : Int64) ((v1 - (1 : Int32)).toInt64))) (st := []) C lm_X9_69 (X9_in_ok (xl X) (r := (X9_in (x1.toInt64) (0 : Int64) ((v1 - (1 : Int32)).toInt64))) rfl) rfl rfl (by decide) ⟨Nat.zero_le _, Nat.zero_le _⟩ (Nat.le_of_ble_eq_true rfl) dX9_isHis_9 ?_
  refine ab_if_eq C 49 dX9_isHis_12 (by decide) (fun c2 => ?_) (fun c2 => ?_)
  · replace hF := (if_pos c2).symm.trans hF
    refine ab_iconst (v := (0 : Int32)) C dX9_isHis_49 (by decide) ?_
    obtain rfl := Option.some.inj hF
    exact ab_iret C R0 rfl dX9_isHis_50 ⟨rfl, rfl, rfl⟩
  · replace hF := (if_neg c2).symm.trans hF
    refine ab_iload_n C 2 rfl rfl dX9_isHis_15 ?_
    refine ab_i2l C dX9_isHis_16 ?_
    refine ab_lconst (v := (0 : Int64)) C dX9_isHis_17 (by decide) ?_
    refine ab_aload_n C 0 rfl rfl dX9_isHis_18 ?_
    refine ab_iconst (v := (1 : Int32)) C dX9_isHis_19 (by decide) ?_
    obtain ⟨v3, hxv3, hF⟩ := Option.bind_eq_some_iff.mp hF
    refine ab_iald C hB0 hxv3 dX9_isHis_20 ?_
    refine ab_iconst (v := (1 : Int32)) C dX9_isHis_21 (by decide) ?_
    refine ab_isub C dX9_isHis_22 ?_
    refine ab_i2l C dX9_isHis_23 ?_
    refine ab_cSR (v := .int (X9_in (x2.toInt64) (0 : Int64) ((v3 - (1 : Int32)).toInt64))) (st := []) C lm_X9_69 (X9_in_ok (xl X) (r := (X9_in (x2.toInt64) (0 : Int64) ((v3 - (1 : Int32)).toInt64))) rfl) rfl rfl (by decide) ⟨Nat.zero_le _, Nat.zero_le _⟩ (Nat.le_of_ble_eq_true rfl) dX9_isHis_24 ?_
    refine ab_if_eq C 49 dX9_isHis_27 (by decide) (fun c4 => ?_) (fun c4 => ?_)
    · replace hF := (if_pos c4).symm.trans hF
      refine ab_iconst (v := (0 : Int32)) C dX9_isHis_49 (by decide) ?_
      obtain rfl := Option.some.inj hF
      exact ab_iret C R0 rfl dX9_isHis_50 ⟨rfl, rfl, rfl⟩
    · replace hF := (if_neg c4).symm.trans hF
      refine ab_aload_n C 0 rfl rfl dX9_isHis_30 ?_
      refine ab_bipush (v := (52 : Int32)) C dX9_isHis_31 (by decide) ?_
      refine ab_bipush (v := (6 : Int32)) C dX9_isHis_33 (by decide) ?_
      refine ab_iload_n C 1 rfl rfl dX9_isHis_35 ?_
      refine ab_imul C dX9_isHis_36 ?_
      refine ab_iadd C dX9_isHis_37 ?_
      refine ab_iload_n C 2 rfl rfl dX9_isHis_38 ?_
      refine ab_iadd C dX9_isHis_39 ?_
      obtain ⟨v5, hxv5, hF⟩ := Option.bind_eq_some_iff.mp hF
      refine ab_iald C hB0 hxv5 dX9_isHis_40 ?_
      refine ab_iload_n C 3 rfl rfl dX9_isHis_41 ?_
      refine ab_icmp_ne C 49 dX9_isHis_42 (by decide) (fun c6 => ?_) (fun c6 => ?_)
      · replace hF := (if_neg c6).symm.trans hF
        refine ab_iconst (v := (0 : Int32)) C dX9_isHis_49 (by decide) ?_
        obtain rfl := Option.some.inj hF
        exact ab_iret C R0 rfl dX9_isHis_50 ⟨rfl, rfl, rfl⟩
      · replace hF := (if_pos c6).symm.trans hF
        refine ab_iconst (v := (1 : Int32)) C dX9_isHis_45 (by decide) ?_
        refine ab_goto C 50 dX9_isHis_46 (by decide) ?_
        obtain rfl := Option.some.inj hF
        exact ab_iret C R0 rfl dX9_isHis_50 ⟨rfl, rfl, rfl⟩
theorem dX9_isBeside_0 : decode cX9_isBeside 0 = .ok (.iload_n 1, 1) := by decide +kernel
theorem dX9_isBeside_1 : decode cX9_isBeside 1 = .ok (.bipush 6, 2) := by decide +kernel
theorem dX9_isBeside_3 : decode cX9_isBeside 3 = .ok (.idiv, 1) := by decide +kernel
theorem dX9_isBeside_4 : decode cX9_isBeside 4 = .ok (.istore_n 3, 1) := by decide +kernel
theorem dX9_isBeside_5 : decode cX9_isBeside 5 = .ok (.iload_n 1, 1) := by decide +kernel
theorem dX9_isBeside_6 : decode cX9_isBeside 6 = .ok (.bipush 6, 2) := by decide +kernel
theorem dX9_isBeside_8 : decode cX9_isBeside 8 = .ok (.irem, 1) := by decide +kernel
theorem dX9_isBeside_9 : decode cX9_isBeside 9 = .ok (.istore 4, 2) := by decide +kernel
theorem dX9_isBeside_11 : decode cX9_isBeside 11 = .ok (.aload_n 0, 1) := by decide +kernel
theorem dX9_isBeside_12 : decode cX9_isBeside 12 = .ok (.bipush 52, 2) := by decide +kernel
theorem dX9_isBeside_14 : decode cX9_isBeside 14 = .ok (.iload_n 1, 1) := by decide +kernel
theorem dX9_isBeside_15 : decode cX9_isBeside 15 = .ok (.iadd, 1) := by decide +kernel
theorem dX9_isBeside_16 : decode cX9_isBeside 16 = .ok (.iaload, 1) := by decide +kernel
theorem dX9_isBeside_17 : decode cX9_isBeside 17 = .ok (.iload_n 2, 1) := by decide +kernel
theorem dX9_isBeside_18 : decode cX9_isBeside 18 = .ok (.if_icmp .eq 59, 3) := by decide +kernel
theorem dX9_isBeside_21 : decode cX9_isBeside 21 = .ok (.aload_n 0, 1) := by decide +kernel
theorem dX9_isBeside_22 : decode cX9_isBeside 22 = .ok (.iload_n 3, 1) := by decide +kernel
theorem dX9_isBeside_23 : decode cX9_isBeside 23 = .ok (.iconst 1, 1) := by decide +kernel
theorem dX9_isBeside_24 : decode cX9_isBeside 24 = .ok (.isub, 1) := by decide +kernel
theorem dX9_isBeside_25 : decode cX9_isBeside 25 = .ok (.iload 4, 2) := by decide +kernel
theorem dX9_isBeside_27 : decode cX9_isBeside 27 = .ok (.iload_n 2, 1) := by decide +kernel
theorem dX9_isBeside_28 : decode cX9_isBeside 28 = .ok (.invokestatic 137, 3) := by decide +kernel
theorem dX9_isBeside_31 : decode cX9_isBeside 31 = .ok (.ifCond .ne 42, 3) := by decide +kernel
theorem dX9_isBeside_34 : decode cX9_isBeside 34 = .ok (.aload_n 0, 1) := by decide +kernel
theorem dX9_isBeside_35 : decode cX9_isBeside 35 = .ok (.iload_n 3, 1) := by decide +kernel
theorem dX9_isBeside_36 : decode cX9_isBeside 36 = .ok (.iconst 1, 1) := by decide +kernel
theorem dX9_isBeside_37 : decode cX9_isBeside 37 = .ok (.iadd, 1) := by decide +kernel
theorem dX9_isBeside_38 : decode cX9_isBeside 38 = .ok (.iload 4, 2) := by decide +kernel
theorem dX9_isBeside_40 : decode cX9_isBeside 40 = .ok (.iload_n 2, 1) := by decide +kernel
theorem dX9_isBeside_41 : decode cX9_isBeside 41 = .ok (.invokestatic 137, 3) := by decide +kernel
theorem dX9_isBeside_44 : decode cX9_isBeside 44 = .ok (.ifCond .ne 29, 3) := by decide +kernel
theorem dX9_isBeside_47 : decode cX9_isBeside 47 = .ok (.aload_n 0, 1) := by decide +kernel
theorem dX9_isBeside_48 : decode cX9_isBeside 48 = .ok (.iload_n 3, 1) := by decide +kernel
theorem dX9_isBeside_49 : decode cX9_isBeside 49 = .ok (.iload 4, 2) := by decide +kernel
theorem dX9_isBeside_51 : decode cX9_isBeside 51 = .ok (.iconst 1, 1) := by decide +kernel
theorem dX9_isBeside_52 : decode cX9_isBeside 52 = .ok (.isub, 1) := by decide +kernel
theorem dX9_isBeside_53 : decode cX9_isBeside 53 = .ok (.iload_n 2, 1) := by decide +kernel
theorem dX9_isBeside_54 : decode cX9_isBeside 54 = .ok (.invokestatic 137, 3) := by decide +kernel
theorem dX9_isBeside_57 : decode cX9_isBeside 57 = .ok (.ifCond .ne 16, 3) := by decide +kernel
theorem dX9_isBeside_60 : decode cX9_isBeside 60 = .ok (.aload_n 0, 1) := by decide +kernel
theorem dX9_isBeside_61 : decode cX9_isBeside 61 = .ok (.iload_n 3, 1) := by decide +kernel
theorem dX9_isBeside_62 : decode cX9_isBeside 62 = .ok (.iload 4, 2) := by decide +kernel
theorem dX9_isBeside_64 : decode cX9_isBeside 64 = .ok (.iconst 1, 1) := by decide +kernel
theorem dX9_isBeside_65 : decode cX9_isBeside 65 = .ok (.iadd, 1) := by decide +kernel
theorem dX9_isBeside_66 : decode cX9_isBeside 66 = .ok (.iload_n 2, 1) := by decide +kernel
theorem dX9_isBeside_67 : decode cX9_isBeside 67 = .ok (.invokestatic 137, 3) := by decide +kernel
theorem dX9_isBeside_70 : decode cX9_isBeside 70 = .ok (.ifCond .eq 7, 3) := by decide +kernel
theorem dX9_isBeside_73 : decode cX9_isBeside 73 = .ok (.iconst 1, 1) := by decide +kernel
theorem dX9_isBeside_74 : decode cX9_isBeside 74 = .ok (.goto 4, 3) := by decide +kernel
theorem dX9_isBeside_77 : decode cX9_isBeside 77 = .ok (.iconst 0, 1) := by decide +kernel
theorem dX9_isBeside_78 : decode cX9_isBeside 78 = .ok (.ireturn, 1) := by decide +kernel
def X9_isBeside (f0 : (Nat → Int32)) (x1 : Int32) (x2 : Int32) : Option (Int32) :=
  aLet (x1 / (6 : Int32)) fun v1 =>
  aLet (x1 - x1 / (6 : Int32) * (6 : Int32)) fun v2 =>
  (rdI f0 96 ((52 : Int32) + x1)).bind fun v3 =>
  if v3 = x2 then
    some (0 : Int32)
  else
    (X9_isHis f0 (v1 - (1 : Int32)) v2 x2).bind fun v5 =>
    if v5 = 0 then
      (X9_isHis f0 (v1 + (1 : Int32)) v2 x2).bind fun v7 =>
      if v7 = 0 then
        (X9_isHis f0 v1 (v2 - (1 : Int32)) x2).bind fun v9 =>
        if v9 = 0 then
          (X9_isHis f0 v1 (v2 + (1 : Int32)) x2).bind fun v11 =>
          if v11 = 0 then
            some (0 : Int32)
          else
            some (1 : Int32)
        else
          some (1 : Int32)
      else
        some (1 : Int32)
    else
      some (1 : Int32)
set_option maxRecDepth 100000 in
set_option maxHeartbeats 4000000 in
theorem X9_isBeside_ok (l : Launch) {h : aH} {nx : Nat} {a0 : Nat} {f0 : (Nat → Int32)} {x1 : Int32} {x2 : Int32} (hB0 : row_at h a0 f0) {r : Int32} (hF : X9_isBeside f0 x1 x2 = some r) : aOk l 2 0 0 yX9_isBeside cX9_isBeside 5 (some .boolean) [.ref a0, .int x1, .int x2] h nx (aRd (.int r) h nx) := by
  refine aOk.of (by decide +kernel) (Nat.le_of_ble_eq_true rfl) (fun X G hX C R0 _ => ?_)
  subst hX
  show aV X G 5 0 [(0, .ref a0), (1, .int x1), (2, .int x2)] [] h nx 0 0
  rw [X9_isBeside] at hF
  refine ab_iload_n C 1 rfl rfl dX9_isBeside_0 ?_
  refine ab_bipush (v := (6 : Int32)) C dX9_isBeside_1 (by decide) ?_
  refine ab_idiv C (by decide) dX9_isBeside_3 ?_
  refine ab_topi (fun v1 qv1 => ?_)
  replace hF := aLet_e hF v1 qv1
  refine ab_istore_n (lv' := [(3, .int v1), (0, .ref a0), (1, .int x1), (2, .int x2)]) C dX9_isBeside_4 rfl (by decide) rfl ?_
  refine ab_iload_n C 2 rfl rfl dX9_isBeside_5 ?_
  refine ab_bipush (v := (6 : Int32)) C dX9_isBeside_6 (by decide) ?_
  refine ab_irem C (by decide) dX9_isBeside_8 ?_
  refine ab_topi (fun v2 qv2 => ?_)
  replace hF := aLet_e hF v2 qv2
  refine ab_istore (lv' := [(4, .int v2), (3, .int v1), (0, .ref a0), (1, .int x1), (2, .int x2)]) C dX9_isBeside_9 (by decide) rfl ?_
  refine ab_aload_n C 2 rfl rfl dX9_isBeside_11 ?_
  refine ab_bipush (v := (52 : Int32)) C dX9_isBeside_12 (by decide) ?_
  refine ab_iload_n C 3 rfl rfl dX9_isBeside_14 ?_
  refine ab_iadd C dX9_isBeside_15 ?_
  obtain ⟨v3, hxv3, hF⟩ := Option.bind_eq_some_iff.mp hF
  refine ab_iald C hB0 hxv3 dX9_isBeside_16 ?_
  refine ab_iload_n C 4 rfl rfl dX9_isBeside_17 ?_
  refine ab_icmp_eq C 77 dX9_isBeside_18 (by decide) (fun c4 => ?_) (fun c4 => ?_)
  · replace hF := (if_pos c4).symm.trans hF
    refine ab_iconst (v := (0 : Int32)) C dX9_isBeside_77 (by decide) ?_
    obtain rfl := Option.some.inj hF
    exact ab_iret C R0 rfl dX9_isBeside_78 ⟨rfl, rfl, rfl⟩
  · replace hF := (if_neg c4).symm.trans hF
    refine ab_aload_n C 2 rfl rfl dX9_isBeside_21 ?_
    refine ab_iload_n C 1 rfl rfl dX9_isBeside_22 ?_
    refine ab_iconst (v := (1 : Int32)) C dX9_isBeside_23 (by decide) ?_
    refine ab_isub C dX9_isBeside_24 ?_
    refine ab_iload C 0 rfl dX9_isBeside_25 ?_
    refine ab_iload_n C 4 rfl rfl dX9_isBeside_27 ?_
    obtain ⟨v5, hxv5, hF⟩ := Option.bind_eq_some_iff.mp hF
    refine ab_cSR (v := .int v5) (st := []) C lm_X9_137 (X9_isHis_ok (xl X) hB0 (r := v5) hxv5) rfl rfl (by decide) ⟨Nat.zero_le _, Nat.zero_le _⟩ (Nat.le_of_ble_eq_true rfl) dX9_isBeside_28 ?_
    refine ab_if_ne C 73 dX9_isBeside_31 (by decide) (fun c6 => ?_) (fun c6 => ?_)
    · replace hF := (if_neg c6).symm.trans hF
      refine ab_iconst (v := (1 : Int32)) C dX9_isBeside_73 (by decide) ?_
      refine ab_goto C 78 dX9_isBeside_74 (by decide) ?_
      obtain rfl := Option.some.inj hF
      exact ab_iret C R0 rfl dX9_isBeside_78 ⟨rfl, rfl, rfl⟩
    · replace hF := (if_pos c6).symm.trans hF
      refine ab_aload_n C 2 rfl rfl dX9_isBeside_34 ?_
      refine ab_iload_n C 1 rfl rfl dX9_isBeside_35 ?_
      refine ab_iconst (v := (1 : Int32)) C dX9_isBeside_36 (by decide) ?_
      refine ab_iadd C dX9_isBeside_37 ?_
      refine ab_iload C 0 rfl dX9_isBeside_38 ?_
      refine ab_iload_n C 4 rfl rfl dX9_isBeside_40 ?_
      obtain ⟨v7, hxv7, hF⟩ := Option.bind_eq_some_iff.mp hF
      refine ab_cSR (v := .int v7) (st := []) C lm_X9_137 (X9_isHis_ok (xl X) hB0 (r := v7) hxv7) rfl rfl (by decide) ⟨Nat.zero_le _, Nat.zero_le _⟩ (Nat.le_of_ble_eq_true rfl) dX9_isBeside_41 ?_
      refine ab_if_ne C 73 dX9_isBeside_44 (by decide) (fun c8 => ?_) (fun c8 => ?_)
      · replace hF := (if_neg c8).symm.trans hF
        refine ab_iconst (v := (1 : Int32)) C dX9_isBeside_73 (by decide) ?_
        refine ab_goto C 78 dX9_isBeside_74 (by decide) ?_
        obtain rfl := Option.some.inj hF
        exact ab_iret C R0 rfl dX9_isBeside_78 ⟨rfl, rfl, rfl⟩
      · replace hF := (if_pos c8).symm.trans hF
        refine ab_aload_n C 2 rfl rfl dX9_isBeside_47 ?_
        refine ab_iload_n C 1 rfl rfl dX9_isBeside_48 ?_
        refine ab_iload C 0 rfl dX9_isBeside_49 ?_
        refine ab_iconst (v := (1 : Int32)) C dX9_isBeside_51 (by decide) ?_
        refine ab_isub C dX9_isBeside_52 ?_
        refine ab_iload_n C 4 rfl rfl dX9_isBeside_53 ?_
        obtain ⟨v9, hxv9, hF⟩ := Option.bind_eq_some_iff.mp hF
        refine ab_cSR (v := .int v9) (st := []) C lm_X9_137 (X9_isHis_ok (xl X) hB0 (r := v9) hxv9) rfl rfl (by decide) ⟨Nat.zero_le _, Nat.zero_le _⟩ (Nat.le_of_ble_eq_true rfl) dX9_isBeside_54 ?_
        refine ab_if_ne C 73 dX9_isBeside_57 (by decide) (fun c10 => ?_) (fun c10 => ?_)
        · replace hF := (if_neg c10).symm.trans hF
          refine ab_iconst (v := (1 : Int32)) C dX9_isBeside_73 (by decide) ?_
          refine ab_goto C 78 dX9_isBeside_74 (by decide) ?_
          obtain rfl := Option.some.inj hF
          exact ab_iret C R0 rfl dX9_isBeside_78 ⟨rfl, rfl, rfl⟩
        · replace hF := (if_pos c10).symm.trans hF
          refine ab_aload_n C 2 rfl rfl dX9_isBeside_60 ?_
          refine ab_iload_n C 1 rfl rfl dX9_isBeside_61 ?_
          refine ab_iload C 0 rfl dX9_isBeside_62 ?_
          refine ab_iconst (v := (1 : Int32)) C dX9_isBeside_64 (by decide) ?_
          refine ab_iadd C dX9_isBeside_65 ?_
          refine ab_iload_n C 4 rfl rfl dX9_isBeside_66 ?_
          obtain ⟨v11, hxv11, hF⟩ := Option.bind_eq_some_iff.mp hF
          refine ab_cSR (v := .int v11) (st := []) C lm_X9_137 (X9_isHis_ok (xl X) hB0 (r := v11) hxv11) rfl rfl (by decide) ⟨Nat.zero_le _, Nat.zero_le _⟩ (Nat.le_of_ble_eq_true rfl) dX9_isBeside_67 ?_
          refine ab_if_eq C 77 dX9_isBeside_70 (by decide) (fun c12 => ?_) (fun c12 => ?_)
          · replace hF := (if_pos c12).symm.trans hF
            refine ab_iconst (v := (0 : Int32)) C dX9_isBeside_77 (by decide) ?_
            obtain rfl := Option.some.inj hF
            exact ab_iret C R0 rfl dX9_isBeside_78 ⟨rfl, rfl, rfl⟩
          · replace hF := (if_neg c12).symm.trans hF
            refine ab_iconst (v := (1 : Int32)) C dX9_isBeside_73 (by decide) ?_
            refine ab_goto C 78 dX9_isBeside_74 (by decide) ?_
            obtain rfl := Option.some.inj hF
            exact ab_iret C R0 rfl dX9_isBeside_78 ⟨rfl, rfl, rfl⟩
theorem dX9_says_0 : decode cX9_says 0 = .ok (.aload_n 0, 1) := by decide +kernel
theorem dX9_says_1 : decode cX9_says 1 = .ok (.iconst 5, 1) := by decide +kernel
theorem dX9_says_2 : decode cX9_says 2 = .ok (.iload_n 1, 1) := by decide +kernel
theorem dX9_says_3 : decode cX9_says 3 = .ok (.iadd, 1) := by decide +kernel
theorem dX9_says_4 : decode cX9_says 4 = .ok (.iaload, 1) := by decide +kernel
theorem dX9_says_5 : decode cX9_says 5 = .ok (.istore_n 2, 1) := by decide +kernel
theorem dX9_says_6 : decode cX9_says 6 = .ok (.iconst 0, 1) := by decide +kernel
theorem dX9_says_7 : decode cX9_says 7 = .ok (.istore_n 3, 1) := by decide +kernel
theorem dX9_says_8 : decode cX9_says 8 = .ok (.iconst 0, 1) := by decide +kernel
theorem dX9_says_9 : decode cX9_says 9 = .ok (.istore 4, 2) := by decide +kernel
theorem dX9_says_11 : decode cX9_says 11 = .ok (.iload 4, 2) := by decide +kernel
theorem dX9_says_13 : decode cX9_says 13 = .ok (.iconst 5, 1) := by decide +kernel
theorem dX9_says_14 : decode cX9_says 14 = .ok (.if_icmp .ge 125, 3) := by decide +kernel
theorem dX9_says_17 : decode cX9_says 17 = .ok (.aload_n 0, 1) := by decide +kernel
theorem dX9_says_18 : decode cX9_says 18 = .ok (.iconst (-1), 1) := by decide +kernel
theorem dX9_says_19 : decode cX9_says 19 = .ok (.iload 4, 2) := by decide +kernel
theorem dX9_says_21 : decode cX9_says 21 = .ok (.invokestatic 141, 3) := by decide +kernel
theorem dX9_says_24 : decode cX9_says 24 = .ok (.bipush 12, 2) := by decide +kernel
theorem dX9_says_26 : decode cX9_says 26 = .ok (.if_icmp .lt 7, 3) := by decide +kernel
theorem dX9_says_29 : decode cX9_says 29 = .ok (.iconst 1, 1) := by decide +kernel
theorem dX9_says_30 : decode cX9_says 30 = .ok (.goto 4, 3) := by decide +kernel
theorem dX9_says_33 : decode cX9_says 33 = .ok (.iconst 0, 1) := by decide +kernel
theorem dX9_says_34 : decode cX9_says 34 = .ok (.istore 5, 2) := by decide +kernel
theorem dX9_says_36 : decode cX9_says 36 = .ok (.aload_n 0, 1) := by decide +kernel
theorem dX9_says_37 : decode cX9_says 37 = .ok (.iload_n 1, 1) := by decide +kernel
theorem dX9_says_38 : decode cX9_says 38 = .ok (.iconst 1, 1) := by decide +kernel
theorem dX9_says_39 : decode cX9_says 39 = .ok (.iadd, 1) := by decide +kernel
theorem dX9_says_40 : decode cX9_says 40 = .ok (.iload 4, 2) := by decide +kernel
theorem dX9_says_42 : decode cX9_says 42 = .ok (.invokestatic 141, 3) := by decide +kernel
theorem dX9_says_45 : decode cX9_says 45 = .ok (.istore 6, 2) := by decide +kernel
theorem dX9_says_47 : decode cX9_says 47 = .ok (.iload_n 2, 1) := by decide +kernel
theorem dX9_says_48 : decode cX9_says 48 = .ok (.iconst 4, 1) := by decide +kernel
theorem dX9_says_49 : decode cX9_says 49 = .ok (.if_icmp .ge 23, 3) := by decide +kernel
theorem dX9_says_52 : decode cX9_says 52 = .ok (.iload 5, 2) := by decide +kernel
theorem dX9_says_54 : decode cX9_says 54 = .ok (.ifCond .ne 8, 3) := by decide +kernel
theorem dX9_says_57 : decode cX9_says 57 = .ok (.iload 6, 2) := by decide +kernel
theorem dX9_says_59 : decode cX9_says 59 = .ok (.ifCond .le 7, 3) := by decide +kernel
theorem dX9_says_62 : decode cX9_says 62 = .ok (.iconst 1, 1) := by decide +kernel
theorem dX9_says_63 : decode cX9_says 63 = .ok (.goto 4, 3) := by decide +kernel
theorem dX9_says_66 : decode cX9_says 66 = .ok (.iconst 0, 1) := by decide +kernel
theorem dX9_says_67 : decode cX9_says 67 = .ok (.istore 5, 2) := by decide +kernel
theorem dX9_says_69 : decode cX9_says 69 = .ok (.goto 25, 3) := by decide +kernel
theorem dX9_says_72 : decode cX9_says 72 = .ok (.iload 5, 2) := by decide +kernel
theorem dX9_says_74 : decode cX9_says 74 = .ok (.ifCond .ne 13, 3) := by decide +kernel
theorem dX9_says_77 : decode cX9_says 77 = .ok (.aload_n 0, 1) := by decide +kernel
theorem dX9_says_78 : decode cX9_says 78 = .ok (.iconst 0, 1) := by decide +kernel
theorem dX9_says_79 : decode cX9_says 79 = .ok (.iload 4, 2) := by decide +kernel
theorem dX9_says_81 : decode cX9_says 81 = .ok (.invokestatic 141, 3) := by decide +kernel
theorem dX9_says_84 : decode cX9_says 84 = .ok (.ifCond .le 7, 3) := by decide +kernel
theorem dX9_says_87 : decode cX9_says 87 = .ok (.iconst 1, 1) := by decide +kernel
theorem dX9_says_88 : decode cX9_says 88 = .ok (.goto 4, 3) := by decide +kernel
theorem dX9_says_91 : decode cX9_says 91 = .ok (.iconst 0, 1) := by decide +kernel
theorem dX9_says_92 : decode cX9_says 92 = .ok (.istore 5, 2) := by decide +kernel
theorem dX9_says_94 : decode cX9_says 94 = .ok (.iload 5, 2) := by decide +kernel
theorem dX9_says_96 : decode cX9_says 96 = .ok (.ifCond .eq 18, 3) := by decide +kernel
theorem dX9_says_99 : decode cX9_says 99 = .ok (.iload_n 2, 1) := by decide +kernel
theorem dX9_says_100 : decode cX9_says 100 = .ok (.iconst 3, 1) := by decide +kernel
theorem dX9_says_101 : decode cX9_says 101 = .ok (.if_icmp .ne 9, 3) := by decide +kernel
theorem dX9_says_104 : decode cX9_says 104 = .ok (.iload 6, 2) := by decide +kernel
theorem dX9_says_106 : decode cX9_says 106 = .ok (.iconst 1, 1) := by decide +kernel
theorem dX9_says_107 : decode cX9_says 107 = .ok (.if_icmp .eq 7, 3) := by decide +kernel
theorem dX9_says_110 : decode cX9_says 110 = .ok (.iconst 1, 1) := by decide +kernel
theorem dX9_says_111 : decode cX9_says 111 = .ok (.goto 4, 3) := by decide +kernel
theorem dX9_says_114 : decode cX9_says 114 = .ok (.iconst 0, 1) := by decide +kernel
theorem dX9_says_115 : decode cX9_says 115 = .ok (.istore 5, 2) := by decide +kernel
theorem dX9_says_117 : decode cX9_says 117 = .ok (.iload_n 3, 1) := by decide +kernel
theorem dX9_says_118 : decode cX9_says 118 = .ok (.iload 5, 2) := by decide +kernel
theorem dX9_says_120 : decode cX9_says 120 = .ok (.ifCond .eq 10, 3) := by decide +kernel
theorem dX9_says_123 : decode cX9_says 123 = .ok (.iconst 1, 1) := by decide +kernel
theorem dX9_says_124 : decode cX9_says 124 = .ok (.iload 4, 2) := by decide +kernel
theorem dX9_says_126 : decode cX9_says 126 = .ok (.ishl, 1) := by decide +kernel
theorem dX9_says_127 : decode cX9_says 127 = .ok (.goto 4, 3) := by decide +kernel
theorem dX9_says_130 : decode cX9_says 130 = .ok (.iconst 0, 1) := by decide +kernel
theorem dX9_says_131 : decode cX9_says 131 = .ok (.ior, 1) := by decide +kernel
theorem dX9_says_132 : decode cX9_says 132 = .ok (.istore_n 3, 1) := by decide +kernel
theorem dX9_says_133 : decode cX9_says 133 = .ok (.iinc 4 1, 3) := by decide +kernel
theorem dX9_says_136 : decode cX9_says 136 = .ok (.goto (-125), 3) := by decide +kernel
theorem dX9_says_139 : decode cX9_says 139 = .ok (.iload_n 2, 1) := by decide +kernel
theorem dX9_says_140 : decode cX9_says 140 = .ok (.iconst 2, 1) := by decide +kernel
theorem dX9_says_141 : decode cX9_says 141 = .ok (.if_icmp .ne 12, 3) := by decide +kernel
theorem dX9_says_144 : decode cX9_says 144 = .ok (.iload_n 3, 1) := by decide +kernel
theorem dX9_says_145 : decode cX9_says 145 = .ok (.iload_n 3, 1) := by decide +kernel
theorem dX9_says_146 : decode cX9_says 146 = .ok (.iconst 1, 1) := by decide +kernel
theorem dX9_says_147 : decode cX9_says 147 = .ok (.ishl, 1) := by decide +kernel
theorem dX9_says_148 : decode cX9_says 148 = .ok (.bipush 31, 2) := by decide +kernel
theorem dX9_says_150 : decode cX9_says 150 = .ok (.iand, 1) := by decide +kernel
theorem dX9_says_151 : decode cX9_says 151 = .ok (.ior, 1) := by decide +kernel
theorem dX9_says_152 : decode cX9_says 152 = .ok (.istore_n 3, 1) := by decide +kernel
theorem dX9_says_153 : decode cX9_says 153 = .ok (.iconst 0, 1) := by decide +kernel
theorem dX9_says_154 : decode cX9_says 154 = .ok (.istore 4, 2) := by decide +kernel
theorem dX9_says_156 : decode cX9_says 156 = .ok (.iload 4, 2) := by decide +kernel
theorem dX9_says_158 : decode cX9_says 158 = .ok (.bipush 36, 2) := by decide +kernel
theorem dX9_says_160 : decode cX9_says 160 = .ok (.if_icmp .ge 74, 3) := by decide +kernel
theorem dX9_says_163 : decode cX9_says 163 = .ok (.iload_n 2, 1) := by decide +kernel
theorem dX9_says_164 : decode cX9_says 164 = .ok (.iconst 5, 1) := by decide +kernel
theorem dX9_says_165 : decode cX9_says 165 = .ok (.if_icmp .ne 69, 3) := by decide +kernel
theorem dX9_says_168 : decode cX9_says 168 = .ok (.aload_n 0, 1) := by decide +kernel
theorem dX9_says_169 : decode cX9_says 169 = .ok (.iload 4, 2) := by decide +kernel
theorem dX9_says_171 : decode cX9_says 171 = .ok (.invokestatic 133, 3) := by decide +kernel
theorem dX9_says_174 : decode cX9_says 174 = .ok (.ifCond .eq 30, 3) := by decide +kernel
theorem dX9_says_177 : decode cX9_says 177 = .ok (.aload_n 0, 1) := by decide +kernel
theorem dX9_says_178 : decode cX9_says 178 = .ok (.bipush 16, 2) := by decide +kernel
theorem dX9_says_180 : decode cX9_says 180 = .ok (.iload 4, 2) := by decide +kernel
theorem dX9_says_182 : decode cX9_says 182 = .ok (.iadd, 1) := by decide +kernel
theorem dX9_says_183 : decode cX9_says 183 = .ok (.iaload, 1) := by decide +kernel
theorem dX9_says_184 : decode cX9_says 184 = .ok (.iconst 5, 1) := by decide +kernel
theorem dX9_says_185 : decode cX9_says 185 = .ok (.if_icmp .eq 19, 3) := by decide +kernel
theorem dX9_says_188 : decode cX9_says 188 = .ok (.aload_n 0, 1) := by decide +kernel
theorem dX9_says_189 : decode cX9_says 189 = .ok (.iload 4, 2) := by decide +kernel
theorem dX9_says_191 : decode cX9_says 191 = .ok (.iload_n 1, 1) := by decide +kernel
theorem dX9_says_192 : decode cX9_says 192 = .ok (.iconst 1, 1) := by decide +kernel
theorem dX9_says_193 : decode cX9_says 193 = .ok (.iadd, 1) := by decide +kernel
theorem dX9_says_194 : decode cX9_says 194 = .ok (.invokestatic 145, 3) := by decide +kernel
theorem dX9_says_197 : decode cX9_says 197 = .ok (.ifCond .eq 7, 3) := by decide +kernel
theorem dX9_says_200 : decode cX9_says 200 = .ok (.iconst 1, 1) := by decide +kernel
theorem dX9_says_201 : decode cX9_says 201 = .ok (.goto 4, 3) := by decide +kernel
theorem dX9_says_204 : decode cX9_says 204 = .ok (.iconst 0, 1) := by decide +kernel
theorem dX9_says_205 : decode cX9_says 205 = .ok (.istore 5, 2) := by decide +kernel
theorem dX9_says_207 : decode cX9_says 207 = .ok (.iload_n 3, 1) := by decide +kernel
theorem dX9_says_208 : decode cX9_says 208 = .ok (.iload 5, 2) := by decide +kernel
theorem dX9_says_210 : decode cX9_says 210 = .ok (.ifCond .eq 15, 3) := by decide +kernel
theorem dX9_says_213 : decode cX9_says 213 = .ok (.iconst 1, 1) := by decide +kernel
theorem dX9_says_214 : decode cX9_says 214 = .ok (.aload_n 0, 1) := by decide +kernel
theorem dX9_says_215 : decode cX9_says 215 = .ok (.bipush 16, 2) := by decide +kernel
theorem dX9_says_217 : decode cX9_says 217 = .ok (.iload 4, 2) := by decide +kernel
theorem dX9_says_219 : decode cX9_says 219 = .ok (.iadd, 1) := by decide +kernel
theorem dX9_says_220 : decode cX9_says 220 = .ok (.iaload, 1) := by decide +kernel
theorem dX9_says_221 : decode cX9_says 221 = .ok (.ishl, 1) := by decide +kernel
theorem dX9_says_222 : decode cX9_says 222 = .ok (.goto 4, 3) := by decide +kernel
theorem dX9_says_225 : decode cX9_says 225 = .ok (.iconst 0, 1) := by decide +kernel
theorem dX9_says_226 : decode cX9_says 226 = .ok (.ior, 1) := by decide +kernel
theorem dX9_says_227 : decode cX9_says 227 = .ok (.istore_n 3, 1) := by decide +kernel
theorem dX9_says_228 : decode cX9_says 228 = .ok (.iinc 4 1, 3) := by decide +kernel
theorem dX9_says_231 : decode cX9_says 231 = .ok (.goto (-75), 3) := by decide +kernel
theorem dX9_says_234 : decode cX9_says 234 = .ok (.iload_n 3, 1) := by decide +kernel
theorem dX9_says_235 : decode cX9_says 235 = .ok (.ireturn, 1) := by decide +kernel
def X9_says_J115 (v2 : Int32) (v3 : Int32) (k11 : Int32 → Int32 → Option (Int32)) (v9 : Int32) : Option (Int32) :=
  if v9 = 0 then
    aLet (v2 ||| (0 : Int32)) fun v11 =>
    aLet (v3 + (1 : Int32)) fun v12 =>
    k11 v11 v12
  else
    aLet (v2 ||| ((1 : Int32) <<< (v3 &&& 31))) fun v13 =>
    aLet (v3 + (1 : Int32)) fun v14 =>
    k11 v13 v14
def X9_says_J114 (v2 : Int32) (v3 : Int32) (k11 : Int32 → Int32 → Option (Int32)) : Option (Int32) :=
  X9_says_J115 v2 v3 (k11) (0 : Int32)
def X9_says_J110 (v2 : Int32) (v3 : Int32) (k11 : Int32 → Int32 → Option (Int32)) : Option (Int32) :=
  X9_says_J115 v2 v3 (k11) (1 : Int32)
def X9_says_J94 (v2 : Int32) (v3 : Int32) (v1 : Int32) (v7 : Int32) (k11 : Int32 → Int32 → Option (Int32)) (v8 : Int32) : Option (Int32) :=
  if v8 = 0 then
    X9_says_J114 v2 v3 (k11)
  else
    if v1 = (3 : Int32) then
      if v7 = (1 : Int32) then
        X9_says_J114 v2 v3 (k11)
      else
        X9_says_J110 v2 v3 (k11)
    else
      X9_says_J110 v2 v3 (k11)
def X9_says_J92 (v2 : Int32) (v3 : Int32) (v1 : Int32) (v7 : Int32) (k11 : Int32 → Int32 → Option (Int32)) (v19 : Int32) : Option (Int32) :=
  X9_says_J94 v2 v3 v1 v7 (k11) v19
def X9_says_J87 (v2 : Int32) (v3 : Int32) (v1 : Int32) (v7 : Int32) (k11 : Int32 → Int32 → Option (Int32)) : Option (Int32) :=
  X9_says_J92 v2 v3 v1 v7 (k11) (1 : Int32)
def X9_says_J67 (v2 : Int32) (v3 : Int32) (v1 : Int32) (v7 : Int32) (k11 : Int32 → Int32 → Option (Int32)) (v23 : Int32) : Option (Int32) :=
  X9_says_J94 v2 v3 v1 v7 (k11) v23
def X9_says_J62 (v2 : Int32) (v3 : Int32) (v1 : Int32) (v7 : Int32) (k11 : Int32 → Int32 → Option (Int32)) : Option (Int32) :=
  X9_says_J67 v2 v3 v1 v7 (k11) (1 : Int32)
def X9_says_J34 (f0 : (Nat → Int32)) (x1 : Int32) (v3 : Int32) (v1 : Int32) (v2 : Int32) (k11 : Int32 → Int32 → Option (Int32)) (v6 : Int32) : Option (Int32) :=
  (X9_cellsOf f0 (x1 + (1 : Int32)) v3).bind fun v7 =>
  if (4 : Int32) ≤ v1 then
    if v6 = 0 then
      (X9_cellsOf f0 (0 : Int32) v3).bind fun v21 =>
      if v21 ≤ 0 then
        X9_says_J92 v2 v3 v1 v7 (k11) (0 : Int32)
      else
        X9_says_J87 v2 v3 v1 v7 (k11)
    else
      X9_says_J87 v2 v3 v1 v7 (k11)
  else
    if v6 = 0 then
      if v7 ≤ 0 then
        X9_says_J67 v2 v3 v1 v7 (k11) (0 : Int32)
      else
        X9_says_J62 v2 v3 v1 v7 (k11)
    else
      X9_says_J62 v2 v3 v1 v7 (k11)
def X9_says_L11 (f0 : (Nat → Int32)) (x1 : Int32) (v1 : Int32) : Nat → Int32 → Int32 → Option (Int32)
  | 0, _, _ => none
  | n11 + 1, v2, v3 => if (5 : Int32) ≤ v3 then
      some v2
    else
      (X9_cellsOf f0 (-1 : Int32) v3).bind fun v5 =>
      if v5 < (12 : Int32) then
        X9_says_J34 f0 x1 v3 v1 v2 (X9_says_L11 f0 x1 v1 n11) (0 : Int32)
      else
        X9_says_J34 f0 x1 v3 v1 v2 (X9_says_L11 f0 x1 v1 n11) (1 : Int32)
def X9_says_J205 (v29 : Int32) (v30 : Int32) (f0 : (Nat → Int32)) (k156 : Int32 → Int32 → Option (Int32)) (v34 : Int32) : Option (Int32) :=
  if v34 = 0 then
    aLet (v29 ||| (0 : Int32)) fun v36 =>
    aLet (v30 + (1 : Int32)) fun v37 =>
    k156 v36 v37
  else
    (rdI f0 96 ((16 : Int32) + v30)).bind fun v38 =>
    aLet (v29 ||| ((1 : Int32) <<< (v38 &&& 31))) fun v39 =>
    aLet (v30 + (1 : Int32)) fun v40 =>
    k156 v39 v40
def X9_says_J204 (v29 : Int32) (v30 : Int32) (f0 : (Nat → Int32)) (k156 : Int32 → Int32 → Option (Int32)) : Option (Int32) :=
  X9_says_J205 v29 v30 f0 (k156) (0 : Int32)
def X9_says_L156 (v1 : Int32) (f0 : (Nat → Int32)) (x1 : Int32) : Nat → Int32 → Int32 → Option (Int32)
  | 0, _, _ => none
  | n156 + 1, v29, v30 => if (36 : Int32) ≤ v30 then
      some v29
    else
      if v1 = (5 : Int32) then
        (X9_isIn f0 v30).bind fun v33 =>
        if v33 = 0 then
          X9_says_J204 v29 v30 f0 (X9_says_L156 v1 f0 x1 n156)
        else
          (rdI f0 96 ((16 : Int32) + v30)).bind fun v42 =>
          if v42 = (5 : Int32) then
            X9_says_J204 v29 v30 f0 (X9_says_L156 v1 f0 x1 n156)
          else
            (X9_isBeside f0 v30 (x1 + (1 : Int32))).bind fun v44 =>
            if v44 = 0 then
              X9_says_J204 v29 v30 f0 (X9_says_L156 v1 f0 x1 n156)
            else
              X9_says_J205 v29 v30 f0 (X9_says_L156 v1 f0 x1 n156) (1 : Int32)
      else
        some v29
def X9_says_J153 (v1 : Int32) (f0 : (Nat → Int32)) (x1 : Int32) (v28 : Int32) : Option (Int32) :=
  (X9_says_L156 v1 f0 x1 aFu v28 (0 : Int32)).bind fun e46 =>
  some e46
def X9_says (f0 : (Nat → Int32)) (x1 : Int32) : Option (Int32) :=
  (rdI f0 96 ((5 : Int32) + x1)).bind fun v1 =>
  (X9_says_L11 f0 x1 v1 aFu (0 : Int32) (0 : Int32)).bind fun e27 =>
  if v1 = (2 : Int32) then
    aLet (e27 ||| ((e27 <<< ((1 : Int32) &&& 31)) &&& (31 : Int32))) fun v48 =>
    X9_says_J153 v1 f0 x1 v48
  else
    X9_says_J153 v1 f0 x1 e27
set_option maxRecDepth 100000 in
set_option maxHeartbeats 4000000 in
theorem X9_says_ok (l : Launch) {h : aH} {nx : Nat} {a0 : Nat} {f0 : (Nat → Int32)} {x1 : Int32} (hB0 : row_at h a0 f0) {r : Int32} (hF : X9_says f0 x1 = some r) : aOk l 3 0 0 yX9_says cX9_says 7 (some .int) [.ref a0, .int x1] h nx (aRd (.int r) h nx) := by
  refine aOk.of (by decide +kernel) (Nat.le_of_ble_eq_true rfl) (fun X G hX C R0 _ => ?_)
  subst hX
  show aV X G 7 0 [(0, .ref a0), (1, .int x1)] [] h nx 0 0
  rw [X9_says] at hF
  refine ab_aload_n C 0 rfl rfl dX9_says_0 ?_
  refine ab_iconst (v := (5 : Int32)) C dX9_says_1 (by decide) ?_
  refine ab_iload_n C 1 rfl rfl dX9_says_2 ?_
  refine ab_iadd C dX9_says_3 ?_
  obtain ⟨v1, hxv1, hF⟩ := Option.bind_eq_some_iff.mp hF
  refine ab_iald C hB0 hxv1 dX9_says_4 ?_
  refine ab_istore_n (lv' := [(2, .int v1), (0, .ref a0), (1, .int x1)]) C dX9_says_5 rfl (by decide) rfl ?_
  refine ab_iconst (v := (0 : Int32)) C dX9_says_6 (by decide) ?_
  refine ab_istore_n (lv' := [(3, .int (0 : Int32)), (2, .int v1), (0, .ref a0), (1, .int x1)]) C dX9_says_7 rfl (by decide) rfl ?_
  refine ab_iconst (v := (0 : Int32)) C dX9_says_8 (by decide) ?_
  refine ab_istore (lv' := [(4, .int (0 : Int32)), (3, .int (0 : Int32)), (2, .int v1), (0, .ref a0), (1, .int x1)]) C dX9_says_9 (by decide) rfl ?_
  have L11 : ∀ (n11 : Nat) (v2 : Int32) (v3 : Int32), ∀ (res11 : Int32), X9_says_L11 f0 x1 v1 n11 v2 v3 = some res11 → (aV X G 7 139 [(0, .ref a0), (1, .int x1), (2, .int v1), (3, .int res11)] [] h nx 0 0) → aV X G 7 11 [(0, .ref a0), (1, .int x1), (2, .int v1), (3, .int v2), (4, .int v3)] [] h nx 0 0 := by
    intro n11
    induction n11 with
    | zero => intro v2 v3 res11 hF KX11; cases (show (none : Option (Int32)) = some res11 from hF)
    | succ n11 ih11 =>
      intro v2 v3 res11 hF KX11
      rw [X9_says_L11] at hF
      refine ab_iload C 4 rfl dX9_says_11 ?_
      refine ab_iconst (v := (5 : Int32)) C dX9_says_13 (by decide) ?_
      refine ab_icmp_ge C 139 dX9_says_14 (by decide) (fun c4 => ?_) (fun c4 => ?_)
      · replace hF := (if_pos c4).symm.trans hF
        obtain rfl := Option.some.inj hF
        refine aV.sub (lv' := [(0, .ref a0), (1, .int x1), (2, .int v1), (3, .int v2)]) [0, 1, 2, 3] rfl ?_
        exact KX11
      · replace hF := (if_neg c4).symm.trans hF
        refine ab_aload_n C 0 rfl rfl dX9_says_17 ?_
        refine ab_iconst (v := (-1 : Int32)) C dX9_says_18 (by decide) ?_
        refine ab_iload C 4 rfl dX9_says_19 ?_
        obtain ⟨v5, hxv5, hF⟩ := Option.bind_eq_some_iff.mp hF
        refine ab_cSR (v := .int v5) (st := []) C lm_X9_141 (X9_cellsOf_ok (xl X) hB0 (r := v5) hxv5) rfl rfl (by decide) ⟨Nat.zero_le _, Nat.zero_le _⟩ (Nat.le_of_ble_eq_true rfl) dX9_says_21 ?_
        refine ab_bipush (v := (12 : Int32)) C dX9_says_24 (by decide) ?_
        have J34 : ∀ (v6 : Int32), X9_says_J34 f0 x1 v3 v1 v2 (X9_says_L11 f0 x1 v1 n11) v6 = some res11 → aV X G 7 34 [(0, .ref a0), (1, .int x1), (2, .int v1), (3, .int v2), (4, .int v3)] [.int v6] h nx 0 0 := by
          intro v6 hF
          rw [X9_says_J34] at hF
          refine ab_istore (lv' := [(5, .int v6), (0, .ref a0), (1, .int x1), (2, .int v1), (3, .int v2), (4, .int v3)]) C dX9_says_34 (by decide) rfl ?_
          refine ab_aload_n C 1 rfl rfl dX9_says_36 ?_
          refine ab_iload_n C 2 rfl rfl dX9_says_37 ?_
          refine ab_iconst (v := (1 : Int32)) C dX9_says_38 (by decide) ?_
          refine ab_iadd C dX9_says_39 ?_
          refine ab_iload C 5 rfl dX9_says_40 ?_
          obtain ⟨v7, hxv7, hF⟩ := Option.bind_eq_some_iff.mp hF
          refine ab_cSR (v := .int v7) (st := []) C lm_X9_141 (X9_cellsOf_ok (xl X) hB0 (r := v7) hxv7) rfl rfl (by decide) ⟨Nat.zero_le _, Nat.zero_le _⟩ (Nat.le_of_ble_eq_true rfl) dX9_says_42 ?_
          refine ab_istore (lv' := [(6, .int v7), (5, .int v6), (0, .ref a0), (1, .int x1), (2, .int v1), (3, .int v2), (4, .int v3)]) C dX9_says_45 (by decide) rfl ?_
          refine ab_iload_n C 4 rfl rfl dX9_says_47 ?_
          refine ab_iconst (v := (4 : Int32)) C dX9_says_48 (by decide) ?_
          have J94 : ∀ (v8 : Int32), X9_says_J94 v2 v3 v1 v7 (X9_says_L11 f0 x1 v1 n11) v8 = some res11 → aV X G 7 94 [(0, .ref a0), (1, .int x1), (2, .int v1), (3, .int v2), (4, .int v3), (5, .int v8), (6, .int v7)] [] h nx 0 0 := by
            intro v8 hF
            rw [X9_says_J94] at hF
            refine ab_iload C 5 rfl dX9_says_94 ?_
            have J115 : ∀ (v9 : Int32), X9_says_J115 v2 v3 (X9_says_L11 f0 x1 v1 n11) v9 = some res11 → aV X G 7 115 [(0, .ref a0), (1, .int x1), (2, .int v1), (3, .int v2), (4, .int v3)] [.int v9] h nx 0 0 := by
              intro v9 hF
              rw [X9_says_J115] at hF
              refine ab_istore (lv' := [(5, .int v9), (0, .ref a0), (1, .int x1), (2, .int v1), (3, .int v2), (4, .int v3)]) C dX9_says_115 (by decide) rfl ?_
              refine ab_iload_n C 4 rfl rfl dX9_says_117 ?_
              refine ab_iload C 0 rfl dX9_says_118 ?_
              refine ab_if_eq C 130 dX9_says_120 (by decide) (fun c10 => ?_) (fun c10 => ?_)
              · replace hF := (if_pos c10).symm.trans hF
                refine ab_iconst (v := (0 : Int32)) C dX9_says_130 (by decide) ?_
                refine ab_ior C dX9_says_131 ?_
                refine ab_topi (fun v11 qv11 => ?_)
                replace hF := aLet_e hF v11 qv11
                refine ab_istore_n (lv' := [(3, .int v11), (5, .int v9), (0, .ref a0), (1, .int x1), (2, .int v1), (4, .int v3)]) C dX9_says_132 rfl (by decide) rfl ?_
                obtain ⟨v12, qv12⟩ : ∃ y : Int32, y = (v3 + (1 : Int32)) := ⟨_, rfl⟩
                replace hF := aLet_e hF v12 qv12
                refine ab_iinc (lv' := [(4, .int v12), (3, .int v11), (5, .int v9), (0, .ref a0), (1, .int x1), (2, .int v1)]) C 5 rfl dX9_says_133 (by rw [qv12]; rfl) (by decide) rfl ?_
                refine ab_goto C 11 dX9_says_136 (by decide) ?_
                refine aV.sub (lv' := [(0, .ref a0), (1, .int x1), (2, .int v1), (3, .int v11), (4, .int v12)]) [3, 4, 5, 1, 0] rfl ?_
                exact ih11 v11 v12 res11 hF KX11
              · replace hF := (if_neg c10).symm.trans hF
                refine ab_iconst (v := (1 : Int32)) C dX9_says_123 (by decide) ?_
                refine ab_iload C 5 rfl dX9_says_124 ?_
                refine ab_ishl C dX9_says_126 ?_
                refine ab_goto C 131 dX9_says_127 (by decide) ?_
                refine ab_ior C dX9_says_131 ?_
                refine ab_topi (fun v13 qv13 => ?_)
                replace hF := aLet_e hF v13 qv13
                refine ab_istore_n (lv' := [(3, .int v13), (5, .int v9), (0, .ref a0), (1, .int x1), (2, .int v1), (4, .int v3)]) C dX9_says_132 rfl (by decide) rfl ?_
                obtain ⟨v14, qv14⟩ : ∃ y : Int32, y = (v3 + (1 : Int32)) := ⟨_, rfl⟩
                replace hF := aLet_e hF v14 qv14
                refine ab_iinc (lv' := [(4, .int v14), (3, .int v13), (5, .int v9), (0, .ref a0), (1, .int x1), (2, .int v1)]) C 5 rfl dX9_says_133 (by rw [qv14]; rfl) (by decide) rfl ?_
                refine ab_goto C 11 dX9_says_136 (by decide) ?_
                refine aV.sub (lv' := [(0, .ref a0), (1, .int x1), (2, .int v1), (3, .int v13), (4, .int v14)]) [3, 4, 5, 1, 0] rfl ?_
                exact ih11 v13 v14 res11 hF KX11
            have J114 : X9_says_J114 v2 v3 (X9_says_L11 f0 x1 v1 n11) = some res11 → aV X G 7 114 [(0, .ref a0), (1, .int x1), (2, .int v1), (3, .int v2), (4, .int v3)] [] h nx 0 0 := by
              intro  hF
              rw [X9_says_J114] at hF
              refine ab_iconst (v := (0 : Int32)) C dX9_says_114 (by decide) ?_
              exact J115 (0 : Int32) hF
            refine ab_if_eq C 114 dX9_says_96 (by decide) (fun c15 => ?_) (fun c15 => ?_)
            · replace hF := (if_pos c15).symm.trans hF
              refine aV.sub (lv' := [(0, .ref a0), (1, .int x1), (2, .int v1), (3, .int v2), (4, .int v3)]) [0, 1, 2, 3, 4] rfl ?_
              exact J114 hF
            · replace hF := (if_neg c15).symm.trans hF
              refine ab_iload_n C 2 rfl rfl dX9_says_99 ?_
              refine ab_iconst (v := (3 : Int32)) C dX9_says_100 (by decide) ?_
              have J110 : X9_says_J110 v2 v3 (X9_says_L11 f0 x1 v1 n11) = some res11 → aV X G 7 110 [(0, .ref a0), (1, .int x1), (2, .int v1), (3, .int v2), (4, .int v3)] [] h nx 0 0 := by
                intro  hF
                rw [X9_says_J110] at hF
                refine ab_iconst (v := (1 : Int32)) C dX9_says_110 (by decide) ?_
                refine ab_goto C 115 dX9_says_111 (by decide) ?_
                exact J115 (1 : Int32) hF
              refine ab_icmp_ne C 110 dX9_says_101 (by decide) (fun c16 => ?_) (fun c16 => ?_)
              · replace hF := (if_neg c16).symm.trans hF
                refine aV.sub (lv' := [(0, .ref a0), (1, .int x1), (2, .int v1), (3, .int v2), (4, .int v3)]) [0, 1, 2, 3, 4] rfl ?_
                exact J110 hF
              · replace hF := (if_pos c16).symm.trans hF
                refine ab_iload C 6 rfl dX9_says_104 ?_
                refine ab_iconst (v := (1 : Int32)) C dX9_says_106 (by decide) ?_
                refine ab_icmp_eq C 114 dX9_says_107 (by decide) (fun c17 => ?_) (fun c17 => ?_)
                · replace hF := (if_pos c17).symm.trans hF
                  refine aV.sub (lv' := [(0, .ref a0), (1, .int x1), (2, .int v1), (3, .int v2), (4, .int v3)]) [0, 1, 2, 3, 4] rfl ?_
                  exact J114 hF
                · replace hF := (if_neg c17).symm.trans hF
                  refine aV.sub (lv' := [(0, .ref a0), (1, .int x1), (2, .int v1), (3, .int v2), (4, .int v3)]) [0, 1, 2, 3, 4] rfl ?_
                  exact J110 hF
          refine ab_icmp_ge C 72 dX9_says_49 (by decide) (fun c18 => ?_) (fun c18 => ?_)
          · replace hF := (if_pos c18).symm.trans hF
            refine ab_iload C 1 rfl dX9_says_72 ?_
            have J92 : ∀ (v19 : Int32), X9_says_J92 v2 v3 v1 v7 (X9_says_L11 f0 x1 v1 n11) v19 = some res11 → aV X G 7 92 [(0, .ref a0), (1, .int x1), (2, .int v1), (3, .int v2), (4, .int v3), (6, .int v7)] [.int v19] h nx 0 0 := by
              intro v19 hF
              rw [X9_says_J92] at hF
              refine ab_istore (lv' := [(5, .int v19), (0, .ref a0), (1, .int x1), (2, .int v1), (3, .int v2), (4, .int v3), (6, .int v7)]) C dX9_says_92 (by decide) rfl ?_
              refine aV.sub (lv' := [(0, .ref a0), (1, .int x1), (2, .int v1), (3, .int v2), (4, .int v3), (5, .int v19), (6, .int v7)]) [1, 2, 3, 4, 5, 0, 6] rfl ?_
              exact J94 v19 hF
            have J87 : X9_says_J87 v2 v3 v1 v7 (X9_says_L11 f0 x1 v1 n11) = some res11 → aV X G 7 87 [(0, .ref a0), (1, .int x1), (2, .int v1), (3, .int v2), (4, .int v3), (6, .int v7)] [] h nx 0 0 := by
              intro  hF
              rw [X9_says_J87] at hF
              refine ab_iconst (v := (1 : Int32)) C dX9_says_87 (by decide) ?_
              refine ab_goto C 92 dX9_says_88 (by decide) ?_
              exact J92 (1 : Int32) hF
            refine ab_if_ne C 87 dX9_says_74 (by decide) (fun c20 => ?_) (fun c20 => ?_)
            · replace hF := (if_neg c20).symm.trans hF
              refine aV.sub (lv' := [(0, .ref a0), (1, .int x1), (2, .int v1), (3, .int v2), (4, .int v3), (6, .int v7)]) [2, 3, 4, 5, 6, 0] rfl ?_
              exact J87 hF
            · replace hF := (if_pos c20).symm.trans hF
              refine ab_aload_n C 2 rfl rfl dX9_says_77 ?_
              refine ab_iconst (v := (0 : Int32)) C dX9_says_78 (by decide) ?_
              refine ab_iload C 6 rfl dX9_says_79 ?_
              obtain ⟨v21, hxv21, hF⟩ := Option.bind_eq_some_iff.mp hF
              refine ab_cSR (v := .int v21) (st := []) C lm_X9_141 (X9_cellsOf_ok (xl X) hB0 (r := v21) hxv21) rfl rfl (by decide) ⟨Nat.zero_le _, Nat.zero_le _⟩ (Nat.le_of_ble_eq_true rfl) dX9_says_81 ?_
              refine ab_if_le C 91 dX9_says_84 (by decide) (fun c22 => ?_) (fun c22 => ?_)
              · replace hF := (if_pos c22).symm.trans hF
                refine ab_iconst (v := (0 : Int32)) C dX9_says_91 (by decide) ?_
                refine aV.sub (lv' := [(0, .ref a0), (1, .int x1), (2, .int v1), (3, .int v2), (4, .int v3), (6, .int v7)]) [2, 3, 4, 5, 6, 0] rfl ?_
                exact J92 (0 : Int32) hF
              · replace hF := (if_neg c22).symm.trans hF
                refine aV.sub (lv' := [(0, .ref a0), (1, .int x1), (2, .int v1), (3, .int v2), (4, .int v3), (6, .int v7)]) [2, 3, 4, 5, 6, 0] rfl ?_
                exact J87 hF
          · replace hF := (if_neg c18).symm.trans hF
            refine ab_iload C 1 rfl dX9_says_52 ?_
            have J67 : ∀ (v23 : Int32), X9_says_J67 v2 v3 v1 v7 (X9_says_L11 f0 x1 v1 n11) v23 = some res11 → aV X G 7 67 [(0, .ref a0), (1, .int x1), (2, .int v1), (3, .int v2), (4, .int v3), (6, .int v7)] [.int v23] h nx 0 0 := by
              intro v23 hF
              rw [X9_says_J67] at hF
              refine ab_istore (lv' := [(5, .int v23), (0, .ref a0), (1, .int x1), (2, .int v1), (3, .int v2), (4, .int v3), (6, .int v7)]) C dX9_says_67 (by decide) rfl ?_
              refine ab_goto C 94 dX9_says_69 (by decide) ?_
              refine aV.sub (lv' := [(0, .ref a0), (1, .int x1), (2, .int v1), (3, .int v2), (4, .int v3), (5, .int v23), (6, .int v7)]) [1, 2, 3, 4, 5, 0, 6] rfl ?_
              exact J94 v23 hF
            have J62 : X9_says_J62 v2 v3 v1 v7 (X9_says_L11 f0 x1 v1 n11) = some res11 → aV X G 7 62 [(0, .ref a0), (1, .int x1), (2, .int v1), (3, .int v2), (4, .int v3), (6, .int v7)] [] h nx 0 0 := by
              intro  hF
              rw [X9_says_J62] at hF
              refine ab_iconst (v := (1 : Int32)) C dX9_says_62 (by decide) ?_
              refine ab_goto C 67 dX9_says_63 (by decide) ?_
              exact J67 (1 : Int32) hF
            refine ab_if_ne C 62 dX9_says_54 (by decide) (fun c24 => ?_) (fun c24 => ?_)
            · replace hF := (if_neg c24).symm.trans hF
              refine aV.sub (lv' := [(0, .ref a0), (1, .int x1), (2, .int v1), (3, .int v2), (4, .int v3), (6, .int v7)]) [2, 3, 4, 5, 6, 0] rfl ?_
              exact J62 hF
            · replace hF := (if_pos c24).symm.trans hF
              refine ab_iload C 0 rfl dX9_says_57 ?_
              refine ab_if_le C 66 dX9_says_59 (by decide) (fun c25 => ?_) (fun c25 => ?_)
              · replace hF := (if_pos c25).symm.trans hF
                refine ab_iconst (v := (0 : Int32)) C dX9_says_66 (by decide) ?_
                refine aV.sub (lv' := [(0, .ref a0), (1, .int x1), (2, .int v1), (3, .int v2), (4, .int v3), (6, .int v7)]) [2, 3, 4, 5, 6, 0] rfl ?_
                exact J67 (0 : Int32) hF
              · replace hF := (if_neg c25).symm.trans hF
                refine aV.sub (lv' := [(0, .ref a0), (1, .int x1), (2, .int v1), (3, .int v2), (4, .int v3), (6, .int v7)]) [2, 3, 4, 5, 6, 0] rfl ?_
                exact J62 hF
        refine ab_icmp_lt C 33 dX9_says_26 (by decide) (fun c26 => ?_) (fun c26 => ?_)
        · replace hF := (if_pos c26).symm.trans hF
          refine ab_iconst (v := (0 : Int32)) C dX9_says_33 (by decide) ?_
          exact J34 (0 : Int32) hF
        · replace hF := (if_neg c26).symm.trans hF
          refine ab_iconst (v := (1 : Int32)) C dX9_says_29 (by decide) ?_
          refine ab_goto C 34 dX9_says_30 (by decide) ?_
          exact J34 (1 : Int32) hF
  refine aV.sub (lv' := [(0, .ref a0), (1, .int x1), (2, .int v1), (3, .int (0 : Int32)), (4, .int (0 : Int32))]) [3, 4, 2, 1, 0] rfl ?_
  obtain ⟨e27, he27, hF⟩ := Option.bind_eq_some_iff.mp hF
  refine L11 aFu (0 : Int32) (0 : Int32) e27 he27 ?_
  refine ab_iload_n C 2 rfl rfl dX9_says_139 ?_
  refine ab_iconst (v := (2 : Int32)) C dX9_says_140 (by decide) ?_
  have J153 : ∀ (v28 : Int32), X9_says_J153 v1 f0 x1 v28 = some r → aV X G 7 153 [(0, .ref a0), (1, .int x1), (2, .int v1), (3, .int v28)] [] h nx 0 0 := by
    intro v28 hF
    rw [X9_says_J153] at hF
    refine ab_iconst (v := (0 : Int32)) C dX9_says_153 (by decide) ?_
    refine ab_istore (lv' := [(4, .int (0 : Int32)), (0, .ref a0), (1, .int x1), (2, .int v1), (3, .int v28)]) C dX9_says_154 (by decide) rfl ?_
    have L156 : ∀ (n156 : Nat) (v29 : Int32) (v30 : Int32), ∀ (res156 : Int32), X9_says_L156 v1 f0 x1 n156 v29 v30 = some res156 → (aV X G 7 234 [(3, .int res156)] [] h nx 0 0) → aV X G 7 156 [(0, .ref a0), (1, .int x1), (2, .int v1), (3, .int v29), (4, .int v30)] [] h nx 0 0 := by
      intro n156
      induction n156 with
      | zero => intro v29 v30 res156 hF KX156; cases (show (none : Option (Int32)) = some res156 from hF)
      | succ n156 ih156 =>
        intro v29 v30 res156 hF KX156
        rw [X9_says_L156] at hF
        refine ab_iload C 4 rfl dX9_says_156 ?_
        refine ab_bipush (v := (36 : Int32)) C dX9_says_158 (by decide) ?_
        refine ab_icmp_ge C 234 dX9_says_160 (by decide) (fun c31 => ?_) (fun c31 => ?_)
        · replace hF := (if_pos c31).symm.trans hF
          obtain rfl := Option.some.inj hF
          refine aV.sub (lv' := [(3, .int v29)]) [3] rfl ?_
          exact KX156
        · replace hF := (if_neg c31).symm.trans hF
          refine ab_iload_n C 2 rfl rfl dX9_says_163 ?_
          refine ab_iconst (v := (5 : Int32)) C dX9_says_164 (by decide) ?_
          refine ab_icmp_ne C 234 dX9_says_165 (by decide) (fun c32 => ?_) (fun c32 => ?_)
          · replace hF := (if_neg c32).symm.trans hF
            obtain rfl := Option.some.inj hF
            refine aV.sub (lv' := [(3, .int v29)]) [3] rfl ?_
            exact KX156
          · replace hF := (if_pos c32).symm.trans hF
            refine ab_aload_n C 0 rfl rfl dX9_says_168 ?_
            refine ab_iload C 4 rfl dX9_says_169 ?_
            obtain ⟨v33, hxv33, hF⟩ := Option.bind_eq_some_iff.mp hF
            refine ab_cSR (v := .int v33) (st := []) C lm_X9_133 (X9_isIn_ok (xl X) hB0 (r := v33) hxv33) rfl rfl (by decide) ⟨Nat.zero_le _, Nat.zero_le _⟩ (Nat.le_of_ble_eq_true rfl) dX9_says_171 ?_
            have J205 : ∀ (v34 : Int32), X9_says_J205 v29 v30 f0 (X9_says_L156 v1 f0 x1 n156) v34 = some res156 → aV X G 7 205 [(0, .ref a0), (1, .int x1), (2, .int v1), (3, .int v29), (4, .int v30)] [.int v34] h nx 0 0 := by
              intro v34 hF
              rw [X9_says_J205] at hF
              refine ab_istore (lv' := [(5, .int v34), (0, .ref a0), (1, .int x1), (2, .int v1), (3, .int v29), (4, .int v30)]) C dX9_says_205 (by decide) rfl ?_
              refine ab_iload_n C 4 rfl rfl dX9_says_207 ?_
              refine ab_iload C 0 rfl dX9_says_208 ?_
              refine ab_if_eq C 225 dX9_says_210 (by decide) (fun c35 => ?_) (fun c35 => ?_)
              · replace hF := (if_pos c35).symm.trans hF
                refine ab_iconst (v := (0 : Int32)) C dX9_says_225 (by decide) ?_
                refine ab_ior C dX9_says_226 ?_
                refine ab_topi (fun v36 qv36 => ?_)
                replace hF := aLet_e hF v36 qv36
                refine ab_istore_n (lv' := [(3, .int v36), (5, .int v34), (0, .ref a0), (1, .int x1), (2, .int v1), (4, .int v30)]) C dX9_says_227 rfl (by decide) rfl ?_
                obtain ⟨v37, qv37⟩ : ∃ y : Int32, y = (v30 + (1 : Int32)) := ⟨_, rfl⟩
                replace hF := aLet_e hF v37 qv37
                refine ab_iinc (lv' := [(4, .int v37), (3, .int v36), (5, .int v34), (0, .ref a0), (1, .int x1), (2, .int v1)]) C 5 rfl dX9_says_228 (by rw [qv37]; rfl) (by decide) rfl ?_
                refine ab_goto C 156 dX9_says_231 (by decide) ?_
                refine aV.sub (lv' := [(0, .ref a0), (1, .int x1), (2, .int v1), (3, .int v36), (4, .int v37)]) [3, 4, 5, 1, 0] rfl ?_
                exact ih156 v36 v37 res156 hF KX156
              · replace hF := (if_neg c35).symm.trans hF
                refine ab_iconst (v := (1 : Int32)) C dX9_says_213 (by decide) ?_
                refine ab_aload_n C 1 rfl rfl dX9_says_214 ?_
                refine ab_bipush (v := (16 : Int32)) C dX9_says_215 (by decide) ?_
                refine ab_iload C 5 rfl dX9_says_217 ?_
                refine ab_iadd C dX9_says_219 ?_
                obtain ⟨v38, hxv38, hF⟩ := Option.bind_eq_some_iff.mp hF
                refine ab_iald C hB0 hxv38 dX9_says_220 ?_
                refine ab_ishl C dX9_says_221 ?_
                refine ab_goto C 226 dX9_says_222 (by decide) ?_
                refine ab_ior C dX9_says_226 ?_
                refine ab_topi (fun v39 qv39 => ?_)
                replace hF := aLet_e hF v39 qv39
                refine ab_istore_n (lv' := [(3, .int v39), (5, .int v34), (0, .ref a0), (1, .int x1), (2, .int v1), (4, .int v30)]) C dX9_says_227 rfl (by decide) rfl ?_
                obtain ⟨v40, qv40⟩ : ∃ y : Int32, y = (v30 + (1 : Int32)) := ⟨_, rfl⟩
                replace hF := aLet_e hF v40 qv40
                refine ab_iinc (lv' := [(4, .int v40), (3, .int v39), (5, .int v34), (0, .ref a0), (1, .int x1), (2, .int v1)]) C 5 rfl dX9_says_228 (by rw [qv40]; rfl) (by decide) rfl ?_
                refine ab_goto C 156 dX9_says_231 (by decide) ?_
                refine aV.sub (lv' := [(0, .ref a0), (1, .int x1), (2, .int v1), (3, .int v39), (4, .int v40)]) [3, 4, 5, 1, 0] rfl ?_
                exact ih156 v39 v40 res156 hF KX156
            have J204 : X9_says_J204 v29 v30 f0 (X9_says_L156 v1 f0 x1 n156) = some res156 → aV X G 7 204 [(0, .ref a0), (1, .int x1), (2, .int v1), (3, .int v29), (4, .int v30)] [] h nx 0 0 := by
              intro  hF
              rw [X9_says_J204] at hF
              refine ab_iconst (v := (0 : Int32)) C dX9_says_204 (by decide) ?_
              exact J205 (0 : Int32) hF
            refine ab_if_eq C 204 dX9_says_174 (by decide) (fun c41 => ?_) (fun c41 => ?_)
            · replace hF := (if_pos c41).symm.trans hF
              exact J204 hF
            · replace hF := (if_neg c41).symm.trans hF
              refine ab_aload_n C 0 rfl rfl dX9_says_177 ?_
              refine ab_bipush (v := (16 : Int32)) C dX9_says_178 (by decide) ?_
              refine ab_iload C 4 rfl dX9_says_180 ?_
              refine ab_iadd C dX9_says_182 ?_
              obtain ⟨v42, hxv42, hF⟩ := Option.bind_eq_some_iff.mp hF
              refine ab_iald C hB0 hxv42 dX9_says_183 ?_
              refine ab_iconst (v := (5 : Int32)) C dX9_says_184 (by decide) ?_
              refine ab_icmp_eq C 204 dX9_says_185 (by decide) (fun c43 => ?_) (fun c43 => ?_)
              · replace hF := (if_pos c43).symm.trans hF
                exact J204 hF
              · replace hF := (if_neg c43).symm.trans hF
                refine ab_aload_n C 0 rfl rfl dX9_says_188 ?_
                refine ab_iload C 4 rfl dX9_says_189 ?_
                refine ab_iload_n C 1 rfl rfl dX9_says_191 ?_
                refine ab_iconst (v := (1 : Int32)) C dX9_says_192 (by decide) ?_
                refine ab_iadd C dX9_says_193 ?_
                obtain ⟨v44, hxv44, hF⟩ := Option.bind_eq_some_iff.mp hF
                refine ab_cSR (v := .int v44) (st := []) C lm_X9_145 (X9_isBeside_ok (xl X) hB0 (r := v44) hxv44) rfl rfl (by decide) ⟨Nat.zero_le _, Nat.zero_le _⟩ (Nat.le_of_ble_eq_true rfl) dX9_says_194 ?_
                refine ab_if_eq C 204 dX9_says_197 (by decide) (fun c45 => ?_) (fun c45 => ?_)
                · replace hF := (if_pos c45).symm.trans hF
                  exact J204 hF
                · replace hF := (if_neg c45).symm.trans hF
                  refine ab_iconst (v := (1 : Int32)) C dX9_says_200 (by decide) ?_
                  refine ab_goto C 205 dX9_says_201 (by decide) ?_
                  exact J205 (1 : Int32) hF
    refine aV.sub (lv' := [(0, .ref a0), (1, .int x1), (2, .int v1), (3, .int v28), (4, .int (0 : Int32))]) [1, 2, 3, 4, 0] rfl ?_
    obtain ⟨e46, he46, hF⟩ := Option.bind_eq_some_iff.mp hF
    refine L156 aFu v28 (0 : Int32) e46 he46 ?_
    refine ab_iload_n C 0 rfl rfl dX9_says_234 ?_
    obtain rfl := Option.some.inj hF
    exact ab_iret C R0 rfl dX9_says_235 ⟨rfl, rfl, rfl⟩
  refine ab_icmp_ne C 153 dX9_says_141 (by decide) (fun c47 => ?_) (fun c47 => ?_)
  · replace hF := (if_neg c47).symm.trans hF
    exact J153 e27 hF
  · replace hF := (if_pos c47).symm.trans hF
    refine ab_iload_n C 3 rfl rfl dX9_says_144 ?_
    refine ab_iload_n C 3 rfl rfl dX9_says_145 ?_
    refine ab_iconst (v := (1 : Int32)) C dX9_says_146 (by decide) ?_
    refine ab_ishl C dX9_says_147 ?_
    refine ab_bipush (v := (31 : Int32)) C dX9_says_148 (by decide) ?_
    refine ab_iand C dX9_says_150 ?_
    refine ab_ior C dX9_says_151 ?_
    refine ab_topi (fun v48 qv48 => ?_)
    replace hF := aLet_e hF v48 qv48
    refine ab_istore_n (lv' := [(3, .int v48), (0, .ref a0), (1, .int x1), (2, .int v1)]) C dX9_says_152 rfl (by decide) rfl ?_
    refine aV.sub (lv' := [(0, .ref a0), (1, .int x1), (2, .int v1), (3, .int v48)]) [1, 2, 3, 0] rfl ?_
    exact J153 v48 hF
theorem dX9_can_0 : decode cX9_can 0 = .ok (.aload_n 0, 1) := by decide +kernel
theorem dX9_can_1 : decode cX9_can 1 = .ok (.bipush 88, 2) := by decide +kernel
theorem dX9_can_3 : decode cX9_can 3 = .ok (.iconst 2, 1) := by decide +kernel
theorem dX9_can_4 : decode cX9_can 4 = .ok (.iload_n 2, 1) := by decide +kernel
theorem dX9_can_5 : decode cX9_can 5 = .ok (.imul, 1) := by decide +kernel
theorem dX9_can_6 : decode cX9_can 6 = .ok (.iadd, 1) := by decide +kernel
theorem dX9_can_7 : decode cX9_can 7 = .ok (.iconst 1, 1) := by decide +kernel
theorem dX9_can_8 : decode cX9_can 8 = .ok (.iadd, 1) := by decide +kernel
theorem dX9_can_9 : decode cX9_can 9 = .ok (.iaload, 1) := by decide +kernel
theorem dX9_can_10 : decode cX9_can 10 = .ok (.aload_n 0, 1) := by decide +kernel
theorem dX9_can_11 : decode cX9_can 11 = .ok (.iload_n 1, 1) := by decide +kernel
theorem dX9_can_12 : decode cX9_can 12 = .ok (.invokestatic 149, 3) := by decide +kernel
theorem dX9_can_15 : decode cX9_can 15 = .ok (.iconst (-1), 1) := by decide +kernel
theorem dX9_can_16 : decode cX9_can 16 = .ok (.ixor, 1) := by decide +kernel
theorem dX9_can_17 : decode cX9_can 17 = .ok (.iand, 1) := by decide +kernel
theorem dX9_can_18 : decode cX9_can 18 = .ok (.ifCond .ne 7, 3) := by decide +kernel
theorem dX9_can_21 : decode cX9_can 21 = .ok (.iconst 1, 1) := by decide +kernel
theorem dX9_can_22 : decode cX9_can 22 = .ok (.goto 4, 3) := by decide +kernel
theorem dX9_can_25 : decode cX9_can 25 = .ok (.iconst 0, 1) := by decide +kernel
theorem dX9_can_26 : decode cX9_can 26 = .ok (.ireturn, 1) := by decide +kernel
def X9_can (f0 : (Nat → Int32)) (x1 : Int32) (x2 : Int32) : Option (Int32) :=
  (rdI f0 96 (((88 : Int32) + ((2 : Int32) * x2)) + (1 : Int32))).bind fun v1 =>
  (X9_says f0 x1).bind fun v2 =>
  if (v1 &&& (v2 ^^^ (-1 : Int32))) = 0 then
    some (1 : Int32)
  else
    some (0 : Int32)
set_option maxRecDepth 100000 in
set_option maxHeartbeats 4000000 in
theorem X9_can_ok (l : Launch) {h : aH} {nx : Nat} {a0 : Nat} {f0 : (Nat → Int32)} {x1 : Int32} {x2 : Int32} (hB0 : row_at h a0 f0) {r : Int32} (hF : X9_can f0 x1 x2 = some r) : aOk l 4 0 0 yX9_can cX9_can 3 (some .boolean) [.ref a0, .int x1, .int x2] h nx (aRd (.int r) h nx) := by
  refine aOk.of (by decide +kernel) (Nat.le_of_ble_eq_true rfl) (fun X G hX C R0 _ => ?_)
  subst hX
  show aV X G 3 0 [(0, .ref a0), (1, .int x1), (2, .int x2)] [] h nx 0 0
  rw [X9_can] at hF
  refine ab_aload_n C 0 rfl rfl dX9_can_0 ?_
  refine ab_bipush (v := (88 : Int32)) C dX9_can_1 (by decide) ?_
  refine ab_iconst (v := (2 : Int32)) C dX9_can_3 (by decide) ?_
  refine ab_iload_n C 2 rfl rfl dX9_can_4 ?_
  refine ab_imul C dX9_can_5 ?_
  refine ab_iadd C dX9_can_6 ?_
  refine ab_iconst (v := (1 : Int32)) C dX9_can_7 (by decide) ?_
  refine ab_iadd C dX9_can_8 ?_
  obtain ⟨v1, hxv1, hF⟩ := Option.bind_eq_some_iff.mp hF
  refine ab_iald C hB0 hxv1 dX9_can_9 ?_
  refine ab_aload_n C 0 rfl rfl dX9_can_10 ?_
  refine ab_iload_n C 1 rfl rfl dX9_can_11 ?_
  obtain ⟨v2, hxv2, hF⟩ := Option.bind_eq_some_iff.mp hF
  refine ab_cSR (v := .int v2) (st := [.int v1]) C lm_X9_149 (X9_says_ok (xl X) hB0 (r := v2) hxv2) rfl rfl (by decide) ⟨Nat.zero_le _, Nat.zero_le _⟩ (Nat.le_of_ble_eq_true rfl) dX9_can_12 ?_
  refine ab_iconst (v := (-1 : Int32)) C dX9_can_15 (by decide) ?_
  refine ab_ixor C dX9_can_16 ?_
  refine ab_iand C dX9_can_17 ?_
  refine ab_if_ne C 25 dX9_can_18 (by decide) (fun c3 => ?_) (fun c3 => ?_)
  · replace hF := (if_neg c3).symm.trans hF
    refine ab_iconst (v := (0 : Int32)) C dX9_can_25 (by decide) ?_
    obtain rfl := Option.some.inj hF
    exact ab_iret C R0 rfl dX9_can_26 ⟨rfl, rfl, rfl⟩
  · replace hF := (if_pos c3).symm.trans hF
    refine ab_iconst (v := (1 : Int32)) C dX9_can_21 (by decide) ?_
    refine ab_goto C 26 dX9_can_22 (by decide) ?_
    obtain rfl := Option.some.inj hF
    exact ab_iret C R0 rfl dX9_can_26 ⟨rfl, rfl, rfl⟩
theorem dX9_goOn_0 : decode cX9_goOn 0 = .ok (.iconst 0, 1) := by decide +kernel
theorem dX9_goOn_1 : decode cX9_goOn 1 = .ok (.istore_n 1, 1) := by decide +kernel
theorem dX9_goOn_2 : decode cX9_goOn 2 = .ok (.iconst 0, 1) := by decide +kernel
theorem dX9_goOn_3 : decode cX9_goOn 3 = .ok (.istore_n 2, 1) := by decide +kernel
theorem dX9_goOn_4 : decode cX9_goOn 4 = .ok (.iload_n 2, 1) := by decide +kernel
theorem dX9_goOn_5 : decode cX9_goOn 5 = .ok (.bipush 36, 2) := by decide +kernel
theorem dX9_goOn_7 : decode cX9_goOn 7 = .ok (.if_icmp .ge 64, 3) := by decide +kernel
theorem dX9_goOn_10 : decode cX9_goOn 10 = .ok (.aload_n 0, 1) := by decide +kernel
theorem dX9_goOn_11 : decode cX9_goOn 11 = .ok (.iload_n 2, 1) := by decide +kernel
theorem dX9_goOn_12 : decode cX9_goOn 12 = .ok (.invokestatic 133, 3) := by decide +kernel
theorem dX9_goOn_15 : decode cX9_goOn 15 = .ok (.ifCond .eq 50, 3) := by decide +kernel
theorem dX9_goOn_18 : decode cX9_goOn 18 = .ok (.aload_n 0, 1) := by decide +kernel
theorem dX9_goOn_19 : decode cX9_goOn 19 = .ok (.bipush 16, 2) := by decide +kernel
theorem dX9_goOn_21 : decode cX9_goOn 21 = .ok (.iload_n 2, 1) := by decide +kernel
theorem dX9_goOn_22 : decode cX9_goOn 22 = .ok (.iadd, 1) := by decide +kernel
theorem dX9_goOn_23 : decode cX9_goOn 23 = .ok (.iaload, 1) := by decide +kernel
theorem dX9_goOn_24 : decode cX9_goOn 24 = .ok (.iconst 5, 1) := by decide +kernel
theorem dX9_goOn_25 : decode cX9_goOn 25 = .ok (.if_icmp .eq 40, 3) := by decide +kernel
theorem dX9_goOn_28 : decode cX9_goOn 28 = .ok (.aload_n 0, 1) := by decide +kernel
theorem dX9_goOn_29 : decode cX9_goOn 29 = .ok (.bipush 11, 2) := by decide +kernel
theorem dX9_goOn_31 : decode cX9_goOn 31 = .ok (.aload_n 0, 1) := by decide +kernel
theorem dX9_goOn_32 : decode cX9_goOn 32 = .ok (.bipush 16, 2) := by decide +kernel
theorem dX9_goOn_34 : decode cX9_goOn 34 = .ok (.iload_n 2, 1) := by decide +kernel
theorem dX9_goOn_35 : decode cX9_goOn 35 = .ok (.iadd, 1) := by decide +kernel
theorem dX9_goOn_36 : decode cX9_goOn 36 = .ok (.iaload, 1) := by decide +kernel
theorem dX9_goOn_37 : decode cX9_goOn 37 = .ok (.iadd, 1) := by decide +kernel
theorem dX9_goOn_38 : decode cX9_goOn 38 = .ok (.iaload, 1) := by decide +kernel
theorem dX9_goOn_39 : decode cX9_goOn 39 = .ok (.istore_n 3, 1) := by decide +kernel
theorem dX9_goOn_40 : decode cX9_goOn 40 = .ok (.iload_n 1, 1) := by decide +kernel
theorem dX9_goOn_41 : decode cX9_goOn 41 = .ok (.iload_n 3, 1) := by decide +kernel
theorem dX9_goOn_42 : decode cX9_goOn 42 = .ok (.aload_n 0, 1) := by decide +kernel
theorem dX9_goOn_43 : decode cX9_goOn 43 = .ok (.bipush 16, 2) := by decide +kernel
theorem dX9_goOn_45 : decode cX9_goOn 45 = .ok (.iload_n 2, 1) := by decide +kernel
theorem dX9_goOn_46 : decode cX9_goOn 46 = .ok (.iadd, 1) := by decide +kernel
theorem dX9_goOn_47 : decode cX9_goOn 47 = .ok (.iaload, 1) := by decide +kernel
theorem dX9_goOn_48 : decode cX9_goOn 48 = .ok (.if_icmp .ne 7, 3) := by decide +kernel
theorem dX9_goOn_51 : decode cX9_goOn 51 = .ok (.iconst 0, 1) := by decide +kernel
theorem dX9_goOn_52 : decode cX9_goOn 52 = .ok (.goto 4, 3) := by decide +kernel
theorem dX9_goOn_55 : decode cX9_goOn 55 = .ok (.iconst 1, 1) := by decide +kernel
theorem dX9_goOn_56 : decode cX9_goOn 56 = .ok (.iadd, 1) := by decide +kernel
theorem dX9_goOn_57 : decode cX9_goOn 57 = .ok (.istore_n 1, 1) := by decide +kernel
theorem dX9_goOn_58 : decode cX9_goOn 58 = .ok (.aload_n 0, 1) := by decide +kernel
theorem dX9_goOn_59 : decode cX9_goOn 59 = .ok (.bipush 16, 2) := by decide +kernel
theorem dX9_goOn_61 : decode cX9_goOn 61 = .ok (.iload_n 2, 1) := by decide +kernel
theorem dX9_goOn_62 : decode cX9_goOn 62 = .ok (.iadd, 1) := by decide +kernel
theorem dX9_goOn_63 : decode cX9_goOn 63 = .ok (.iload_n 3, 1) := by decide +kernel
theorem dX9_goOn_64 : decode cX9_goOn 64 = .ok (.iastore, 1) := by decide +kernel
theorem dX9_goOn_65 : decode cX9_goOn 65 = .ok (.iinc 2 1, 3) := by decide +kernel
theorem dX9_goOn_68 : decode cX9_goOn 68 = .ok (.goto (-64), 3) := by decide +kernel
theorem dX9_goOn_71 : decode cX9_goOn 71 = .ok (.aload_n 0, 1) := by decide +kernel
theorem dX9_goOn_72 : decode cX9_goOn 72 = .ok (.iconst 3, 1) := by decide +kernel
theorem dX9_goOn_73 : decode cX9_goOn 73 = .ok (.dup2, 1) := by decide +kernel
theorem dX9_goOn_74 : decode cX9_goOn 74 = .ok (.iaload, 1) := by decide +kernel
theorem dX9_goOn_75 : decode cX9_goOn 75 = .ok (.iconst 1, 1) := by decide +kernel
theorem dX9_goOn_76 : decode cX9_goOn 76 = .ok (.iadd, 1) := by decide +kernel
theorem dX9_goOn_77 : decode cX9_goOn 77 = .ok (.iastore, 1) := by decide +kernel
theorem dX9_goOn_78 : decode cX9_goOn 78 = .ok (.iload_n 1, 1) := by decide +kernel
theorem dX9_goOn_79 : decode cX9_goOn 79 = .ok (.ireturn, 1) := by decide +kernel
def X9_goOn_L4 : Nat → Int32 → Int32 → (Nat → Int32) → Option (Int32 × (Nat → Int32))
  | 0, _, _, _ => none
  | n4 + 1, v1, v2, Z3 => if (36 : Int32) ≤ v2 then
      some (v1, Z3)
    else
      (X9_isIn Z3 v2).bind fun v6 =>
      if v6 = 0 then
        aLet (v2 + (1 : Int32)) fun v8 =>
        X9_goOn_L4 n4 v1 v8 Z3
      else
        (rdI Z3 96 ((16 : Int32) + v2)).bind fun v9 =>
        if v9 = (5 : Int32) then
          aLet (v2 + (1 : Int32)) fun v11 =>
          X9_goOn_L4 n4 v1 v11 Z3
        else
          (rdI Z3 96 ((16 : Int32) + v2)).bind fun v12 =>
          (rdI Z3 96 ((11 : Int32) + v12)).bind fun v13 =>
          (rdI Z3 96 ((16 : Int32) + v2)).bind fun v14 =>
          if v13 = v14 then
            aLet (v1 + (0 : Int32)) fun v20 =>
            (wrI Z3 96 ((16 : Int32) + v2) v13).bind fun w21 =>
            aLet (v2 + (1 : Int32)) fun v23 =>
            X9_goOn_L4 n4 v20 v23 w21
          else
            aLet (v1 + (1 : Int32)) fun v16 =>
            (wrI Z3 96 ((16 : Int32) + v2) v13).bind fun w17 =>
            aLet (v2 + (1 : Int32)) fun v19 =>
            X9_goOn_L4 n4 v16 v19 w17
def X9_goOn (f0 : (Nat → Int32)) : Option (Int32 × (Nat → Int32)) :=
  (X9_goOn_L4 aFu (0 : Int32) (0 : Int32) f0).bind fun e24 =>
  (rdI e24.2 96 (3 : Int32)).bind fun v26 =>
  (wrI e24.2 96 (3 : Int32) (v26 + (1 : Int32))).bind fun w27 =>
  some (e24.1, w27)
set_option maxRecDepth 100000 in
set_option maxHeartbeats 4000000 in
theorem X9_goOn_ok (l : Launch) {h : aH} {nx : Nat} {a0 : Nat} {f0 : (Nat → Int32)} (hB0 : row_at h a0 f0) {r : Int32 × (Nat → Int32)} (hF : X9_goOn f0 = some r) : aOk l 1 0 0 yX9_goOn cX9_goOn 4 (some .int) [.ref a0] h nx (aMt (some (.int r.1)) nx (fun h1 => row_at h1 a0 r.2 ∧ (∀ q, (q < a0 ∨ a0 + 1 ≤ q) → h1 q = h q))) := by
  refine aOk.of (by decide +kernel) (Nat.le_of_ble_eq_true rfl) (fun X G hX C R0 _ => ?_)
  subst hX
  show aV X G 4 0 [(0, .ref a0)] [] h nx 0 0
  have hFr : ∀ q, (q < a0 ∨ a0 + 1 ≤ q) → h q = h q := fun _ _ => rfl
  rw [X9_goOn] at hF
  refine ab_iconst (v := (0 : Int32)) C dX9_goOn_0 (by decide) ?_
  refine ab_istore_n (lv' := [(1, .int (0 : Int32)), (0, .ref a0)]) C dX9_goOn_1 rfl (by decide) rfl ?_
  refine ab_iconst (v := (0 : Int32)) C dX9_goOn_2 (by decide) ?_
  refine ab_istore_n (lv' := [(2, .int (0 : Int32)), (1, .int (0 : Int32)), (0, .ref a0)]) C dX9_goOn_3 rfl (by decide) rfl ?_
  have L4 : ∀ (n4 : Nat) (v1 : Int32) (v2 : Int32) (Z3 : (Nat → Int32)) (g4 : aH), (row_at g4 a0 Z3) → (∀ q, (q < a0 ∨ a0 + 1 ≤ q) → g4 q = h q) → ∀ (res4 : Int32 × (Nat → Int32)), X9_goOn_L4 n4 v1 v2 Z3 = some res4 → (∀ (q9 : aH), (row_at q9 a0 res4.2) → (∀ q, (q < a0 ∨ a0 + 1 ≤ q) → q9 q = h q) → aV X G 4 71 [(0, .ref a0), (1, .int res4.1)] [] q9 nx 0 0) → aV X G 4 4 [(0, .ref a0), (1, .int v1), (2, .int v2)] [] g4 nx 0 0 := by
    intro n4
    induction n4 with
    | zero => intro v1 v2 Z3 g4 hB0 hFr res4 hF KX4; cases (show (none : Option (Int32 × (Nat → Int32))) = some res4 from hF)
    | succ n4 ih4 =>
      intro v1 v2 Z3 g4 hB0 hFr res4 hF KX4
      rw [X9_goOn_L4] at hF
      refine ab_iload_n C 2 rfl rfl dX9_goOn_4 ?_
      refine ab_bipush (v := (36 : Int32)) C dX9_goOn_5 (by decide) ?_
      refine ab_icmp_ge C 71 dX9_goOn_7 (by decide) (fun c5 => ?_) (fun c5 => ?_)
      · replace hF := (if_pos c5).symm.trans hF
        obtain rfl := Option.some.inj hF
        refine aV.sub (lv' := [(0, .ref a0), (1, .int v1)]) [0, 1] rfl ?_
        exact KX4 g4 hB0 hFr
      · replace hF := (if_neg c5).symm.trans hF
        refine ab_aload_n C 0 rfl rfl dX9_goOn_10 ?_
        refine ab_iload_n C 2 rfl rfl dX9_goOn_11 ?_
        obtain ⟨v6, hxv6, hF⟩ := Option.bind_eq_some_iff.mp hF
        refine ab_cSR (v := .int v6) (st := []) C lm_X9_133 (X9_isIn_ok (xl X) hB0 (r := v6) hxv6) rfl rfl (by decide) ⟨Nat.zero_le _, Nat.zero_le _⟩ (Nat.le_of_ble_eq_true rfl) dX9_goOn_12 ?_
        refine ab_if_eq C 65 dX9_goOn_15 (by decide) (fun c7 => ?_) (fun c7 => ?_)
        · replace hF := (if_pos c7).symm.trans hF
          obtain ⟨v8, qv8⟩ : ∃ y : Int32, y = (v2 + (1 : Int32)) := ⟨_, rfl⟩
          replace hF := aLet_e hF v8 qv8
          refine ab_iinc (lv' := [(2, .int v8), (0, .ref a0), (1, .int v1)]) C 2 rfl dX9_goOn_65 (by rw [qv8]; rfl) (by decide) rfl ?_
          refine ab_goto C 4 dX9_goOn_68 (by decide) ?_
          refine aV.sub (lv' := [(0, .ref a0), (1, .int v1), (2, .int v8)]) [1, 2, 0] rfl ?_
          exact ih4 v1 v8 Z3 g4 hB0 hFr res4 hF KX4
        · replace hF := (if_neg c7).symm.trans hF
          refine ab_aload_n C 0 rfl rfl dX9_goOn_18 ?_
          refine ab_bipush (v := (16 : Int32)) C dX9_goOn_19 (by decide) ?_
          refine ab_iload_n C 2 rfl rfl dX9_goOn_21 ?_
          refine ab_iadd C dX9_goOn_22 ?_
          obtain ⟨v9, hxv9, hF⟩ := Option.bind_eq_some_iff.mp hF
          refine ab_iald C hB0 hxv9 dX9_goOn_23 ?_
          refine ab_iconst (v := (5 : Int32)) C dX9_goOn_24 (by decide) ?_
          refine ab_icmp_eq C 65 dX9_goOn_25 (by decide) (fun c10 => ?_) (fun c10 => ?_)
          · replace hF := (if_pos c10).symm.trans hF
            obtain ⟨v11, qv11⟩ : ∃ y : Int32, y = (v2 + (1 : Int32)) := ⟨_, rfl⟩
            replace hF := aLet_e hF v11 qv11
            refine ab_iinc (lv' := [(2, .int v11), (0, .ref a0), (1, .int v1)]) C 2 rfl dX9_goOn_65 (by rw [qv11]; rfl) (by decide) rfl ?_
            refine ab_goto C 4 dX9_goOn_68 (by decide) ?_
            refine aV.sub (lv' := [(0, .ref a0), (1, .int v1), (2, .int v11)]) [1, 2, 0] rfl ?_
            exact ih4 v1 v11 Z3 g4 hB0 hFr res4 hF KX4
          · replace hF := (if_neg c10).symm.trans hF
            refine ab_aload_n C 0 rfl rfl dX9_goOn_28 ?_
            refine ab_bipush (v := (11 : Int32)) C dX9_goOn_29 (by decide) ?_
            refine ab_aload_n C 0 rfl rfl dX9_goOn_31 ?_
            refine ab_bipush (v := (16 : Int32)) C dX9_goOn_32 (by decide) ?_
            refine ab_iload_n C 2 rfl rfl dX9_goOn_34 ?_
            refine ab_iadd C dX9_goOn_35 ?_
            obtain ⟨v12, hxv12, hF⟩ := Option.bind_eq_some_iff.mp hF
            refine ab_iald C hB0 hxv12 dX9_goOn_36 ?_
            refine ab_iadd C dX9_goOn_37 ?_
            obtain ⟨v13, hxv13, hF⟩ := Option.bind_eq_some_iff.mp hF
            refine ab_iald C hB0 hxv13 dX9_goOn_38 ?_
            refine ab_istore_n (lv' := [(3, .int v13), (0, .ref a0), (1, .int v1), (2, .int v2)]) C dX9_goOn_39 rfl (by decide) rfl ?_
            refine ab_iload_n C 2 rfl rfl dX9_goOn_40 ?_
            refine ab_iload_n C 0 rfl rfl dX9_goOn_41 ?_
            refine ab_aload_n C 1 rfl rfl dX9_goOn_42 ?_
            refine ab_bipush (v := (16 : Int32)) C dX9_goOn_43 (by decide) ?_
            refine ab_iload_n C 3 rfl rfl dX9_goOn_45 ?_
            refine ab_iadd C dX9_goOn_46 ?_
            obtain ⟨v14, hxv14, hF⟩ := Option.bind_eq_some_iff.mp hF
            refine ab_iald C hB0 hxv14 dX9_goOn_47 ?_
            refine ab_icmp_ne C 55 dX9_goOn_48 (by decide) (fun c15 => ?_) (fun c15 => ?_)
            · replace hF := (if_neg c15).symm.trans hF
              refine ab_iconst (v := (1 : Int32)) C dX9_goOn_55 (by decide) ?_
              refine ab_iadd C dX9_goOn_56 ?_
              refine ab_topi (fun v16 qv16 => ?_)
              replace hF := aLet_e hF v16 qv16
              refine ab_istore_n (lv' := [(1, .int v16), (3, .int v13), (0, .ref a0), (2, .int v2)]) C dX9_goOn_57 rfl (by decide) rfl ?_
              refine ab_aload_n C 2 rfl rfl dX9_goOn_58 ?_
              refine ab_bipush (v := (16 : Int32)) C dX9_goOn_59 (by decide) ?_
              refine ab_iload_n C 3 rfl rfl dX9_goOn_61 ?_
              refine ab_iadd C dX9_goOn_62 ?_
              refine ab_iload_n C 1 rfl rfl dX9_goOn_63 ?_
              obtain ⟨w17, hxw17, hF⟩ := Option.bind_eq_some_iff.mp hF
              refine ab_iast C hB0 hxw17 dX9_goOn_64 (fun g18 eg18 og18 => ?_)
              have hB0 : row_at g18 a0 w17 := eg18
              have hFr : ∀ q, (q < a0 ∨ a0 + 1 ≤ q) → g18 q = h q := fun q u0 => (og18 q (by omega)).trans (hFr q u0)
              obtain ⟨v19, qv19⟩ : ∃ y : Int32, y = (v2 + (1 : Int32)) := ⟨_, rfl⟩
              replace hF := aLet_e hF v19 qv19
              refine ab_iinc (lv' := [(2, .int v19), (1, .int v16), (3, .int v13), (0, .ref a0)]) C 3 rfl dX9_goOn_65 (by rw [qv19]; rfl) (by decide) rfl ?_
              refine ab_goto C 4 dX9_goOn_68 (by decide) ?_
              refine aV.sub (lv' := [(0, .ref a0), (1, .int v16), (2, .int v19)]) [3, 1, 0] rfl ?_
              exact ih4 v16 v19 w17 g18 hB0 hFr res4 hF KX4
            · replace hF := (if_pos c15).symm.trans hF
              refine ab_iconst (v := (0 : Int32)) C dX9_goOn_51 (by decide) ?_
              refine ab_goto C 56 dX9_goOn_52 (by decide) ?_
              refine ab_iadd C dX9_goOn_56 ?_
              refine ab_topi (fun v20 qv20 => ?_)
              replace hF := aLet_e hF v20 qv20
              refine ab_istore_n (lv' := [(1, .int v20), (3, .int v13), (0, .ref a0), (2, .int v2)]) C dX9_goOn_57 rfl (by decide) rfl ?_
              refine ab_aload_n C 2 rfl rfl dX9_goOn_58 ?_
              refine ab_bipush (v := (16 : Int32)) C dX9_goOn_59 (by decide) ?_
              refine ab_iload_n C 3 rfl rfl dX9_goOn_61 ?_
              refine ab_iadd C dX9_goOn_62 ?_
              refine ab_iload_n C 1 rfl rfl dX9_goOn_63 ?_
              obtain ⟨w21, hxw21, hF⟩ := Option.bind_eq_some_iff.mp hF
              refine ab_iast C hB0 hxw21 dX9_goOn_64 (fun g22 eg22 og22 => ?_)
              have hB0 : row_at g22 a0 w21 := eg22
              have hFr : ∀ q, (q < a0 ∨ a0 + 1 ≤ q) → g22 q = h q := fun q u0 => (og22 q (by omega)).trans (hFr q u0)
              obtain ⟨v23, qv23⟩ : ∃ y : Int32, y = (v2 + (1 : Int32)) := ⟨_, rfl⟩
              replace hF := aLet_e hF v23 qv23
              refine ab_iinc (lv' := [(2, .int v23), (1, .int v20), (3, .int v13), (0, .ref a0)]) C 3 rfl dX9_goOn_65 (by rw [qv23]; rfl) (by decide) rfl ?_
              refine ab_goto C 4 dX9_goOn_68 (by decide) ?_
              refine aV.sub (lv' := [(0, .ref a0), (1, .int v20), (2, .int v23)]) [3, 1, 0] rfl ?_
              exact ih4 v20 v23 w21 g22 hB0 hFr res4 hF KX4
  refine aV.sub (lv' := [(0, .ref a0), (1, .int (0 : Int32)), (2, .int (0 : Int32))]) [2, 1, 0] rfl ?_
  obtain ⟨e24, he24, hF⟩ := Option.bind_eq_some_iff.mp hF
  refine L4 aFu (0 : Int32) (0 : Int32) f0 h hB0 hFr e24 he24 (fun g25 hB0 hFr => ?_)
  refine ab_aload_n C 0 rfl rfl dX9_goOn_71 ?_
  refine ab_iconst (v := (3 : Int32)) C dX9_goOn_72 (by decide) ?_
  refine ab_dup2_11 C rfl rfl dX9_goOn_73 ?_
  obtain ⟨v26, hxv26, hF⟩ := Option.bind_eq_some_iff.mp hF
  refine ab_iald C hB0 hxv26 dX9_goOn_74 ?_
  refine ab_iconst (v := (1 : Int32)) C dX9_goOn_75 (by decide) ?_
  refine ab_iadd C dX9_goOn_76 ?_
  obtain ⟨w27, hxw27, hF⟩ := Option.bind_eq_some_iff.mp hF
  refine ab_iast C hB0 hxw27 dX9_goOn_77 (fun g28 eg28 og28 => ?_)
  have hB0 : row_at g28 a0 w27 := eg28
  have hFr : ∀ q, (q < a0 ∨ a0 + 1 ≤ q) → g28 q = h q := fun q u0 => (og28 q (by omega)).trans (hFr q u0)
  refine ab_iload_n C 1 rfl rfl dX9_goOn_78 ?_
  obtain rfl := Option.some.inj hF
  exact ab_iret C R0 rfl dX9_goOn_79 ⟨rfl, rfl, hB0, hFr⟩
theorem dX9_layThen_0 : decode cX9_layThen 0 = .ok (.iconst 0, 1) := by decide +kernel
theorem dX9_layThen_1 : decode cX9_layThen 1 = .ok (.istore_n 1, 1) := by decide +kernel
theorem dX9_layThen_2 : decode cX9_layThen 2 = .ok (.iload_n 1, 1) := by decide +kernel
theorem dX9_layThen_3 : decode cX9_layThen 3 = .ok (.bipush 96, 2) := by decide +kernel
theorem dX9_layThen_5 : decode cX9_layThen 5 = .ok (.if_icmp .ge 21, 3) := by decide +kernel
theorem dX9_layThen_8 : decode cX9_layThen 8 = .ok (.aload_n 0, 1) := by decide +kernel
theorem dX9_layThen_9 : decode cX9_layThen 9 = .ok (.getfield 16, 3) := by decide +kernel
theorem dX9_layThen_12 : decode cX9_layThen 12 = .ok (.iload_n 1, 1) := by decide +kernel
theorem dX9_layThen_13 : decode cX9_layThen 13 = .ok (.aload_n 0, 1) := by decide +kernel
theorem dX9_layThen_14 : decode cX9_layThen 14 = .ok (.getfield 7, 3) := by decide +kernel
theorem dX9_layThen_17 : decode cX9_layThen 17 = .ok (.iload_n 1, 1) := by decide +kernel
theorem dX9_layThen_18 : decode cX9_layThen 18 = .ok (.iaload, 1) := by decide +kernel
theorem dX9_layThen_19 : decode cX9_layThen 19 = .ok (.iastore, 1) := by decide +kernel
theorem dX9_layThen_20 : decode cX9_layThen 20 = .ok (.iinc 1 1, 3) := by decide +kernel
theorem dX9_layThen_23 : decode cX9_layThen 23 = .ok (.goto (-21), 3) := by decide +kernel
theorem dX9_layThen_26 : decode cX9_layThen 26 = .ok (.return_, 1) := by decide +kernel
def X9_layThen_L2 : Nat → Int32 → Rec → Option (Rec)
  | 0, _, _ => none
  | n2 + 1, v1, Z2 => if (96 : Int32) ≤ v1 then
      some Z2
    else
      (rdI (Z2.2.1 0) 96 v1).bind fun v5 =>
      (wrI (Z2.2.1 2) 96 v1 v5).bind fun w6 =>
      aLet (v1 + (1 : Int32)) fun v8 =>
      X9_layThen_L2 n2 v8 (sA Z2 2 w6)
def X9_layThen (S0 : Rec) : Option (Rec) :=
  (X9_layThen_L2 aFu (0 : Int32) S0).bind fun e9 =>
  some e9
set_option maxRecDepth 100000 in
set_option maxHeartbeats 4000000 in
theorem X9_layThen_ok (l : Launch) {h : aH} {nx : Nat} {a0 : Nat} {S0 : Rec} (hB0 : X9_at h a0 S0) {r : Rec} (hF : X9_layThen S0 = some r) : aOk l 0 0 0 yX9_layThen cX9_layThen 2 none [.ref a0] h nx (aMt none nx (fun h1 => X9_at h1 a0 r ∧ (∀ q, (q < a0 ∨ a0 + 20 ≤ q) → h1 q = h q))) := by
  refine aOk.of (by decide +kernel) (Nat.le_of_ble_eq_true rfl) (fun X G hX C R0 _ => ?_)
  subst hX
  show aV X G 2 0 [(0, .ref a0)] [] h nx 0 0
  have hFr : ∀ q, (q < a0 ∨ a0 + 20 ≤ q) → h q = h q := fun _ _ => rfl
  rw [X9_layThen] at hF
  refine ab_iconst (v := (0 : Int32)) C dX9_layThen_0 (by decide) ?_
  refine ab_istore_n (lv' := [(1, .int (0 : Int32)), (0, .ref a0)]) C dX9_layThen_1 rfl (by decide) rfl ?_
  have L2 : ∀ (n2 : Nat) (v1 : Int32) (Z2 : Rec) (g3 : aH), (X9_at g3 a0 Z2) → (∀ q, (q < a0 ∨ a0 + 20 ≤ q) → g3 q = h q) → ∀ (res2 : Rec), X9_layThen_L2 n2 v1 Z2 = some res2 → (∀ (q9 : aH), (X9_at q9 a0 res2) → (∀ q, (q < a0 ∨ a0 + 20 ≤ q) → q9 q = h q) → aV X G 2 26 [] [] q9 nx 0 0) → aV X G 2 2 [(0, .ref a0), (1, .int v1)] [] g3 nx 0 0 := by
    intro n2
    induction n2 with
    | zero => intro v1 Z2 g3 hB0 hFr res2 hF KX2; cases (show (none : Option (Rec)) = some res2 from hF)
    | succ n2 ih2 =>
      intro v1 Z2 g3 hB0 hFr res2 hF KX2
      rw [X9_layThen_L2] at hF
      refine ab_iload_n C 1 rfl rfl dX9_layThen_2 ?_
      refine ab_bipush (v := (96 : Int32)) C dX9_layThen_3 (by decide) ?_
      refine ab_icmp_ge C 26 dX9_layThen_5 (by decide) (fun c4 => ?_) (fun c4 => ?_)
      · replace hF := (if_pos c4).symm.trans hF
        obtain rfl := Option.some.inj hF
        refine aV.sub (lv' := []) [] rfl ?_
        exact KX2 g3 hB0 hFr
      · replace hF := (if_neg c4).symm.trans hF
        refine ab_aload_n C 0 rfl rfl dX9_layThen_8 ?_
        refine ab_g9 (v := .ref (a0 + 3)) C lf_X9_16 hB0.1 rfl dX9_layThen_9 ?_
        refine ab_iload_n C 1 rfl rfl dX9_layThen_12 ?_
        refine ab_aload_n C 0 rfl rfl dX9_layThen_13 ?_
        refine ab_g9 (v := .ref (a0 + 1)) C lf_X9_7 hB0.1 rfl dX9_layThen_14 ?_
        refine ab_iload_n C 1 rfl rfl dX9_layThen_17 ?_
        obtain ⟨v5, hxv5, hF⟩ := Option.bind_eq_some_iff.mp hF
        refine ab_iald C (X9_r0 hB0) hxv5 dX9_layThen_18 ?_
        obtain ⟨w6, hxw6, hF⟩ := Option.bind_eq_some_iff.mp hF
        refine ab_iast C (X9_r2 hB0) hxw6 dX9_layThen_19 (fun g7 eg7 og7 => ?_)
        have hB0 : X9_at g7 a0 (sA Z2 2 w6) := X9_w2 hB0 eg7 og7
        have hFr : ∀ q, (q < a0 ∨ a0 + 20 ≤ q) → g7 q = h q := fun q u0 => (og7 q (by omega)).trans (hFr q u0)
        obtain ⟨v8, qv8⟩ : ∃ y : Int32, y = (v1 + (1 : Int32)) := ⟨_, rfl⟩
        replace hF := aLet_e hF v8 qv8
        refine ab_iinc (lv' := [(1, .int v8), (0, .ref a0)]) C 1 rfl dX9_layThen_20 (by rw [qv8]; rfl) (by decide) rfl ?_
        refine ab_goto C 2 dX9_layThen_23 (by decide) ?_
        refine aV.sub (lv' := [(0, .ref a0), (1, .int v8)]) [1, 0] rfl ?_
        exact ih2 v8 (sA Z2 2 w6) g7 hB0 hFr res2 hF KX2
  refine aV.sub (lv' := [(0, .ref a0), (1, .int (0 : Int32))]) [1, 0] rfl ?_
  obtain ⟨e9, he9, hF⟩ := Option.bind_eq_some_iff.mp hF
  refine L2 aFu (0 : Int32) S0 h hB0 hFr e9 he9 (fun g10 hB0 hFr => ?_)
  obtain rfl := Option.some.inj hF
  exact ab_vret C R0 dX9_layThen_26 ⟨rfl, rfl, hB0, hFr⟩
theorem dX9_holder_0 : decode cX9_holder 0 = .ok (.aload_n 0, 1) := by decide +kernel
theorem dX9_holder_1 : decode cX9_holder 1 = .ok (.iload_n 1, 1) := by decide +kernel
theorem dX9_holder_2 : decode cX9_holder 2 = .ok (.invokevirtual 153, 3) := by decide +kernel
theorem dX9_holder_5 : decode cX9_holder 5 = .ok (.ifCond .eq 15, 3) := by decide +kernel
theorem dX9_holder_8 : decode cX9_holder 8 = .ok (.iload_n 2, 1) := by decide +kernel
theorem dX9_holder_9 : decode cX9_holder 9 = .ok (.i2l, 1) := by decide +kernel
theorem dX9_holder_10 : decode cX9_holder 10 = .ok (.lconst 0, 1) := by decide +kernel
theorem dX9_holder_11 : decode cX9_holder 11 = .ok (.ldc2_w 157, 3) := by decide +kernel
theorem dX9_holder_14 : decode cX9_holder 14 = .ok (.invokestatic 69, 3) := by decide +kernel
theorem dX9_holder_17 : decode cX9_holder 17 = .ok (.ifCond .ne 5, 3) := by decide +kernel
theorem dX9_holder_20 : decode cX9_holder 20 = .ok (.iconst (-1), 1) := by decide +kernel
theorem dX9_holder_21 : decode cX9_holder 21 = .ok (.ireturn, 1) := by decide +kernel
theorem dX9_holder_22 : decode cX9_holder 22 = .ok (.iconst 0, 1) := by decide +kernel
theorem dX9_holder_23 : decode cX9_holder 23 = .ok (.istore_n 3, 1) := by decide +kernel
theorem dX9_holder_24 : decode cX9_holder 24 = .ok (.iconst 0, 1) := by decide +kernel
theorem dX9_holder_25 : decode cX9_holder 25 = .ok (.istore 4, 2) := by decide +kernel
theorem dX9_holder_27 : decode cX9_holder 27 = .ok (.iconst 0, 1) := by decide +kernel
theorem dX9_holder_28 : decode cX9_holder 28 = .ok (.istore 5, 2) := by decide +kernel
theorem dX9_holder_30 : decode cX9_holder 30 = .ok (.iload 5, 2) := by decide +kernel
theorem dX9_holder_32 : decode cX9_holder 32 = .ok (.bipush 36, 2) := by decide +kernel
theorem dX9_holder_34 : decode cX9_holder 34 = .ok (.if_icmp .ge 76, 3) := by decide +kernel
theorem dX9_holder_37 : decode cX9_holder 37 = .ok (.aload_n 0, 1) := by decide +kernel
theorem dX9_holder_38 : decode cX9_holder 38 = .ok (.getfield 7, 3) := by decide +kernel
theorem dX9_holder_41 : decode cX9_holder 41 = .ok (.iload 5, 2) := by decide +kernel
theorem dX9_holder_43 : decode cX9_holder 43 = .ok (.invokestatic 133, 3) := by decide +kernel
theorem dX9_holder_46 : decode cX9_holder 46 = .ok (.ifCond .eq 23, 3) := by decide +kernel
theorem dX9_holder_49 : decode cX9_holder 49 = .ok (.aload_n 0, 1) := by decide +kernel
theorem dX9_holder_50 : decode cX9_holder 50 = .ok (.getfield 7, 3) := by decide +kernel
theorem dX9_holder_53 : decode cX9_holder 53 = .ok (.bipush 52, 2) := by decide +kernel
theorem dX9_holder_55 : decode cX9_holder 55 = .ok (.iload 5, 2) := by decide +kernel
theorem dX9_holder_57 : decode cX9_holder 57 = .ok (.iadd, 1) := by decide +kernel
theorem dX9_holder_58 : decode cX9_holder 58 = .ok (.iaload, 1) := by decide +kernel
theorem dX9_holder_59 : decode cX9_holder 59 = .ok (.iload_n 1, 1) := by decide +kernel
theorem dX9_holder_60 : decode cX9_holder 60 = .ok (.iconst 1, 1) := by decide +kernel
theorem dX9_holder_61 : decode cX9_holder 61 = .ok (.iadd, 1) := by decide +kernel
theorem dX9_holder_62 : decode cX9_holder 62 = .ok (.if_icmp .ne 7, 3) := by decide +kernel
theorem dX9_holder_65 : decode cX9_holder 65 = .ok (.iconst 1, 1) := by decide +kernel
theorem dX9_holder_66 : decode cX9_holder 66 = .ok (.goto 4, 3) := by decide +kernel
theorem dX9_holder_69 : decode cX9_holder 69 = .ok (.iconst 0, 1) := by decide +kernel
theorem dX9_holder_70 : decode cX9_holder 70 = .ok (.istore 6, 2) := by decide +kernel
theorem dX9_holder_72 : decode cX9_holder 72 = .ok (.iload_n 3, 1) := by decide +kernel
theorem dX9_holder_73 : decode cX9_holder 73 = .ok (.iload 6, 2) := by decide +kernel
theorem dX9_holder_75 : decode cX9_holder 75 = .ok (.ifCond .eq 7, 3) := by decide +kernel
theorem dX9_holder_78 : decode cX9_holder 78 = .ok (.iconst 1, 1) := by decide +kernel
theorem dX9_holder_79 : decode cX9_holder 79 = .ok (.goto 4, 3) := by decide +kernel
theorem dX9_holder_82 : decode cX9_holder 82 = .ok (.iconst 0, 1) := by decide +kernel
theorem dX9_holder_83 : decode cX9_holder 83 = .ok (.iadd, 1) := by decide +kernel
theorem dX9_holder_84 : decode cX9_holder 84 = .ok (.istore_n 3, 1) := by decide +kernel
theorem dX9_holder_85 : decode cX9_holder 85 = .ok (.iload 4, 2) := by decide +kernel
theorem dX9_holder_87 : decode cX9_holder 87 = .ok (.iload 6, 2) := by decide +kernel
theorem dX9_holder_89 : decode cX9_holder 89 = .ok (.ifCond .eq 11, 3) := by decide +kernel
theorem dX9_holder_92 : decode cX9_holder 92 = .ok (.iload 5, 2) := by decide +kernel
theorem dX9_holder_94 : decode cX9_holder 94 = .ok (.invokestatic 159, 3) := by decide +kernel
theorem dX9_holder_97 : decode cX9_holder 97 = .ok (.goto 4, 3) := by decide +kernel
theorem dX9_holder_100 : decode cX9_holder 100 = .ok (.iconst 0, 1) := by decide +kernel
theorem dX9_holder_101 : decode cX9_holder 101 = .ok (.iadd, 1) := by decide +kernel
theorem dX9_holder_102 : decode cX9_holder 102 = .ok (.istore 4, 2) := by decide +kernel
theorem dX9_holder_104 : decode cX9_holder 104 = .ok (.iinc 5 1, 3) := by decide +kernel
theorem dX9_holder_107 : decode cX9_holder 107 = .ok (.goto (-77), 3) := by decide +kernel
theorem dX9_holder_110 : decode cX9_holder 110 = .ok (.iconst 0, 1) := by decide +kernel
theorem dX9_holder_111 : decode cX9_holder 111 = .ok (.istore 5, 2) := by decide +kernel
theorem dX9_holder_113 : decode cX9_holder 113 = .ok (.iconst 0, 1) := by decide +kernel
theorem dX9_holder_114 : decode cX9_holder 114 = .ok (.istore 6, 2) := by decide +kernel
theorem dX9_holder_116 : decode cX9_holder 116 = .ok (.iload 6, 2) := by decide +kernel
theorem dX9_holder_118 : decode cX9_holder 118 = .ok (.aload_n 0, 1) := by decide +kernel
theorem dX9_holder_119 : decode cX9_holder 119 = .ok (.getfield 7, 3) := by decide +kernel
theorem dX9_holder_122 : decode cX9_holder 122 = .ok (.iconst 4, 1) := by decide +kernel
theorem dX9_holder_123 : decode cX9_holder 123 = .ok (.iaload, 1) := by decide +kernel
theorem dX9_holder_124 : decode cX9_holder 124 = .ok (.if_icmp .ge 35, 3) := by decide +kernel
theorem dX9_holder_127 : decode cX9_holder 127 = .ok (.iload 5, 2) := by decide +kernel
theorem dX9_holder_129 : decode cX9_holder 129 = .ok (.aload_n 0, 1) := by decide +kernel
theorem dX9_holder_130 : decode cX9_holder 130 = .ok (.getfield 7, 3) := by decide +kernel
theorem dX9_holder_133 : decode cX9_holder 133 = .ok (.iload_n 1, 1) := by decide +kernel
theorem dX9_holder_134 : decode cX9_holder 134 = .ok (.iload 6, 2) := by decide +kernel
theorem dX9_holder_136 : decode cX9_holder 136 = .ok (.invokestatic 162, 3) := by decide +kernel
theorem dX9_holder_139 : decode cX9_holder 139 = .ok (.ifCond .eq 10, 3) := by decide +kernel
theorem dX9_holder_142 : decode cX9_holder 142 = .ok (.iconst 1, 1) := by decide +kernel
theorem dX9_holder_143 : decode cX9_holder 143 = .ok (.iload 6, 2) := by decide +kernel
theorem dX9_holder_145 : decode cX9_holder 145 = .ok (.ishl, 1) := by decide +kernel
theorem dX9_holder_146 : decode cX9_holder 146 = .ok (.goto 4, 3) := by decide +kernel
theorem dX9_holder_149 : decode cX9_holder 149 = .ok (.iconst 0, 1) := by decide +kernel
theorem dX9_holder_150 : decode cX9_holder 150 = .ok (.ior, 1) := by decide +kernel
theorem dX9_holder_151 : decode cX9_holder 151 = .ok (.istore 5, 2) := by decide +kernel
theorem dX9_holder_153 : decode cX9_holder 153 = .ok (.iinc 6 1, 3) := by decide +kernel
theorem dX9_holder_156 : decode cX9_holder 156 = .ok (.goto (-40), 3) := by decide +kernel
theorem dX9_holder_159 : decode cX9_holder 159 = .ok (.iload_n 2, 1) := by decide +kernel
theorem dX9_holder_160 : decode cX9_holder 160 = .ok (.tableswitch 71 0 4 #[36, 45, 47, 50, 59], 36) := by decide +kernel
theorem dX9_holder_196 : decode cX9_holder 196 = .ok (.aload_n 0, 1) := by decide +kernel
theorem dX9_holder_197 : decode cX9_holder 197 = .ok (.getfield 7, 3) := by decide +kernel
theorem dX9_holder_200 : decode cX9_holder 200 = .ok (.iconst 5, 1) := by decide +kernel
theorem dX9_holder_201 : decode cX9_holder 201 = .ok (.iload_n 1, 1) := by decide +kernel
theorem dX9_holder_202 : decode cX9_holder 202 = .ok (.iadd, 1) := by decide +kernel
theorem dX9_holder_203 : decode cX9_holder 203 = .ok (.iaload, 1) := by decide +kernel
theorem dX9_holder_204 : decode cX9_holder 204 = .ok (.ireturn, 1) := by decide +kernel
theorem dX9_holder_205 : decode cX9_holder 205 = .ok (.iload_n 3, 1) := by decide +kernel
theorem dX9_holder_206 : decode cX9_holder 206 = .ok (.ireturn, 1) := by decide +kernel
theorem dX9_holder_207 : decode cX9_holder 207 = .ok (.iload 4, 2) := by decide +kernel
theorem dX9_holder_209 : decode cX9_holder 209 = .ok (.ireturn, 1) := by decide +kernel
theorem dX9_holder_210 : decode cX9_holder 210 = .ok (.aload_n 0, 1) := by decide +kernel
theorem dX9_holder_211 : decode cX9_holder 211 = .ok (.getfield 7, 3) := by decide +kernel
theorem dX9_holder_214 : decode cX9_holder 214 = .ok (.iload_n 1, 1) := by decide +kernel
theorem dX9_holder_215 : decode cX9_holder 215 = .ok (.invokestatic 149, 3) := by decide +kernel
theorem dX9_holder_218 : decode cX9_holder 218 = .ok (.ireturn, 1) := by decide +kernel
theorem dX9_holder_219 : decode cX9_holder 219 = .ok (.aload_n 0, 1) := by decide +kernel
theorem dX9_holder_220 : decode cX9_holder 220 = .ok (.getfield 7, 3) := by decide +kernel
theorem dX9_holder_223 : decode cX9_holder 223 = .ok (.iload_n 1, 1) := by decide +kernel
theorem dX9_holder_224 : decode cX9_holder 224 = .ok (.invokestatic 149, 3) := by decide +kernel
theorem dX9_holder_227 : decode cX9_holder 227 = .ok (.invokestatic 165, 3) := by decide +kernel
theorem dX9_holder_230 : decode cX9_holder 230 = .ok (.ireturn, 1) := by decide +kernel
theorem dX9_holder_231 : decode cX9_holder 231 = .ok (.iload 5, 2) := by decide +kernel
theorem dX9_holder_233 : decode cX9_holder 233 = .ok (.ireturn, 1) := by decide +kernel
def X9_holder_J83 (v4 : Int32) (v9 : Int32) (v5 : Int32) (v6 : Int32) (k30 : Int32 → Int32 → Int32 → Option (Int32 × Int32)) (v10 : Int32) : Option (Int32 × Int32) :=
  aLet (v4 + v10) fun v11 =>
  if v9 = 0 then
    aLet (v5 + (0 : Int32)) fun v13 =>
    aLet (v6 + (1 : Int32)) fun v14 =>
    k30 v11 v13 v14
  else
    aLet (v5 + (X9_priceOf v6)) fun v15 =>
    aLet (v6 + (1 : Int32)) fun v16 =>
    k30 v11 v15 v16
def X9_holder_J70 (v4 : Int32) (v5 : Int32) (v6 : Int32) (k30 : Int32 → Int32 → Int32 → Option (Int32 × Int32)) (v9 : Int32) : Option (Int32 × Int32) :=
  if v9 = 0 then
    X9_holder_J83 v4 v9 v5 v6 (k30) (0 : Int32)
  else
    X9_holder_J83 v4 v9 v5 v6 (k30) (1 : Int32)
def X9_holder_J69 (v4 : Int32) (v5 : Int32) (v6 : Int32) (k30 : Int32 → Int32 → Int32 → Option (Int32 × Int32)) : Option (Int32 × Int32) :=
  X9_holder_J70 v4 v5 v6 (k30) (0 : Int32)
def X9_holder_L30 (S0 : Rec) (x1 : Int32) : Nat → Int32 → Int32 → Int32 → Option (Int32 × Int32)
  | 0, _, _, _ => none
  | n30 + 1, v4, v5, v6 => if (36 : Int32) ≤ v6 then
      some (v4, v5)
    else
      (X9_isIn (S0.2.1 0) v6).bind fun v8 =>
      if v8 = 0 then
        X9_holder_J69 v4 v5 v6 (X9_holder_L30 S0 x1 n30)
      else
        (rdI (S0.2.1 0) 96 ((52 : Int32) + v6)).bind fun v19 =>
        if v19 = (x1 + (1 : Int32)) then
          X9_holder_J70 v4 v5 v6 (X9_holder_L30 S0 x1 n30) (1 : Int32)
        else
          X9_holder_J69 v4 v5 v6 (X9_holder_L30 S0 x1 n30)
def X9_holder_L116 (S0 : Rec) (x1 : Int32) : Nat → Int32 → Int32 → Option (Int32)
  | 0, _, _ => none
  | n116 + 1, v22, v23 => (rdI (S0.2.1 0) 96 (4 : Int32)).bind fun v24 =>
    if v24 ≤ v23 then
      some v22
    else
      (X9_can (S0.2.1 0) x1 v23).bind fun v26 =>
      if v26 = 0 then
        aLet (v22 ||| (0 : Int32)) fun v28 =>
        aLet (v23 + (1 : Int32)) fun v29 =>
        X9_holder_L116 S0 x1 n116 v28 v29
      else
        aLet (v22 ||| ((1 : Int32) <<< (v23 &&& 31))) fun v30 =>
        aLet (v23 + (1 : Int32)) fun v31 =>
        X9_holder_L116 S0 x1 n116 v30 v31
def X9_holder (S0 : Rec) (x1 : Int32) (x2 : Int32) : Option (Int32) :=
  (X9_isHolder S0 x1).bind fun v1 =>
  if v1 = 0 then
    some (-1 : Int32)
  else
    if (X9_in (x2.toInt64) (0 : Int64) (5 : Int64)) = 0 then
      some (-1 : Int32)
    else
      (X9_holder_L30 S0 x1 aFu (0 : Int32) (0 : Int32) (0 : Int32)).bind fun e21 =>
      (X9_holder_L116 S0 x1 aFu (0 : Int32) (0 : Int32)).bind fun e32 =>
      if x2 = (0 : Int32) then
        (rdI (S0.2.1 0) 96 ((5 : Int32) + x1)).bind fun v34 =>
        some v34
      else if x2 = (1 : Int32) then
        some e21.1
      else if x2 = (2 : Int32) then
        some e21.2
      else if x2 = (3 : Int32) then
        (X9_says (S0.2.1 0) x1).bind fun v38 =>
        some v38
      else if x2 = (4 : Int32) then
        (X9_says (S0.2.1 0) x1).bind fun v40 =>
        (X9_bits v40).bind fun v41 =>
        some v41
      else 
      some e32
set_option maxRecDepth 100000 in
set_option maxHeartbeats 4000000 in
theorem X9_holder_ok (l : Launch) {h : aH} {nx : Nat} {a0 : Nat} {S0 : Rec} {x1 : Int32} {x2 : Int32} (hB0 : X9_at h a0 S0) {r : Int32} (hF : X9_holder S0 x1 x2 = some r) : aOk l 5 0 0 yX9_holder cX9_holder 7 (some .int) [.ref a0, .int x1, .int x2] h nx (aRd (.int r) h nx) := by
  refine aOk.of (by decide +kernel) (Nat.le_of_ble_eq_true rfl) (fun X G hX C R0 _ => ?_)
  subst hX
  show aV X G 7 0 [(0, .ref a0), (1, .int x1), (2, .int x2)] [] h nx 0 0
  rw [X9_holder] at hF
  refine ab_aload_n C 0 rfl rfl dX9_holder_0 ?_
  refine ab_iload_n C 1 rfl rfl dX9_holder_1 ?_
  obtain ⟨v1, hxv1, hF⟩ := Option.bind_eq_some_iff.mp hF
  refine ab_cVR (v := .int v1) (st := []) C lm_X9_153 (X9_isHolder_ok (xl X) hB0 (r := v1) hxv1) [.int x1] rfl hB0.1 rfl rfl rfl (by decide) ⟨Nat.zero_le _, Nat.zero_le _⟩ (Nat.le_of_ble_eq_true rfl) dX9_holder_2 ?_
  refine ab_if_eq C 20 dX9_holder_5 (by decide) (fun c2 => ?_) (fun c2 => ?_)
  · replace hF := (if_pos c2).symm.trans hF
    refine ab_iconst (v := (-1 : Int32)) C dX9_holder_20 (by decide) ?_
    obtain rfl := Option.some.inj hF
    exact ab_iret C R0 rfl dX9_holder_21 ⟨rfl, rfl, rfl⟩
  · replace hF := (if_neg c2).symm.trans hF
    refine ab_iload_n C 2 rfl rfl dX9_holder_8 ?_
    refine ab_i2l C dX9_holder_9 ?_
    refine ab_lconst (v := (0 : Int64)) C dX9_holder_10 (by decide) ?_
    refine ab_ldc2 (v := (5 : Int64)) C dX9_holder_11 lq_X9_157 ?_
    refine ab_cSR (v := .int (X9_in (x2.toInt64) (0 : Int64) (5 : Int64))) (st := []) C lm_X9_69 (X9_in_ok (xl X) (r := (X9_in (x2.toInt64) (0 : Int64) (5 : Int64))) rfl) rfl rfl (by decide) ⟨Nat.zero_le _, Nat.zero_le _⟩ (Nat.le_of_ble_eq_true rfl) dX9_holder_14 ?_
    refine ab_if_ne C 22 dX9_holder_17 (by decide) (fun c3 => ?_) (fun c3 => ?_)
    · replace hF := (if_neg c3).symm.trans hF
      refine ab_iconst (v := (0 : Int32)) C dX9_holder_22 (by decide) ?_
      refine ab_istore_n (lv' := [(3, .int (0 : Int32)), (0, .ref a0), (1, .int x1), (2, .int x2)]) C dX9_holder_23 rfl (by decide) rfl ?_
      refine ab_iconst (v := (0 : Int32)) C dX9_holder_24 (by decide) ?_
      refine ab_istore (lv' := [(4, .int (0 : Int32)), (3, .int (0 : Int32)), (0, .ref a0), (1, .int x1), (2, .int x2)]) C dX9_holder_25 (by decide) rfl ?_
      refine ab_iconst (v := (0 : Int32)) C dX9_holder_27 (by decide) ?_
      refine ab_istore (lv' := [(5, .int (0 : Int32)), (4, .int (0 : Int32)), (3, .int (0 : Int32)), (0, .ref a0), (1, .int x1), (2, .int x2)]) C dX9_holder_28 (by decide) rfl ?_
      have L30 : ∀ (n30 : Nat) (v4 : Int32) (v5 : Int32) (v6 : Int32), ∀ (res30 : Int32 × Int32), X9_holder_L30 S0 x1 n30 v4 v5 v6 = some res30 → (aV X G 7 110 [(0, .ref a0), (1, .int x1), (2, .int x2), (3, .int res30.1), (4, .int res30.2)] [] h nx 0 0) → aV X G 7 30 [(0, .ref a0), (1, .int x1), (2, .int x2), (3, .int v4), (4, .int v5), (5, .int v6)] [] h nx 0 0 := by
        intro n30
        induction n30 with
        | zero => intro v4 v5 v6 res30 hF KX30; cases (show (none : Option (Int32 × Int32)) = some res30 from hF)
        | succ n30 ih30 =>
          intro v4 v5 v6 res30 hF KX30
          rw [X9_holder_L30] at hF
          refine ab_iload C 5 rfl dX9_holder_30 ?_
          refine ab_bipush (v := (36 : Int32)) C dX9_holder_32 (by decide) ?_
          refine ab_icmp_ge C 110 dX9_holder_34 (by decide) (fun c7 => ?_) (fun c7 => ?_)
          · replace hF := (if_pos c7).symm.trans hF
            obtain rfl := Option.some.inj hF
            refine aV.sub (lv' := [(0, .ref a0), (1, .int x1), (2, .int x2), (3, .int v4), (4, .int v5)]) [0, 1, 2, 3, 4] rfl ?_
            exact KX30
          · replace hF := (if_neg c7).symm.trans hF
            refine ab_aload_n C 0 rfl rfl dX9_holder_37 ?_
            refine ab_g9 (v := .ref (a0 + 1)) C lf_X9_7 hB0.1 rfl dX9_holder_38 ?_
            refine ab_iload C 5 rfl dX9_holder_41 ?_
            obtain ⟨v8, hxv8, hF⟩ := Option.bind_eq_some_iff.mp hF
            refine ab_cSR (v := .int v8) (st := []) C lm_X9_133 (X9_isIn_ok (xl X) (X9_r0 hB0) (r := v8) hxv8) rfl rfl (by decide) ⟨Nat.zero_le _, Nat.zero_le _⟩ (Nat.le_of_ble_eq_true rfl) dX9_holder_43 ?_
            have J70 : ∀ (v9 : Int32), X9_holder_J70 v4 v5 v6 (X9_holder_L30 S0 x1 n30) v9 = some res30 → aV X G 7 70 [(0, .ref a0), (1, .int x1), (2, .int x2), (3, .int v4), (4, .int v5), (5, .int v6)] [.int v9] h nx 0 0 := by
              intro v9 hF
              rw [X9_holder_J70] at hF
              refine ab_istore (lv' := [(6, .int v9), (0, .ref a0), (1, .int x1), (2, .int x2), (3, .int v4), (4, .int v5), (5, .int v6)]) C dX9_holder_70 (by decide) rfl ?_
              refine ab_iload_n C 4 rfl rfl dX9_holder_72 ?_
              refine ab_iload C 0 rfl dX9_holder_73 ?_
              have J83 : ∀ (v10 : Int32), X9_holder_J83 v4 v9 v5 v6 (X9_holder_L30 S0 x1 n30) v10 = some res30 → aV X G 7 83 [(0, .ref a0), (1, .int x1), (2, .int x2), (4, .int v5), (5, .int v6), (6, .int v9)] [.int v10, .int v4] h nx 0 0 := by
                intro v10 hF
                rw [X9_holder_J83] at hF
                refine ab_iadd C dX9_holder_83 ?_
                refine ab_topi (fun v11 qv11 => ?_)
                replace hF := aLet_e hF v11 qv11
                refine ab_istore_n (lv' := [(3, .int v11), (0, .ref a0), (1, .int x1), (2, .int x2), (4, .int v5), (5, .int v6), (6, .int v9)]) C dX9_holder_84 rfl (by decide) rfl ?_
                refine ab_iload C 4 rfl dX9_holder_85 ?_
                refine ab_iload C 6 rfl dX9_holder_87 ?_
                refine ab_if_eq C 100 dX9_holder_89 (by decide) (fun c12 => ?_) (fun c12 => ?_)
                · replace hF := (if_pos c12).symm.trans hF
                  refine ab_iconst (v := (0 : Int32)) C dX9_holder_100 (by decide) ?_
                  refine ab_iadd C dX9_holder_101 ?_
                  refine ab_topi (fun v13 qv13 => ?_)
                  replace hF := aLet_e hF v13 qv13
                  refine ab_istore (lv' := [(4, .int v13), (3, .int v11), (0, .ref a0), (1, .int x1), (2, .int x2), (5, .int v6), (6, .int v9)]) C dX9_holder_102 (by decide) rfl ?_
                  obtain ⟨v14, qv14⟩ : ∃ y : Int32, y = (v6 + (1 : Int32)) := ⟨_, rfl⟩
                  replace hF := aLet_e hF v14 qv14
                  refine ab_iinc (lv' := [(5, .int v14), (4, .int v13), (3, .int v11), (0, .ref a0), (1, .int x1), (2, .int x2), (6, .int v9)]) C 5 rfl dX9_holder_104 (by rw [qv14]; rfl) (by decide) rfl ?_
                  refine ab_goto C 30 dX9_holder_107 (by decide) ?_
                  refine aV.sub (lv' := [(0, .ref a0), (1, .int x1), (2, .int x2), (3, .int v11), (4, .int v13), (5, .int v14)]) [3, 4, 5, 2, 1, 0] rfl ?_
                  exact ih30 v11 v13 v14 res30 hF KX30
                · replace hF := (if_neg c12).symm.trans hF
                  refine ab_iload C 5 rfl dX9_holder_92 ?_
                  refine ab_cSR (v := .int (X9_priceOf v6)) (st := [.int v5]) C lm_X9_159 (X9_priceOf_ok (xl X) (r := (X9_priceOf v6)) rfl) rfl rfl (by decide) ⟨Nat.zero_le _, Nat.zero_le _⟩ (Nat.le_of_ble_eq_true rfl) dX9_holder_94 ?_
                  refine ab_goto C 101 dX9_holder_97 (by decide) ?_
                  refine ab_iadd C dX9_holder_101 ?_
                  refine ab_topi (fun v15 qv15 => ?_)
                  replace hF := aLet_e hF v15 qv15
                  refine ab_istore (lv' := [(4, .int v15), (3, .int v11), (0, .ref a0), (1, .int x1), (2, .int x2), (5, .int v6), (6, .int v9)]) C dX9_holder_102 (by decide) rfl ?_
                  obtain ⟨v16, qv16⟩ : ∃ y : Int32, y = (v6 + (1 : Int32)) := ⟨_, rfl⟩
                  replace hF := aLet_e hF v16 qv16
                  refine ab_iinc (lv' := [(5, .int v16), (4, .int v15), (3, .int v11), (0, .ref a0), (1, .int x1), (2, .int x2), (6, .int v9)]) C 5 rfl dX9_holder_104 (by rw [qv16]; rfl) (by decide) rfl ?_
                  refine ab_goto C 30 dX9_holder_107 (by decide) ?_
                  refine aV.sub (lv' := [(0, .ref a0), (1, .int x1), (2, .int x2), (3, .int v11), (4, .int v15), (5, .int v16)]) [3, 4, 5, 2, 1, 0] rfl ?_
                  exact ih30 v11 v15 v16 res30 hF KX30
              refine ab_if_eq C 82 dX9_holder_75 (by decide) (fun c17 => ?_) (fun c17 => ?_)
              · replace hF := (if_pos c17).symm.trans hF
                refine ab_iconst (v := (0 : Int32)) C dX9_holder_82 (by decide) ?_
                refine aV.sub (lv' := [(0, .ref a0), (1, .int x1), (2, .int x2), (4, .int v5), (5, .int v6), (6, .int v9)]) [1, 2, 3, 5, 6, 0] rfl ?_
                exact J83 (0 : Int32) hF
              · replace hF := (if_neg c17).symm.trans hF
                refine ab_iconst (v := (1 : Int32)) C dX9_holder_78 (by decide) ?_
                refine ab_goto C 83 dX9_holder_79 (by decide) ?_
                refine aV.sub (lv' := [(0, .ref a0), (1, .int x1), (2, .int x2), (4, .int v5), (5, .int v6), (6, .int v9)]) [1, 2, 3, 5, 6, 0] rfl ?_
                exact J83 (1 : Int32) hF
            have J69 : X9_holder_J69 v4 v5 v6 (X9_holder_L30 S0 x1 n30) = some res30 → aV X G 7 69 [(0, .ref a0), (1, .int x1), (2, .int x2), (3, .int v4), (4, .int v5), (5, .int v6)] [] h nx 0 0 := by
              intro  hF
              rw [X9_holder_J69] at hF
              refine ab_iconst (v := (0 : Int32)) C dX9_holder_69 (by decide) ?_
              exact J70 (0 : Int32) hF
            refine ab_if_eq C 69 dX9_holder_46 (by decide) (fun c18 => ?_) (fun c18 => ?_)
            · replace hF := (if_pos c18).symm.trans hF
              exact J69 hF
            · replace hF := (if_neg c18).symm.trans hF
              refine ab_aload_n C 0 rfl rfl dX9_holder_49 ?_
              refine ab_g9 (v := .ref (a0 + 1)) C lf_X9_7 hB0.1 rfl dX9_holder_50 ?_
              refine ab_bipush (v := (52 : Int32)) C dX9_holder_53 (by decide) ?_
              refine ab_iload C 5 rfl dX9_holder_55 ?_
              refine ab_iadd C dX9_holder_57 ?_
              obtain ⟨v19, hxv19, hF⟩ := Option.bind_eq_some_iff.mp hF
              refine ab_iald C (X9_r0 hB0) hxv19 dX9_holder_58 ?_
              refine ab_iload_n C 1 rfl rfl dX9_holder_59 ?_
              refine ab_iconst (v := (1 : Int32)) C dX9_holder_60 (by decide) ?_
              refine ab_iadd C dX9_holder_61 ?_
              refine ab_icmp_ne C 69 dX9_holder_62 (by decide) (fun c20 => ?_) (fun c20 => ?_)
              · replace hF := (if_neg c20).symm.trans hF
                exact J69 hF
              · replace hF := (if_pos c20).symm.trans hF
                refine ab_iconst (v := (1 : Int32)) C dX9_holder_65 (by decide) ?_
                refine ab_goto C 70 dX9_holder_66 (by decide) ?_
                exact J70 (1 : Int32) hF
      refine aV.sub (lv' := [(0, .ref a0), (1, .int x1), (2, .int x2), (3, .int (0 : Int32)), (4, .int (0 : Int32)), (5, .int (0 : Int32))]) [3, 4, 5, 2, 1, 0] rfl ?_
      obtain ⟨e21, he21, hF⟩ := Option.bind_eq_some_iff.mp hF
      refine L30 aFu (0 : Int32) (0 : Int32) (0 : Int32) e21 he21 ?_
      refine ab_iconst (v := (0 : Int32)) C dX9_holder_110 (by decide) ?_
      refine ab_istore (lv' := [(5, .int (0 : Int32)), (0, .ref a0), (1, .int x1), (2, .int x2), (3, .int e21.1), (4, .int e21.2)]) C dX9_holder_111 (by decide) rfl ?_
      refine ab_iconst (v := (0 : Int32)) C dX9_holder_113 (by decide) ?_
      refine ab_istore (lv' := [(6, .int (0 : Int32)), (5, .int (0 : Int32)), (0, .ref a0), (1, .int x1), (2, .int x2), (3, .int e21.1), (4, .int e21.2)]) C dX9_holder_114 (by decide) rfl ?_
      have L116 : ∀ (n116 : Nat) (v22 : Int32) (v23 : Int32), ∀ (res116 : Int32), X9_holder_L116 S0 x1 n116 v22 v23 = some res116 → (aV X G 7 159 [(0, .ref a0), (1, .int x1), (2, .int x2), (3, .int e21.1), (4, .int e21.2), (5, .int res116)] [] h nx 0 0) → aV X G 7 116 [(0, .ref a0), (1, .int x1), (2, .int x2), (3, .int e21.1), (4, .int e21.2), (5, .int v22), (6, .int v23)] [] h nx 0 0 := by
        intro n116
        induction n116 with
        | zero => intro v22 v23 res116 hF KX116; cases (show (none : Option (Int32)) = some res116 from hF)
        | succ n116 ih116 =>
          intro v22 v23 res116 hF KX116
          rw [X9_holder_L116] at hF
          refine ab_iload C 6 rfl dX9_holder_116 ?_
          refine ab_aload_n C 0 rfl rfl dX9_holder_118 ?_
          refine ab_g9 (v := .ref (a0 + 1)) C lf_X9_7 hB0.1 rfl dX9_holder_119 ?_
          refine ab_iconst (v := (4 : Int32)) C dX9_holder_122 (by decide) ?_
          obtain ⟨v24, hxv24, hF⟩ := Option.bind_eq_some_iff.mp hF
          refine ab_iald C (X9_r0 hB0) hxv24 dX9_holder_123 ?_
          refine ab_icmp_ge C 159 dX9_holder_124 (by decide) (fun c25 => ?_) (fun c25 => ?_)
          · replace hF := (if_pos c25).symm.trans hF
            obtain rfl := Option.some.inj hF
            refine aV.sub (lv' := [(0, .ref a0), (1, .int x1), (2, .int x2), (3, .int e21.1), (4, .int e21.2), (5, .int v22)]) [0, 1, 2, 3, 4, 5] rfl ?_
            exact KX116
          · replace hF := (if_neg c25).symm.trans hF
            refine ab_iload C 5 rfl dX9_holder_127 ?_
            refine ab_aload_n C 0 rfl rfl dX9_holder_129 ?_
            refine ab_g9 (v := .ref (a0 + 1)) C lf_X9_7 hB0.1 rfl dX9_holder_130 ?_
            refine ab_iload_n C 1 rfl rfl dX9_holder_133 ?_
            refine ab_iload C 6 rfl dX9_holder_134 ?_
            obtain ⟨v26, hxv26, hF⟩ := Option.bind_eq_some_iff.mp hF
            refine ab_cSR (v := .int v26) (st := [.int v22]) C lm_X9_162 (X9_can_ok (xl X) (X9_r0 hB0) (r := v26) hxv26) rfl rfl (by decide) ⟨Nat.zero_le _, Nat.zero_le _⟩ (Nat.le_of_ble_eq_true rfl) dX9_holder_136 ?_
            refine ab_if_eq C 149 dX9_holder_139 (by decide) (fun c27 => ?_) (fun c27 => ?_)
            · replace hF := (if_pos c27).symm.trans hF
              refine ab_iconst (v := (0 : Int32)) C dX9_holder_149 (by decide) ?_
              refine ab_ior C dX9_holder_150 ?_
              refine ab_topi (fun v28 qv28 => ?_)
              replace hF := aLet_e hF v28 qv28
              refine ab_istore (lv' := [(5, .int v28), (0, .ref a0), (1, .int x1), (2, .int x2), (3, .int e21.1), (4, .int e21.2), (6, .int v23)]) C dX9_holder_151 (by decide) rfl ?_
              obtain ⟨v29, qv29⟩ : ∃ y : Int32, y = (v23 + (1 : Int32)) := ⟨_, rfl⟩
              replace hF := aLet_e hF v29 qv29
              refine ab_iinc (lv' := [(6, .int v29), (5, .int v28), (0, .ref a0), (1, .int x1), (2, .int x2), (3, .int e21.1), (4, .int e21.2)]) C 6 rfl dX9_holder_153 (by rw [qv29]; rfl) (by decide) rfl ?_
              refine ab_goto C 116 dX9_holder_156 (by decide) ?_
              refine aV.sub (lv' := [(0, .ref a0), (1, .int x1), (2, .int x2), (3, .int e21.1), (4, .int e21.2), (5, .int v28), (6, .int v29)]) [2, 3, 4, 5, 6, 1, 0] rfl ?_
              exact ih116 v28 v29 res116 hF KX116
            · replace hF := (if_neg c27).symm.trans hF
              refine ab_iconst (v := (1 : Int32)) C dX9_holder_142 (by decide) ?_
              refine ab_iload C 6 rfl dX9_holder_143 ?_
              refine ab_ishl C dX9_holder_145 ?_
              refine ab_goto C 150 dX9_holder_146 (by decide) ?_
              refine ab_ior C dX9_holder_150 ?_
              refine ab_topi (fun v30 qv30 => ?_)
              replace hF := aLet_e hF v30 qv30
              refine ab_istore (lv' := [(5, .int v30), (0, .ref a0), (1, .int x1), (2, .int x2), (3, .int e21.1), (4, .int e21.2), (6, .int v23)]) C dX9_holder_151 (by decide) rfl ?_
              obtain ⟨v31, qv31⟩ : ∃ y : Int32, y = (v23 + (1 : Int32)) := ⟨_, rfl⟩
              replace hF := aLet_e hF v31 qv31
              refine ab_iinc (lv' := [(6, .int v31), (5, .int v30), (0, .ref a0), (1, .int x1), (2, .int x2), (3, .int e21.1), (4, .int e21.2)]) C 6 rfl dX9_holder_153 (by rw [qv31]; rfl) (by decide) rfl ?_
              refine ab_goto C 116 dX9_holder_156 (by decide) ?_
              refine aV.sub (lv' := [(0, .ref a0), (1, .int x1), (2, .int x2), (3, .int e21.1), (4, .int e21.2), (5, .int v30), (6, .int v31)]) [2, 3, 4, 5, 6, 1, 0] rfl ?_
              exact ih116 v30 v31 res116 hF KX116
      refine aV.sub (lv' := [(0, .ref a0), (1, .int x1), (2, .int x2), (3, .int e21.1), (4, .int e21.2), (5, .int (0 : Int32)), (6, .int (0 : Int32))]) [2, 3, 4, 5, 6, 1, 0] rfl ?_
      obtain ⟨e32, he32, hF⟩ := Option.bind_eq_some_iff.mp hF
      refine L116 aFu (0 : Int32) (0 : Int32) e32 he32 ?_
      refine ab_iload_n C 2 rfl rfl dX9_holder_159 ?_
      rcases Classical.em (x2 = (0 : Int32)) with c33 | c33
      · replace hF := (if_pos c33).symm.trans hF
        refine ab_tableIn (off := 36) C 196 dX9_holder_160 (by rw [c33]; decide) (by rw [c33]; decide) (by rw [c33]; rfl) (by decide) ?_
        refine ab_aload_n C 0 rfl rfl dX9_holder_196 ?_
        refine ab_g9 (v := .ref (a0 + 1)) C lf_X9_7 hB0.1 rfl dX9_holder_197 ?_
        refine ab_iconst (v := (5 : Int32)) C dX9_holder_200 (by decide) ?_
        refine ab_iload_n C 1 rfl rfl dX9_holder_201 ?_
        refine ab_iadd C dX9_holder_202 ?_
        obtain ⟨v34, hxv34, hF⟩ := Option.bind_eq_some_iff.mp hF
        refine ab_iald C (X9_r0 hB0) hxv34 dX9_holder_203 ?_
        obtain rfl := Option.some.inj hF
        exact ab_iret C R0 rfl dX9_holder_204 ⟨rfl, rfl, rfl⟩
      replace hF := (if_neg c33).symm.trans hF
      rcases Classical.em (x2 = (1 : Int32)) with c35 | c35
      · replace hF := (if_pos c35).symm.trans hF
        refine ab_tableIn (off := 45) C 205 dX9_holder_160 (by rw [c35]; decide) (by rw [c35]; decide) (by rw [c35]; rfl) (by decide) ?_
        refine ab_iload_n C 3 rfl rfl dX9_holder_205 ?_
        obtain rfl := Option.some.inj hF
        exact ab_iret C R0 rfl dX9_holder_206 ⟨rfl, rfl, rfl⟩
      replace hF := (if_neg c35).symm.trans hF
      rcases Classical.em (x2 = (2 : Int32)) with c36 | c36
      · replace hF := (if_pos c36).symm.trans hF
        refine ab_tableIn (off := 47) C 207 dX9_holder_160 (by rw [c36]; decide) (by rw [c36]; decide) (by rw [c36]; rfl) (by decide) ?_
        refine ab_iload C 4 rfl dX9_holder_207 ?_
        obtain rfl := Option.some.inj hF
        exact ab_iret C R0 rfl dX9_holder_209 ⟨rfl, rfl, rfl⟩
      replace hF := (if_neg c36).symm.trans hF
      rcases Classical.em (x2 = (3 : Int32)) with c37 | c37
      · replace hF := (if_pos c37).symm.trans hF
        refine ab_tableIn (off := 50) C 210 dX9_holder_160 (by rw [c37]; decide) (by rw [c37]; decide) (by rw [c37]; rfl) (by decide) ?_
        refine ab_aload_n C 0 rfl rfl dX9_holder_210 ?_
        refine ab_g9 (v := .ref (a0 + 1)) C lf_X9_7 hB0.1 rfl dX9_holder_211 ?_
        refine ab_iload_n C 1 rfl rfl dX9_holder_214 ?_
        obtain ⟨v38, hxv38, hF⟩ := Option.bind_eq_some_iff.mp hF
        refine ab_cSR (v := .int v38) (st := []) C lm_X9_149 (X9_says_ok (xl X) (X9_r0 hB0) (r := v38) hxv38) rfl rfl (by decide) ⟨Nat.zero_le _, Nat.zero_le _⟩ (Nat.le_of_ble_eq_true rfl) dX9_holder_215 ?_
        obtain rfl := Option.some.inj hF
        exact ab_iret C R0 rfl dX9_holder_218 ⟨rfl, rfl, rfl⟩
      replace hF := (if_neg c37).symm.trans hF
      rcases Classical.em (x2 = (4 : Int32)) with c39 | c39
      · replace hF := (if_pos c39).symm.trans hF
        refine ab_tableIn (off := 59) C 219 dX9_holder_160 (by rw [c39]; decide) (by rw [c39]; decide) (by rw [c39]; rfl) (by decide) ?_
        refine ab_aload_n C 0 rfl rfl dX9_holder_219 ?_
        refine ab_g9 (v := .ref (a0 + 1)) C lf_X9_7 hB0.1 rfl dX9_holder_220 ?_
        refine ab_iload_n C 1 rfl rfl dX9_holder_223 ?_
        obtain ⟨v40, hxv40, hF⟩ := Option.bind_eq_some_iff.mp hF
        refine ab_cSR (v := .int v40) (st := []) C lm_X9_149 (X9_says_ok (xl X) (X9_r0 hB0) (r := v40) hxv40) rfl rfl (by decide) ⟨Nat.zero_le _, Nat.zero_le _⟩ (Nat.le_of_ble_eq_true rfl) dX9_holder_224 ?_
        obtain ⟨v41, hxv41, hF⟩ := Option.bind_eq_some_iff.mp hF
        refine ab_cSR (v := .int v41) (st := []) C lm_X9_165 (X9_bits_ok (xl X) (r := v41) hxv41) rfl rfl (by decide) ⟨Nat.zero_le _, Nat.zero_le _⟩ (Nat.le_of_ble_eq_true rfl) dX9_holder_227 ?_
        obtain rfl := Option.some.inj hF
        exact ab_iret C R0 rfl dX9_holder_230 ⟨rfl, rfl, rfl⟩
      replace hF := (if_neg c39).symm.trans hF
      refine ab_tableOut C 231 dX9_holder_160 (by have zc33 := lv_neT (a := 0) c33 (by decide); have zc35 := lv_neT (a := 1) c35 (by decide); have zc36 := lv_neT (a := 2) c36 (by decide); have zc37 := lv_neT (a := 3) c37 (by decide); have zc39 := lv_neT (a := 4) c39 (by decide); omega) (by decide) ?_
      refine ab_iload C 5 rfl dX9_holder_231 ?_
      obtain rfl := Option.some.inj hF
      exact ab_iret C R0 rfl dX9_holder_233 ⟨rfl, rfl, rfl⟩
    · replace hF := (if_pos c3).symm.trans hF
      refine ab_iconst (v := (-1 : Int32)) C dX9_holder_20 (by decide) ?_
      obtain rfl := Option.some.inj hF
      exact ab_iret C R0 rfl dX9_holder_21 ⟨rfl, rfl, rfl⟩
theorem dX9_named_0 : decode cX9_named 0 = .ok (.iload_n 0, 1) := by decide +kernel
theorem dX9_named_1 : decode cX9_named 1 = .ok (.ifCond .ne 8, 3) := by decide +kernel
theorem dX9_named_4 : decode cX9_named 4 = .ok (.bipush (-4), 2) := by decide +kernel
theorem dX9_named_6 : decode cX9_named 6 = .ok (.goto 6, 3) := by decide +kernel
theorem dX9_named_9 : decode cX9_named 9 = .ok (.iload_n 0, 1) := by decide +kernel
theorem dX9_named_10 : decode cX9_named 10 = .ok (.iconst 1, 1) := by decide +kernel
theorem dX9_named_11 : decode cX9_named 11 = .ok (.isub, 1) := by decide +kernel
theorem dX9_named_12 : decode cX9_named 12 = .ok (.ireturn, 1) := by decide +kernel
def X9_named (x0 : Int32) : Int32 :=
  if x0 = 0 then
    (-4 : Int32)
  else
    (x0 - (1 : Int32))
set_option maxRecDepth 100000 in
set_option maxHeartbeats 4000000 in
theorem X9_named_ok (l : Launch) {h : aH} {nx : Nat} {x0 : Int32} {r : Int32} (hF : X9_named x0 = r) : aOk l 0 0 0 yX9_named cX9_named 1 (some .int) [.int x0] h nx (aRd (.int r) h nx) := by
  refine aOk.of (by decide +kernel) (Nat.le_of_ble_eq_true rfl) (fun X G hX C R0 _ => ?_)
  subst hX
  show aV X G 1 0 [(0, .int x0)] [] h nx 0 0
  rw [X9_named] at hF
  refine ab_iload_n C 0 rfl rfl dX9_named_0 ?_
  refine ab_if_ne C 9 dX9_named_1 (by decide) (fun c1 => ?_) (fun c1 => ?_)
  · replace hF := (if_neg c1).symm.trans hF
    refine ab_iload_n C 0 rfl rfl dX9_named_9 ?_
    refine ab_iconst (v := (1 : Int32)) C dX9_named_10 (by decide) ?_
    refine ab_isub C dX9_named_11 ?_
    obtain rfl := hF
    exact ab_iret C R0 rfl dX9_named_12 ⟨rfl, rfl, rfl⟩
  · replace hF := (if_pos c1).symm.trans hF
    refine ab_bipush (v := (-4 : Int32)) C dX9_named_4 (by decide) ?_
    refine ab_goto C 12 dX9_named_6 (by decide) ?_
    obtain rfl := hF
    exact ab_iret C R0 rfl dX9_named_12 ⟨rfl, rfl, rfl⟩
theorem dX9_cell_0 : decode cX9_cell 0 = .ok (.aload_n 0, 1) := by decide +kernel
theorem dX9_cell_1 : decode cX9_cell 1 = .ok (.iload_n 1, 1) := by decide +kernel
theorem dX9_cell_2 : decode cX9_cell 2 = .ok (.invokevirtual 168, 3) := by decide +kernel
theorem dX9_cell_5 : decode cX9_cell 5 = .ok (.ifCond .eq 15, 3) := by decide +kernel
theorem dX9_cell_8 : decode cX9_cell 8 = .ok (.iload_n 2, 1) := by decide +kernel
theorem dX9_cell_9 : decode cX9_cell 9 = .ok (.i2l, 1) := by decide +kernel
theorem dX9_cell_10 : decode cX9_cell 10 = .ok (.lconst 0, 1) := by decide +kernel
theorem dX9_cell_11 : decode cX9_cell 11 = .ok (.ldc2_w 171, 3) := by decide +kernel
theorem dX9_cell_14 : decode cX9_cell 14 = .ok (.invokestatic 69, 3) := by decide +kernel
theorem dX9_cell_17 : decode cX9_cell 17 = .ok (.ifCond .ne 5, 3) := by decide +kernel
theorem dX9_cell_20 : decode cX9_cell 20 = .ok (.iconst (-1), 1) := by decide +kernel
theorem dX9_cell_21 : decode cX9_cell 21 = .ok (.ireturn, 1) := by decide +kernel
theorem dX9_cell_22 : decode cX9_cell 22 = .ok (.iload_n 1, 1) := by decide +kernel
theorem dX9_cell_23 : decode cX9_cell 23 = .ok (.invokestatic 173, 3) := by decide +kernel
theorem dX9_cell_26 : decode cX9_cell 26 = .ok (.istore_n 3, 1) := by decide +kernel
theorem dX9_cell_27 : decode cX9_cell 27 = .ok (.iload_n 2, 1) := by decide +kernel
theorem dX9_cell_28 : decode cX9_cell 28 = .ok (.ifCond .ne 15, 3) := by decide +kernel
theorem dX9_cell_31 : decode cX9_cell 31 = .ok (.aload_n 0, 1) := by decide +kernel
theorem dX9_cell_32 : decode cX9_cell 32 = .ok (.getfield 7, 3) := by decide +kernel
theorem dX9_cell_35 : decode cX9_cell 35 = .ok (.bipush 16, 2) := by decide +kernel
theorem dX9_cell_37 : decode cX9_cell 37 = .ok (.iload_n 3, 1) := by decide +kernel
theorem dX9_cell_38 : decode cX9_cell 38 = .ok (.iadd, 1) := by decide +kernel
theorem dX9_cell_39 : decode cX9_cell 39 = .ok (.iaload, 1) := by decide +kernel
theorem dX9_cell_40 : decode cX9_cell 40 = .ok (.goto 27, 3) := by decide +kernel
theorem dX9_cell_43 : decode cX9_cell 43 = .ok (.iload_n 2, 1) := by decide +kernel
theorem dX9_cell_44 : decode cX9_cell 44 = .ok (.iconst 1, 1) := by decide +kernel
theorem dX9_cell_45 : decode cX9_cell 45 = .ok (.if_icmp .ne 18, 3) := by decide +kernel
theorem dX9_cell_48 : decode cX9_cell 48 = .ok (.aload_n 0, 1) := by decide +kernel
theorem dX9_cell_49 : decode cX9_cell 49 = .ok (.getfield 7, 3) := by decide +kernel
theorem dX9_cell_52 : decode cX9_cell 52 = .ok (.bipush 52, 2) := by decide +kernel
theorem dX9_cell_54 : decode cX9_cell 54 = .ok (.iload_n 3, 1) := by decide +kernel
theorem dX9_cell_55 : decode cX9_cell 55 = .ok (.iadd, 1) := by decide +kernel
theorem dX9_cell_56 : decode cX9_cell 56 = .ok (.iaload, 1) := by decide +kernel
theorem dX9_cell_57 : decode cX9_cell 57 = .ok (.invokestatic 176, 3) := by decide +kernel
theorem dX9_cell_60 : decode cX9_cell 60 = .ok (.goto 7, 3) := by decide +kernel
theorem dX9_cell_63 : decode cX9_cell 63 = .ok (.iload_n 3, 1) := by decide +kernel
theorem dX9_cell_64 : decode cX9_cell 64 = .ok (.invokestatic 159, 3) := by decide +kernel
theorem dX9_cell_67 : decode cX9_cell 67 = .ok (.ireturn, 1) := by decide +kernel
def X9_cell (S0 : Rec) (x1 : Int32) (x2 : Int32) : Option (Int32) :=
  (X9_isCell S0 x1).bind fun v1 =>
  if v1 = 0 then
    some (-1 : Int32)
  else
    if (X9_in (x2.toInt64) (0 : Int64) (2 : Int64)) = 0 then
      some (-1 : Int32)
    else
      aLet (X9_placeOf x1) fun v4 =>
      if x2 = 0 then
        (rdI (S0.2.1 0) 96 ((16 : Int32) + v4)).bind fun v8 =>
        some v8
      else
        if x2 = (1 : Int32) then
          (rdI (S0.2.1 0) 96 ((52 : Int32) + v4)).bind fun v7 =>
          some (X9_named v7)
        else
          some (X9_priceOf v4)
set_option maxRecDepth 100000 in
set_option maxHeartbeats 4000000 in
theorem X9_cell_ok (l : Launch) {h : aH} {nx : Nat} {a0 : Nat} {S0 : Rec} {x1 : Int32} {x2 : Int32} (hB0 : X9_at h a0 S0) {r : Int32} (hF : X9_cell S0 x1 x2 = some r) : aOk l 1 0 0 yX9_cell cX9_cell 4 (some .int) [.ref a0, .int x1, .int x2] h nx (aRd (.int r) h nx) := by
  refine aOk.of (by decide +kernel) (Nat.le_of_ble_eq_true rfl) (fun X G hX C R0 _ => ?_)
  subst hX
  show aV X G 4 0 [(0, .ref a0), (1, .int x1), (2, .int x2)] [] h nx 0 0
  rw [X9_cell] at hF
  refine ab_aload_n C 0 rfl rfl dX9_cell_0 ?_
  refine ab_iload_n C 1 rfl rfl dX9_cell_1 ?_
  obtain ⟨v1, hxv1, hF⟩ := Option.bind_eq_some_iff.mp hF
  refine ab_cVR (v := .int v1) (st := []) C lm_X9_168 (X9_isCell_ok (xl X) hB0 (r := v1) hxv1) [.int x1] rfl hB0.1 rfl rfl rfl (by decide) ⟨Nat.zero_le _, Nat.zero_le _⟩ (Nat.le_of_ble_eq_true rfl) dX9_cell_2 ?_
  refine ab_if_eq C 20 dX9_cell_5 (by decide) (fun c2 => ?_) (fun c2 => ?_)
  · replace hF := (if_pos c2).symm.trans hF
    refine ab_iconst (v := (-1 : Int32)) C dX9_cell_20 (by decide) ?_
    obtain rfl := Option.some.inj hF
    exact ab_iret C R0 rfl dX9_cell_21 ⟨rfl, rfl, rfl⟩
  · replace hF := (if_neg c2).symm.trans hF
    refine ab_iload_n C 2 rfl rfl dX9_cell_8 ?_
    refine ab_i2l C dX9_cell_9 ?_
    refine ab_lconst (v := (0 : Int64)) C dX9_cell_10 (by decide) ?_
    refine ab_ldc2 (v := (2 : Int64)) C dX9_cell_11 lq_X9_171 ?_
    refine ab_cSR (v := .int (X9_in (x2.toInt64) (0 : Int64) (2 : Int64))) (st := []) C lm_X9_69 (X9_in_ok (xl X) (r := (X9_in (x2.toInt64) (0 : Int64) (2 : Int64))) rfl) rfl rfl (by decide) ⟨Nat.zero_le _, Nat.zero_le _⟩ (Nat.le_of_ble_eq_true rfl) dX9_cell_14 ?_
    refine ab_if_ne C 22 dX9_cell_17 (by decide) (fun c3 => ?_) (fun c3 => ?_)
    · replace hF := (if_neg c3).symm.trans hF
      refine ab_iload_n C 1 rfl rfl dX9_cell_22 ?_
      refine ab_cSR (v := .int (X9_placeOf x1)) (st := []) C lm_X9_173 (X9_placeOf_ok (xl X) (r := (X9_placeOf x1)) rfl) rfl rfl (by decide) ⟨Nat.zero_le _, Nat.zero_le _⟩ (Nat.le_of_ble_eq_true rfl) dX9_cell_23 ?_
      refine ab_topi (fun v4 qv4 => ?_)
      replace hF := aLet_e hF v4 qv4
      refine ab_istore_n (lv' := [(3, .int v4), (0, .ref a0), (1, .int x1), (2, .int x2)]) C dX9_cell_26 rfl (by decide) rfl ?_
      refine ab_iload_n C 3 rfl rfl dX9_cell_27 ?_
      refine ab_if_ne C 43 dX9_cell_28 (by decide) (fun c5 => ?_) (fun c5 => ?_)
      · replace hF := (if_neg c5).symm.trans hF
        refine ab_iload_n C 3 rfl rfl dX9_cell_43 ?_
        refine ab_iconst (v := (1 : Int32)) C dX9_cell_44 (by decide) ?_
        refine ab_icmp_ne C 63 dX9_cell_45 (by decide) (fun c6 => ?_) (fun c6 => ?_)
        · replace hF := (if_neg c6).symm.trans hF
          refine ab_iload_n C 0 rfl rfl dX9_cell_63 ?_
          refine ab_cSR (v := .int (X9_priceOf v4)) (st := []) C lm_X9_159 (X9_priceOf_ok (xl X) (r := (X9_priceOf v4)) rfl) rfl rfl (by decide) ⟨Nat.zero_le _, Nat.zero_le _⟩ (Nat.le_of_ble_eq_true rfl) dX9_cell_64 ?_
          obtain rfl := Option.some.inj hF
          exact ab_iret C R0 rfl dX9_cell_67 ⟨rfl, rfl, rfl⟩
        · replace hF := (if_pos c6).symm.trans hF
          refine ab_aload_n C 1 rfl rfl dX9_cell_48 ?_
          refine ab_g9 (v := .ref (a0 + 1)) C lf_X9_7 hB0.1 rfl dX9_cell_49 ?_
          refine ab_bipush (v := (52 : Int32)) C dX9_cell_52 (by decide) ?_
          refine ab_iload_n C 0 rfl rfl dX9_cell_54 ?_
          refine ab_iadd C dX9_cell_55 ?_
          obtain ⟨v7, hxv7, hF⟩ := Option.bind_eq_some_iff.mp hF
          refine ab_iald C (X9_r0 hB0) hxv7 dX9_cell_56 ?_
          refine ab_cSR (v := .int (X9_named v7)) (st := []) C lm_X9_176 (X9_named_ok (xl X) (r := (X9_named v7)) rfl) rfl rfl (by decide) ⟨Nat.zero_le _, Nat.zero_le _⟩ (Nat.le_of_ble_eq_true rfl) dX9_cell_57 ?_
          refine ab_goto C 67 dX9_cell_60 (by decide) ?_
          obtain rfl := Option.some.inj hF
          exact ab_iret C R0 rfl dX9_cell_67 ⟨rfl, rfl, rfl⟩
      · replace hF := (if_pos c5).symm.trans hF
        refine ab_aload_n C 1 rfl rfl dX9_cell_31 ?_
        refine ab_g9 (v := .ref (a0 + 1)) C lf_X9_7 hB0.1 rfl dX9_cell_32 ?_
        refine ab_bipush (v := (16 : Int32)) C dX9_cell_35 (by decide) ?_
        refine ab_iload_n C 0 rfl rfl dX9_cell_37 ?_
        refine ab_iadd C dX9_cell_38 ?_
        obtain ⟨v8, hxv8, hF⟩ := Option.bind_eq_some_iff.mp hF
        refine ab_iald C (X9_r0 hB0) hxv8 dX9_cell_39 ?_
        refine ab_goto C 67 dX9_cell_40 (by decide) ?_
        obtain rfl := Option.some.inj hF
        exact ab_iret C R0 rfl dX9_cell_67 ⟨rfl, rfl, rfl⟩
    · replace hF := (if_pos c3).symm.trans hF
      refine ab_iconst (v := (-1 : Int32)) C dX9_cell_20 (by decide) ?_
      obtain rfl := Option.some.inj hF
      exact ab_iret C R0 rfl dX9_cell_21 ⟨rfl, rfl, rfl⟩
theorem dX9_word_0 : decode cX9_word 0 = .ok (.aload_n 0, 1) := by decide +kernel
theorem dX9_word_1 : decode cX9_word 1 = .ok (.iload_n 1, 1) := by decide +kernel
theorem dX9_word_2 : decode cX9_word 2 = .ok (.invokevirtual 179, 3) := by decide +kernel
theorem dX9_word_5 : decode cX9_word 5 = .ok (.ifCond .eq 15, 3) := by decide +kernel
theorem dX9_word_8 : decode cX9_word 8 = .ok (.iload_n 2, 1) := by decide +kernel
theorem dX9_word_9 : decode cX9_word 9 = .ok (.i2l, 1) := by decide +kernel
theorem dX9_word_10 : decode cX9_word 10 = .ok (.lconst 0, 1) := by decide +kernel
theorem dX9_word_11 : decode cX9_word 11 = .ok (.ldc2_w 171, 3) := by decide +kernel
theorem dX9_word_14 : decode cX9_word 14 = .ok (.invokestatic 69, 3) := by decide +kernel
theorem dX9_word_17 : decode cX9_word 17 = .ok (.ifCond .ne 5, 3) := by decide +kernel
theorem dX9_word_20 : decode cX9_word 20 = .ok (.iconst (-1), 1) := by decide +kernel
theorem dX9_word_21 : decode cX9_word 21 = .ok (.ireturn, 1) := by decide +kernel
theorem dX9_word_22 : decode cX9_word 22 = .ok (.iload_n 2, 1) := by decide +kernel
theorem dX9_word_23 : decode cX9_word 23 = .ok (.iconst 2, 1) := by decide +kernel
theorem dX9_word_24 : decode cX9_word 24 = .ok (.if_icmp .ge 17, 3) := by decide +kernel
theorem dX9_word_27 : decode cX9_word 27 = .ok (.aload_n 0, 1) := by decide +kernel
theorem dX9_word_28 : decode cX9_word 28 = .ok (.getfield 7, 3) := by decide +kernel
theorem dX9_word_31 : decode cX9_word 31 = .ok (.bipush 88, 2) := by decide +kernel
theorem dX9_word_33 : decode cX9_word 33 = .ok (.iconst 2, 1) := by decide +kernel
theorem dX9_word_34 : decode cX9_word 34 = .ok (.iload_n 1, 1) := by decide +kernel
theorem dX9_word_35 : decode cX9_word 35 = .ok (.imul, 1) := by decide +kernel
theorem dX9_word_36 : decode cX9_word 36 = .ok (.iadd, 1) := by decide +kernel
theorem dX9_word_37 : decode cX9_word 37 = .ok (.iload_n 2, 1) := by decide +kernel
theorem dX9_word_38 : decode cX9_word 38 = .ok (.iadd, 1) := by decide +kernel
theorem dX9_word_39 : decode cX9_word 39 = .ok (.iaload, 1) := by decide +kernel
theorem dX9_word_40 : decode cX9_word 40 = .ok (.ireturn, 1) := by decide +kernel
theorem dX9_word_41 : decode cX9_word 41 = .ok (.iconst 0, 1) := by decide +kernel
theorem dX9_word_42 : decode cX9_word 42 = .ok (.istore_n 3, 1) := by decide +kernel
theorem dX9_word_43 : decode cX9_word 43 = .ok (.iconst 0, 1) := by decide +kernel
theorem dX9_word_44 : decode cX9_word 44 = .ok (.istore 4, 2) := by decide +kernel
theorem dX9_word_46 : decode cX9_word 46 = .ok (.iload 4, 2) := by decide +kernel
theorem dX9_word_48 : decode cX9_word 48 = .ok (.aload_n 0, 1) := by decide +kernel
theorem dX9_word_49 : decode cX9_word 49 = .ok (.getfield 7, 3) := by decide +kernel
theorem dX9_word_52 : decode cX9_word 52 = .ok (.iconst 0, 1) := by decide +kernel
theorem dX9_word_53 : decode cX9_word 53 = .ok (.iaload, 1) := by decide +kernel
theorem dX9_word_54 : decode cX9_word 54 = .ok (.if_icmp .ge 33, 3) := by decide +kernel
theorem dX9_word_57 : decode cX9_word 57 = .ok (.iload_n 3, 1) := by decide +kernel
theorem dX9_word_58 : decode cX9_word 58 = .ok (.aload_n 0, 1) := by decide +kernel
theorem dX9_word_59 : decode cX9_word 59 = .ok (.getfield 7, 3) := by decide +kernel
theorem dX9_word_62 : decode cX9_word 62 = .ok (.iload 4, 2) := by decide +kernel
theorem dX9_word_64 : decode cX9_word 64 = .ok (.iload_n 1, 1) := by decide +kernel
theorem dX9_word_65 : decode cX9_word 65 = .ok (.invokestatic 162, 3) := by decide +kernel
theorem dX9_word_68 : decode cX9_word 68 = .ok (.ifCond .eq 10, 3) := by decide +kernel
theorem dX9_word_71 : decode cX9_word 71 = .ok (.iconst 1, 1) := by decide +kernel
theorem dX9_word_72 : decode cX9_word 72 = .ok (.iload 4, 2) := by decide +kernel
theorem dX9_word_74 : decode cX9_word 74 = .ok (.ishl, 1) := by decide +kernel
theorem dX9_word_75 : decode cX9_word 75 = .ok (.goto 4, 3) := by decide +kernel
theorem dX9_word_78 : decode cX9_word 78 = .ok (.iconst 0, 1) := by decide +kernel
theorem dX9_word_79 : decode cX9_word 79 = .ok (.ior, 1) := by decide +kernel
theorem dX9_word_80 : decode cX9_word 80 = .ok (.istore_n 3, 1) := by decide +kernel
theorem dX9_word_81 : decode cX9_word 81 = .ok (.iinc 4 1, 3) := by decide +kernel
theorem dX9_word_84 : decode cX9_word 84 = .ok (.goto (-38), 3) := by decide +kernel
theorem dX9_word_87 : decode cX9_word 87 = .ok (.iload_n 3, 1) := by decide +kernel
theorem dX9_word_88 : decode cX9_word 88 = .ok (.ireturn, 1) := by decide +kernel
def X9_word_L46 (S0 : Rec) (x1 : Int32) : Nat → Int32 → Int32 → Option (Int32)
  | 0, _, _ => none
  | n46 + 1, v5, v6 => (rdI (S0.2.1 0) 96 (0 : Int32)).bind fun v7 =>
    if v7 ≤ v6 then
      some v5
    else
      (X9_can (S0.2.1 0) v6 x1).bind fun v9 =>
      if v9 = 0 then
        aLet (v5 ||| (0 : Int32)) fun v11 =>
        aLet (v6 + (1 : Int32)) fun v12 =>
        X9_word_L46 S0 x1 n46 v11 v12
      else
        aLet (v5 ||| ((1 : Int32) <<< (v6 &&& 31))) fun v13 =>
        aLet (v6 + (1 : Int32)) fun v14 =>
        X9_word_L46 S0 x1 n46 v13 v14
def X9_word (S0 : Rec) (x1 : Int32) (x2 : Int32) : Option (Int32) :=
  (X9_isWord S0 x1).bind fun v1 =>
  if v1 = 0 then
    some (-1 : Int32)
  else
    if (X9_in (x2.toInt64) (0 : Int64) (2 : Int64)) = 0 then
      some (-1 : Int32)
    else
      if (2 : Int32) ≤ x2 then
        (X9_word_L46 S0 x1 aFu (0 : Int32) (0 : Int32)).bind fun e15 =>
        some e15
      else
        (rdI (S0.2.1 0) 96 (((88 : Int32) + ((2 : Int32) * x1)) + x2)).bind fun v16 =>
        some v16
set_option maxRecDepth 100000 in
set_option maxHeartbeats 4000000 in
theorem X9_word_ok (l : Launch) {h : aH} {nx : Nat} {a0 : Nat} {S0 : Rec} {x1 : Int32} {x2 : Int32} (hB0 : X9_at h a0 S0) {r : Int32} (hF : X9_word S0 x1 x2 = some r) : aOk l 5 0 0 yX9_word cX9_word 5 (some .int) [.ref a0, .int x1, .int x2] h nx (aRd (.int r) h nx) := by
  refine aOk.of (by decide +kernel) (Nat.le_of_ble_eq_true rfl) (fun X G hX C R0 _ => ?_)
  subst hX
  show aV X G 5 0 [(0, .ref a0), (1, .int x1), (2, .int x2)] [] h nx 0 0
  rw [X9_word] at hF
  refine ab_aload_n C 0 rfl rfl dX9_word_0 ?_
  refine ab_iload_n C 1 rfl rfl dX9_word_1 ?_
  obtain ⟨v1, hxv1, hF⟩ := Option.bind_eq_some_iff.mp hF
  refine ab_cVR (v := .int v1) (st := []) C lm_X9_179 (X9_isWord_ok (xl X) hB0 (r := v1) hxv1) [.int x1] rfl hB0.1 rfl rfl rfl (by decide) ⟨Nat.zero_le _, Nat.zero_le _⟩ (Nat.le_of_ble_eq_true rfl) dX9_word_2 ?_
  refine ab_if_eq C 20 dX9_word_5 (by decide) (fun c2 => ?_) (fun c2 => ?_)
  · replace hF := (if_pos c2).symm.trans hF
    refine ab_iconst (v := (-1 : Int32)) C dX9_word_20 (by decide) ?_
    obtain rfl := Option.some.inj hF
    exact ab_iret C R0 rfl dX9_word_21 ⟨rfl, rfl, rfl⟩
  · replace hF := (if_neg c2).symm.trans hF
    refine ab_iload_n C 2 rfl rfl dX9_word_8 ?_
    refine ab_i2l C dX9_word_9 ?_
    refine ab_lconst (v := (0 : Int64)) C dX9_word_10 (by decide) ?_
    refine ab_ldc2 (v := (2 : Int64)) C dX9_word_11 lq_X9_171 ?_
    refine ab_cSR (v := .int (X9_in (x2.toInt64) (0 : Int64) (2 : Int64))) (st := []) C lm_X9_69 (X9_in_ok (xl X) (r := (X9_in (x2.toInt64) (0 : Int64) (2 : Int64))) rfl) rfl rfl (by decide) ⟨Nat.zero_le _, Nat.zero_le _⟩ (Nat.le_of_ble_eq_true rfl) dX9_word_14 ?_
    refine ab_if_ne C 22 dX9_word_17 (by decide) (fun c3 => ?_) (fun c3 => ?_)
    · replace hF := (if_neg c3).symm.trans hF
      refine ab_iload_n C 2 rfl rfl dX9_word_22 ?_
      refine ab_iconst (v := (2 : Int32)) C dX9_word_23 (by decide) ?_
      refine ab_icmp_ge C 41 dX9_word_24 (by decide) (fun c4 => ?_) (fun c4 => ?_)
      · replace hF := (if_pos c4).symm.trans hF
        refine ab_iconst (v := (0 : Int32)) C dX9_word_41 (by decide) ?_
        refine ab_istore_n (lv' := [(3, .int (0 : Int32)), (0, .ref a0), (1, .int x1), (2, .int x2)]) C dX9_word_42 rfl (by decide) rfl ?_
        refine ab_iconst (v := (0 : Int32)) C dX9_word_43 (by decide) ?_
        refine ab_istore (lv' := [(4, .int (0 : Int32)), (3, .int (0 : Int32)), (0, .ref a0), (1, .int x1), (2, .int x2)]) C dX9_word_44 (by decide) rfl ?_
        have L46 : ∀ (n46 : Nat) (v5 : Int32) (v6 : Int32), ∀ (res46 : Int32), X9_word_L46 S0 x1 n46 v5 v6 = some res46 → (aV X G 5 87 [(3, .int res46)] [] h nx 0 0) → aV X G 5 46 [(0, .ref a0), (1, .int x1), (3, .int v5), (4, .int v6)] [] h nx 0 0 := by
          intro n46
          induction n46 with
          | zero => intro v5 v6 res46 hF KX46; cases (show (none : Option (Int32)) = some res46 from hF)
          | succ n46 ih46 =>
            intro v5 v6 res46 hF KX46
            rw [X9_word_L46] at hF
            refine ab_iload C 3 rfl dX9_word_46 ?_
            refine ab_aload_n C 0 rfl rfl dX9_word_48 ?_
            refine ab_g9 (v := .ref (a0 + 1)) C lf_X9_7 hB0.1 rfl dX9_word_49 ?_
            refine ab_iconst (v := (0 : Int32)) C dX9_word_52 (by decide) ?_
            obtain ⟨v7, hxv7, hF⟩ := Option.bind_eq_some_iff.mp hF
            refine ab_iald C (X9_r0 hB0) hxv7 dX9_word_53 ?_
            refine ab_icmp_ge C 87 dX9_word_54 (by decide) (fun c8 => ?_) (fun c8 => ?_)
            · replace hF := (if_pos c8).symm.trans hF
              obtain rfl := Option.some.inj hF
              refine aV.sub (lv' := [(3, .int v5)]) [2] rfl ?_
              exact KX46
            · replace hF := (if_neg c8).symm.trans hF
              refine ab_iload_n C 2 rfl rfl dX9_word_57 ?_
              refine ab_aload_n C 0 rfl rfl dX9_word_58 ?_
              refine ab_g9 (v := .ref (a0 + 1)) C lf_X9_7 hB0.1 rfl dX9_word_59 ?_
              refine ab_iload C 3 rfl dX9_word_62 ?_
              refine ab_iload_n C 1 rfl rfl dX9_word_64 ?_
              obtain ⟨v9, hxv9, hF⟩ := Option.bind_eq_some_iff.mp hF
              refine ab_cSR (v := .int v9) (st := [.int v5]) C lm_X9_162 (X9_can_ok (xl X) (X9_r0 hB0) (r := v9) hxv9) rfl rfl (by decide) ⟨Nat.zero_le _, Nat.zero_le _⟩ (Nat.le_of_ble_eq_true rfl) dX9_word_65 ?_
              refine ab_if_eq C 78 dX9_word_68 (by decide) (fun c10 => ?_) (fun c10 => ?_)
              · replace hF := (if_pos c10).symm.trans hF
                refine ab_iconst (v := (0 : Int32)) C dX9_word_78 (by decide) ?_
                refine ab_ior C dX9_word_79 ?_
                refine ab_topi (fun v11 qv11 => ?_)
                replace hF := aLet_e hF v11 qv11
                refine ab_istore_n (lv' := [(3, .int v11), (0, .ref a0), (1, .int x1), (4, .int v6)]) C dX9_word_80 rfl (by decide) rfl ?_
                obtain ⟨v12, qv12⟩ : ∃ y : Int32, y = (v6 + (1 : Int32)) := ⟨_, rfl⟩
                replace hF := aLet_e hF v12 qv12
                refine ab_iinc (lv' := [(4, .int v12), (3, .int v11), (0, .ref a0), (1, .int x1)]) C 3 rfl dX9_word_81 (by rw [qv12]; rfl) (by decide) rfl ?_
                refine ab_goto C 46 dX9_word_84 (by decide) ?_
                refine aV.sub (lv' := [(0, .ref a0), (1, .int x1), (3, .int v11), (4, .int v12)]) [2, 3, 1, 0] rfl ?_
                exact ih46 v11 v12 res46 hF KX46
              · replace hF := (if_neg c10).symm.trans hF
                refine ab_iconst (v := (1 : Int32)) C dX9_word_71 (by decide) ?_
                refine ab_iload C 3 rfl dX9_word_72 ?_
                refine ab_ishl C dX9_word_74 ?_
                refine ab_goto C 79 dX9_word_75 (by decide) ?_
                refine ab_ior C dX9_word_79 ?_
                refine ab_topi (fun v13 qv13 => ?_)
                replace hF := aLet_e hF v13 qv13
                refine ab_istore_n (lv' := [(3, .int v13), (0, .ref a0), (1, .int x1), (4, .int v6)]) C dX9_word_80 rfl (by decide) rfl ?_
                obtain ⟨v14, qv14⟩ : ∃ y : Int32, y = (v6 + (1 : Int32)) := ⟨_, rfl⟩
                replace hF := aLet_e hF v14 qv14
                refine ab_iinc (lv' := [(4, .int v14), (3, .int v13), (0, .ref a0), (1, .int x1)]) C 3 rfl dX9_word_81 (by rw [qv14]; rfl) (by decide) rfl ?_
                refine ab_goto C 46 dX9_word_84 (by decide) ?_
                refine aV.sub (lv' := [(0, .ref a0), (1, .int x1), (3, .int v13), (4, .int v14)]) [2, 3, 1, 0] rfl ?_
                exact ih46 v13 v14 res46 hF KX46
        refine aV.sub (lv' := [(0, .ref a0), (1, .int x1), (3, .int (0 : Int32)), (4, .int (0 : Int32))]) [2, 3, 1, 0] rfl ?_
        obtain ⟨e15, he15, hF⟩ := Option.bind_eq_some_iff.mp hF
        refine L46 aFu (0 : Int32) (0 : Int32) e15 he15 ?_
        refine ab_iload_n C 0 rfl rfl dX9_word_87 ?_
        obtain rfl := Option.some.inj hF
        exact ab_iret C R0 rfl dX9_word_88 ⟨rfl, rfl, rfl⟩
      · replace hF := (if_neg c4).symm.trans hF
        refine ab_aload_n C 0 rfl rfl dX9_word_27 ?_
        refine ab_g9 (v := .ref (a0 + 1)) C lf_X9_7 hB0.1 rfl dX9_word_28 ?_
        refine ab_bipush (v := (88 : Int32)) C dX9_word_31 (by decide) ?_
        refine ab_iconst (v := (2 : Int32)) C dX9_word_33 (by decide) ?_
        refine ab_iload_n C 1 rfl rfl dX9_word_34 ?_
        refine ab_imul C dX9_word_35 ?_
        refine ab_iadd C dX9_word_36 ?_
        refine ab_iload_n C 2 rfl rfl dX9_word_37 ?_
        refine ab_iadd C dX9_word_38 ?_
        obtain ⟨v16, hxv16, hF⟩ := Option.bind_eq_some_iff.mp hF
        refine ab_iald C (X9_r0 hB0) hxv16 dX9_word_39 ?_
        obtain rfl := Option.some.inj hF
        exact ab_iret C R0 rfl dX9_word_40 ⟨rfl, rfl, rfl⟩
    · replace hF := (if_pos c3).symm.trans hF
      refine ab_iconst (v := (-1 : Int32)) C dX9_word_20 (by decide) ?_
      obtain rfl := Option.some.inj hF
      exact ab_iret C R0 rfl dX9_word_21 ⟨rfl, rfl, rfl⟩
theorem dX9_as_0 : decode cX9_as 0 = .ok (.aload_n 0, 1) := by decide +kernel
theorem dX9_as_1 : decode cX9_as 1 = .ok (.iload_n 1, 1) := by decide +kernel
theorem dX9_as_2 : decode cX9_as 2 = .ok (.invokevirtual 153, 3) := by decide +kernel
theorem dX9_as_5 : decode cX9_as 5 = .ok (.ifCond .eq 15, 3) := by decide +kernel
theorem dX9_as_8 : decode cX9_as 8 = .ok (.iload_n 2, 1) := by decide +kernel
theorem dX9_as_9 : decode cX9_as 9 = .ok (.i2l, 1) := by decide +kernel
theorem dX9_as_10 : decode cX9_as 10 = .ok (.lconst 0, 1) := by decide +kernel
theorem dX9_as_11 : decode cX9_as 11 = .ok (.ldc2_w 157, 3) := by decide +kernel
theorem dX9_as_14 : decode cX9_as 14 = .ok (.invokestatic 69, 3) := by decide +kernel
theorem dX9_as_17 : decode cX9_as 17 = .ok (.ifCond .ne 5, 3) := by decide +kernel
theorem dX9_as_20 : decode cX9_as 20 = .ok (.iconst (-1), 1) := by decide +kernel
theorem dX9_as_21 : decode cX9_as 21 = .ok (.ireturn, 1) := by decide +kernel
theorem dX9_as_22 : decode cX9_as 22 = .ok (.aload_n 0, 1) := by decide +kernel
theorem dX9_as_23 : decode cX9_as 23 = .ok (.getfield 7, 3) := by decide +kernel
theorem dX9_as_26 : decode cX9_as 26 = .ok (.iconst 5, 1) := by decide +kernel
theorem dX9_as_27 : decode cX9_as 27 = .ok (.iload_n 1, 1) := by decide +kernel
theorem dX9_as_28 : decode cX9_as 28 = .ok (.iadd, 1) := by decide +kernel
theorem dX9_as_29 : decode cX9_as 29 = .ok (.iaload, 1) := by decide +kernel
theorem dX9_as_30 : decode cX9_as 30 = .ok (.istore_n 3, 1) := by decide +kernel
theorem dX9_as_31 : decode cX9_as 31 = .ok (.iload_n 2, 1) := by decide +kernel
theorem dX9_as_32 : decode cX9_as 32 = .ok (.ifCond .eq 28, 3) := by decide +kernel
theorem dX9_as_35 : decode cX9_as 35 = .ok (.iload_n 3, 1) := by decide +kernel
theorem dX9_as_36 : decode cX9_as 36 = .ok (.iload_n 2, 1) := by decide +kernel
theorem dX9_as_37 : decode cX9_as 37 = .ok (.if_icmp .eq 23, 3) := by decide +kernel
theorem dX9_as_40 : decode cX9_as 40 = .ok (.iload_n 2, 1) := by decide +kernel
theorem dX9_as_41 : decode cX9_as 41 = .ok (.iconst 1, 1) := by decide +kernel
theorem dX9_as_42 : decode cX9_as 42 = .ok (.if_icmp .ne 8, 3) := by decide +kernel
theorem dX9_as_45 : decode cX9_as 45 = .ok (.iload_n 3, 1) := by decide +kernel
theorem dX9_as_46 : decode cX9_as 46 = .ok (.iconst 4, 1) := by decide +kernel
theorem dX9_as_47 : decode cX9_as 47 = .ok (.if_icmp .lt 13, 3) := by decide +kernel
theorem dX9_as_50 : decode cX9_as 50 = .ok (.iload_n 2, 1) := by decide +kernel
theorem dX9_as_51 : decode cX9_as 51 = .ok (.iconst 4, 1) := by decide +kernel
theorem dX9_as_52 : decode cX9_as 52 = .ok (.if_icmp .ne 12, 3) := by decide +kernel
theorem dX9_as_55 : decode cX9_as 55 = .ok (.iload_n 3, 1) := by decide +kernel
theorem dX9_as_56 : decode cX9_as 56 = .ok (.iconst 5, 1) := by decide +kernel
theorem dX9_as_57 : decode cX9_as 57 = .ok (.if_icmp .ne 7, 3) := by decide +kernel
theorem dX9_as_60 : decode cX9_as 60 = .ok (.iload_n 1, 1) := by decide +kernel
theorem dX9_as_61 : decode cX9_as 61 = .ok (.goto 5, 3) := by decide +kernel
theorem dX9_as_64 : decode cX9_as 64 = .ok (.bipush (-12), 2) := by decide +kernel
theorem dX9_as_66 : decode cX9_as 66 = .ok (.ireturn, 1) := by decide +kernel
def X9_as_J50 (x2 : Int32) (v4 : Int32) (x1 : Int32) : Option (Int32) :=
  if x2 = (4 : Int32) then
    if v4 = (5 : Int32) then
      some x1
    else
      some (-12 : Int32)
  else
    some (-12 : Int32)
def X9_as (S0 : Rec) (x1 : Int32) (x2 : Int32) : Option (Int32) :=
  (X9_isHolder S0 x1).bind fun v1 =>
  if v1 = 0 then
    some (-1 : Int32)
  else
    if (X9_in (x2.toInt64) (0 : Int64) (5 : Int64)) = 0 then
      some (-1 : Int32)
    else
      (rdI (S0.2.1 0) 96 ((5 : Int32) + x1)).bind fun v4 =>
      if x2 = 0 then
        some x1
      else
        if v4 = x2 then
          some x1
        else
          if x2 = (1 : Int32) then
            if v4 < (4 : Int32) then
              some x1
            else
              X9_as_J50 x2 v4 x1
          else
            X9_as_J50 x2 v4 x1
set_option maxRecDepth 100000 in
set_option maxHeartbeats 4000000 in
theorem X9_as_ok (l : Launch) {h : aH} {nx : Nat} {a0 : Nat} {S0 : Rec} {x1 : Int32} {x2 : Int32} (hB0 : X9_at h a0 S0) {r : Int32} (hF : X9_as S0 x1 x2 = some r) : aOk l 2 0 0 yX9_as cX9_as 4 (some .int) [.ref a0, .int x1, .int x2] h nx (aRd (.int r) h nx) := by
  refine aOk.of (by decide +kernel) (Nat.le_of_ble_eq_true rfl) (fun X G hX C R0 _ => ?_)
  subst hX
  show aV X G 4 0 [(0, .ref a0), (1, .int x1), (2, .int x2)] [] h nx 0 0
  rw [X9_as] at hF
  refine ab_aload_n C 0 rfl rfl dX9_as_0 ?_
  refine ab_iload_n C 1 rfl rfl dX9_as_1 ?_
  obtain ⟨v1, hxv1, hF⟩ := Option.bind_eq_some_iff.mp hF
  refine ab_cVR (v := .int v1) (st := []) C lm_X9_153 (X9_isHolder_ok (xl X) hB0 (r := v1) hxv1) [.int x1] rfl hB0.1 rfl rfl rfl (by decide) ⟨Nat.zero_le _, Nat.zero_le _⟩ (Nat.le_of_ble_eq_true rfl) dX9_as_2 ?_
  refine ab_if_eq C 20 dX9_as_5 (by decide) (fun c2 => ?_) (fun c2 => ?_)
  · replace hF := (if_pos c2).symm.trans hF
    refine ab_iconst (v := (-1 : Int32)) C dX9_as_20 (by decide) ?_
    obtain rfl := Option.some.inj hF
    exact ab_iret C R0 rfl dX9_as_21 ⟨rfl, rfl, rfl⟩
  · replace hF := (if_neg c2).symm.trans hF
    refine ab_iload_n C 2 rfl rfl dX9_as_8 ?_
    refine ab_i2l C dX9_as_9 ?_
    refine ab_lconst (v := (0 : Int64)) C dX9_as_10 (by decide) ?_
    refine ab_ldc2 (v := (5 : Int64)) C dX9_as_11 lq_X9_157 ?_
    refine ab_cSR (v := .int (X9_in (x2.toInt64) (0 : Int64) (5 : Int64))) (st := []) C lm_X9_69 (X9_in_ok (xl X) (r := (X9_in (x2.toInt64) (0 : Int64) (5 : Int64))) rfl) rfl rfl (by decide) ⟨Nat.zero_le _, Nat.zero_le _⟩ (Nat.le_of_ble_eq_true rfl) dX9_as_14 ?_
    refine ab_if_ne C 22 dX9_as_17 (by decide) (fun c3 => ?_) (fun c3 => ?_)
    · replace hF := (if_neg c3).symm.trans hF
      refine ab_aload_n C 0 rfl rfl dX9_as_22 ?_
      refine ab_g9 (v := .ref (a0 + 1)) C lf_X9_7 hB0.1 rfl dX9_as_23 ?_
      refine ab_iconst (v := (5 : Int32)) C dX9_as_26 (by decide) ?_
      refine ab_iload_n C 1 rfl rfl dX9_as_27 ?_
      refine ab_iadd C dX9_as_28 ?_
      obtain ⟨v4, hxv4, hF⟩ := Option.bind_eq_some_iff.mp hF
      refine ab_iald C (X9_r0 hB0) hxv4 dX9_as_29 ?_
      refine ab_istore_n (lv' := [(3, .int v4), (0, .ref a0), (1, .int x1), (2, .int x2)]) C dX9_as_30 rfl (by decide) rfl ?_
      refine ab_iload_n C 3 rfl rfl dX9_as_31 ?_
      refine ab_if_eq C 60 dX9_as_32 (by decide) (fun c5 => ?_) (fun c5 => ?_)
      · replace hF := (if_pos c5).symm.trans hF
        refine ab_iload_n C 2 rfl rfl dX9_as_60 ?_
        refine ab_goto C 66 dX9_as_61 (by decide) ?_
        obtain rfl := Option.some.inj hF
        exact ab_iret C R0 rfl dX9_as_66 ⟨rfl, rfl, rfl⟩
      · replace hF := (if_neg c5).symm.trans hF
        refine ab_iload_n C 0 rfl rfl dX9_as_35 ?_
        refine ab_iload_n C 3 rfl rfl dX9_as_36 ?_
        refine ab_icmp_eq C 60 dX9_as_37 (by decide) (fun c6 => ?_) (fun c6 => ?_)
        · replace hF := (if_pos c6).symm.trans hF
          refine ab_iload_n C 2 rfl rfl dX9_as_60 ?_
          refine ab_goto C 66 dX9_as_61 (by decide) ?_
          obtain rfl := Option.some.inj hF
          exact ab_iret C R0 rfl dX9_as_66 ⟨rfl, rfl, rfl⟩
        · replace hF := (if_neg c6).symm.trans hF
          refine ab_iload_n C 3 rfl rfl dX9_as_40 ?_
          refine ab_iconst (v := (1 : Int32)) C dX9_as_41 (by decide) ?_
          have J50 : X9_as_J50 x2 v4 x1 = some r → aV X G 4 50 [(1, .int x1), (2, .int x2), (3, .int v4)] [] h nx 0 0 := by
            intro  hF
            rw [X9_as_J50] at hF
            refine ab_iload_n C 1 rfl rfl dX9_as_50 ?_
            refine ab_iconst (v := (4 : Int32)) C dX9_as_51 (by decide) ?_
            refine ab_icmp_ne C 64 dX9_as_52 (by decide) (fun c7 => ?_) (fun c7 => ?_)
            · replace hF := (if_neg c7).symm.trans hF
              refine ab_bipush (v := (-12 : Int32)) C dX9_as_64 (by decide) ?_
              obtain rfl := Option.some.inj hF
              exact ab_iret C R0 rfl dX9_as_66 ⟨rfl, rfl, rfl⟩
            · replace hF := (if_pos c7).symm.trans hF
              refine ab_iload_n C 2 rfl rfl dX9_as_55 ?_
              refine ab_iconst (v := (5 : Int32)) C dX9_as_56 (by decide) ?_
              refine ab_icmp_ne C 64 dX9_as_57 (by decide) (fun c8 => ?_) (fun c8 => ?_)
              · replace hF := (if_neg c8).symm.trans hF
                refine ab_bipush (v := (-12 : Int32)) C dX9_as_64 (by decide) ?_
                obtain rfl := Option.some.inj hF
                exact ab_iret C R0 rfl dX9_as_66 ⟨rfl, rfl, rfl⟩
              · replace hF := (if_pos c8).symm.trans hF
                refine ab_iload_n C 0 rfl rfl dX9_as_60 ?_
                refine ab_goto C 66 dX9_as_61 (by decide) ?_
                obtain rfl := Option.some.inj hF
                exact ab_iret C R0 rfl dX9_as_66 ⟨rfl, rfl, rfl⟩
          refine ab_icmp_ne C 50 dX9_as_42 (by decide) (fun c9 => ?_) (fun c9 => ?_)
          · replace hF := (if_neg c9).symm.trans hF
            refine aV.sub (lv' := [(1, .int x1), (2, .int x2), (3, .int v4)]) [2, 3, 0] rfl ?_
            exact J50 hF
          · replace hF := (if_pos c9).symm.trans hF
            refine ab_iload_n C 0 rfl rfl dX9_as_45 ?_
            refine ab_iconst (v := (4 : Int32)) C dX9_as_46 (by decide) ?_
            refine ab_icmp_lt C 60 dX9_as_47 (by decide) (fun c10 => ?_) (fun c10 => ?_)
            · replace hF := (if_pos c10).symm.trans hF
              refine ab_iload_n C 2 rfl rfl dX9_as_60 ?_
              refine ab_goto C 66 dX9_as_61 (by decide) ?_
              obtain rfl := Option.some.inj hF
              exact ab_iret C R0 rfl dX9_as_66 ⟨rfl, rfl, rfl⟩
            · replace hF := (if_neg c10).symm.trans hF
              refine aV.sub (lv' := [(1, .int x1), (2, .int x2), (3, .int v4)]) [2, 3, 0] rfl ?_
              exact J50 hF
    · replace hF := (if_pos c3).symm.trans hF
      refine ab_iconst (v := (-1 : Int32)) C dX9_as_20 (by decide) ?_
      obtain rfl := Option.some.inj hF
      exact ab_iret C R0 rfl dX9_as_21 ⟨rfl, rfl, rfl⟩
theorem dX9_keep_0 : decode cX9_keep 0 = .ok (.aload_n 0, 1) := by decide +kernel
theorem dX9_keep_1 : decode cX9_keep 1 = .ok (.getfield 130, 3) := by decide +kernel
theorem dX9_keep_4 : decode cX9_keep 4 = .ok (.bipush 24, 2) := by decide +kernel
theorem dX9_keep_6 : decode cX9_keep 6 = .ok (.if_icmp .ne 43, 3) := by decide +kernel
theorem dX9_keep_9 : decode cX9_keep 9 = .ok (.iconst 0, 1) := by decide +kernel
theorem dX9_keep_10 : decode cX9_keep 10 = .ok (.istore_n 1, 1) := by decide +kernel
theorem dX9_keep_11 : decode cX9_keep 11 = .ok (.iload_n 1, 1) := by decide +kernel
theorem dX9_keep_12 : decode cX9_keep 12 = .ok (.sipush 2208, 3) := by decide +kernel
theorem dX9_keep_15 : decode cX9_keep 15 = .ok (.if_icmp .ge 24, 3) := by decide +kernel
theorem dX9_keep_18 : decode cX9_keep 18 = .ok (.aload_n 0, 1) := by decide +kernel
theorem dX9_keep_19 : decode cX9_keep 19 = .ok (.getfield 19, 3) := by decide +kernel
theorem dX9_keep_22 : decode cX9_keep 22 = .ok (.iload_n 1, 1) := by decide +kernel
theorem dX9_keep_23 : decode cX9_keep 23 = .ok (.aload_n 0, 1) := by decide +kernel
theorem dX9_keep_24 : decode cX9_keep 24 = .ok (.getfield 19, 3) := by decide +kernel
theorem dX9_keep_27 : decode cX9_keep 27 = .ok (.iload_n 1, 1) := by decide +kernel
theorem dX9_keep_28 : decode cX9_keep 28 = .ok (.bipush 96, 2) := by decide +kernel
theorem dX9_keep_30 : decode cX9_keep 30 = .ok (.iadd, 1) := by decide +kernel
theorem dX9_keep_31 : decode cX9_keep 31 = .ok (.iaload, 1) := by decide +kernel
theorem dX9_keep_32 : decode cX9_keep 32 = .ok (.iastore, 1) := by decide +kernel
theorem dX9_keep_33 : decode cX9_keep 33 = .ok (.iinc 1 1, 3) := by decide +kernel
theorem dX9_keep_36 : decode cX9_keep 36 = .ok (.goto (-25), 3) := by decide +kernel
theorem dX9_keep_39 : decode cX9_keep 39 = .ok (.aload_n 0, 1) := by decide +kernel
theorem dX9_keep_40 : decode cX9_keep 40 = .ok (.dup, 1) := by decide +kernel
theorem dX9_keep_41 : decode cX9_keep 41 = .ok (.getfield 130, 3) := by decide +kernel
theorem dX9_keep_44 : decode cX9_keep 44 = .ok (.iconst 1, 1) := by decide +kernel
theorem dX9_keep_45 : decode cX9_keep 45 = .ok (.isub, 1) := by decide +kernel
theorem dX9_keep_46 : decode cX9_keep 46 = .ok (.putfield 130, 3) := by decide +kernel
theorem dX9_keep_49 : decode cX9_keep 49 = .ok (.iconst 0, 1) := by decide +kernel
theorem dX9_keep_50 : decode cX9_keep 50 = .ok (.istore_n 1, 1) := by decide +kernel
theorem dX9_keep_51 : decode cX9_keep 51 = .ok (.iload_n 1, 1) := by decide +kernel
theorem dX9_keep_52 : decode cX9_keep 52 = .ok (.bipush 96, 2) := by decide +kernel
theorem dX9_keep_54 : decode cX9_keep 54 = .ok (.if_icmp .ge 29, 3) := by decide +kernel
theorem dX9_keep_57 : decode cX9_keep 57 = .ok (.aload_n 0, 1) := by decide +kernel
theorem dX9_keep_58 : decode cX9_keep 58 = .ok (.getfield 19, 3) := by decide +kernel
theorem dX9_keep_61 : decode cX9_keep 61 = .ok (.bipush 96, 2) := by decide +kernel
theorem dX9_keep_63 : decode cX9_keep 63 = .ok (.aload_n 0, 1) := by decide +kernel
theorem dX9_keep_64 : decode cX9_keep 64 = .ok (.getfield 130, 3) := by decide +kernel
theorem dX9_keep_67 : decode cX9_keep 67 = .ok (.imul, 1) := by decide +kernel
theorem dX9_keep_68 : decode cX9_keep 68 = .ok (.iload_n 1, 1) := by decide +kernel
theorem dX9_keep_69 : decode cX9_keep 69 = .ok (.iadd, 1) := by decide +kernel
theorem dX9_keep_70 : decode cX9_keep 70 = .ok (.aload_n 0, 1) := by decide +kernel
theorem dX9_keep_71 : decode cX9_keep 71 = .ok (.getfield 7, 3) := by decide +kernel
theorem dX9_keep_74 : decode cX9_keep 74 = .ok (.iload_n 1, 1) := by decide +kernel
theorem dX9_keep_75 : decode cX9_keep 75 = .ok (.iaload, 1) := by decide +kernel
theorem dX9_keep_76 : decode cX9_keep 76 = .ok (.iastore, 1) := by decide +kernel
theorem dX9_keep_77 : decode cX9_keep 77 = .ok (.iinc 1 1, 3) := by decide +kernel
theorem dX9_keep_80 : decode cX9_keep 80 = .ok (.goto (-29), 3) := by decide +kernel
theorem dX9_keep_83 : decode cX9_keep 83 = .ok (.aload_n 0, 1) := by decide +kernel
theorem dX9_keep_84 : decode cX9_keep 84 = .ok (.dup, 1) := by decide +kernel
theorem dX9_keep_85 : decode cX9_keep 85 = .ok (.getfield 130, 3) := by decide +kernel
theorem dX9_keep_88 : decode cX9_keep 88 = .ok (.iconst 1, 1) := by decide +kernel
theorem dX9_keep_89 : decode cX9_keep 89 = .ok (.iadd, 1) := by decide +kernel
theorem dX9_keep_90 : decode cX9_keep 90 = .ok (.putfield 130, 3) := by decide +kernel
theorem dX9_keep_93 : decode cX9_keep 93 = .ok (.return_, 1) := by decide +kernel
def X9_keep_L51 : Nat → Int32 → Rec → Option (Rec)
  | 0, _, _ => none
  | n51 + 1, v3, Z4 => if (96 : Int32) ≤ v3 then
      some Z4
    else
      (rdI (Z4.2.1 0) 96 v3).bind fun v7 =>
      (wrI (Z4.2.1 3) 2304 (((96 : Int32) * (Z4.1 4)) + v3) v7).bind fun w8 =>
      aLet (v3 + (1 : Int32)) fun v10 =>
      X9_keep_L51 n51 v10 (sA Z4 3 w8)
def X9_keep_J49 (Z1 : Rec) : Option (Rec) :=
  (X9_keep_L51 aFu (0 : Int32) Z1).bind fun e11 =>
  some (sI e11 4 ((e11.1 4) + (1 : Int32)))
def X9_keep_L11 : Nat → Int32 → Rec → Option (Rec)
  | 0, _, _ => none
  | n11 + 1, v15, Z16 => if (2208 : Int32) ≤ v15 then
      some Z16
    else
      (rdI (Z16.2.1 3) 2304 (v15 + (96 : Int32))).bind fun v19 =>
      (wrI (Z16.2.1 3) 2304 v15 v19).bind fun w20 =>
      aLet (v15 + (1 : Int32)) fun v22 =>
      X9_keep_L11 n11 v22 (sA Z16 3 w20)
def X9_keep (S0 : Rec) : Option (Rec) :=
  if (S0.1 4) = (24 : Int32) then
    (X9_keep_L11 aFu (0 : Int32) S0).bind fun e23 =>
    X9_keep_J49 (sI e23 4 ((e23.1 4) - (1 : Int32)))
  else
    X9_keep_J49 S0
set_option maxRecDepth 100000 in
set_option maxHeartbeats 4000000 in
theorem X9_keep_ok (l : Launch) {h : aH} {nx : Nat} {a0 : Nat} {S0 : Rec} (hB0 : X9_at h a0 S0) {r : Rec} (hF : X9_keep S0 = some r) : aOk l 0 0 0 yX9_keep cX9_keep 2 none [.ref a0] h nx (aMt none nx (fun h1 => X9_at h1 a0 r ∧ (∀ q, (q < a0 ∨ a0 + 20 ≤ q) → h1 q = h q))) := by
  refine aOk.of (by decide +kernel) (Nat.le_of_ble_eq_true rfl) (fun X G hX C R0 _ => ?_)
  subst hX
  show aV X G 2 0 [(0, .ref a0)] [] h nx 0 0
  have hFr : ∀ q, (q < a0 ∨ a0 + 20 ≤ q) → h q = h q := fun _ _ => rfl
  rw [X9_keep] at hF
  refine ab_aload_n C 0 rfl rfl dX9_keep_0 ?_
  refine ab_g9 (v := .int (S0.1 4)) C lf_X9_130 hB0.1 rfl dX9_keep_1 ?_
  refine ab_bipush (v := (24 : Int32)) C dX9_keep_4 (by decide) ?_
  have J49 : ∀ (Z1 : Rec) (g2 : aH), (X9_at g2 a0 Z1) → (∀ q, (q < a0 ∨ a0 + 20 ≤ q) → g2 q = h q) → X9_keep_J49 Z1 = some r → aV X G 2 49 [(0, .ref a0)] [] g2 nx 0 0 := by
    intro Z1 g2 hB0 hFr hF
    rw [X9_keep_J49] at hF
    refine ab_iconst (v := (0 : Int32)) C dX9_keep_49 (by decide) ?_
    refine ab_istore_n (lv' := [(1, .int (0 : Int32)), (0, .ref a0)]) C dX9_keep_50 rfl (by decide) rfl ?_
    have L51 : ∀ (n51 : Nat) (v3 : Int32) (Z4 : Rec) (g5 : aH), (X9_at g5 a0 Z4) → (∀ q, (q < a0 ∨ a0 + 20 ≤ q) → g5 q = h q) → ∀ (res51 : Rec), X9_keep_L51 n51 v3 Z4 = some res51 → (∀ (q9 : aH), (X9_at q9 a0 res51) → (∀ q, (q < a0 ∨ a0 + 20 ≤ q) → q9 q = h q) → aV X G 2 83 [(0, .ref a0)] [] q9 nx 0 0) → aV X G 2 51 [(0, .ref a0), (1, .int v3)] [] g5 nx 0 0 := by
      intro n51
      induction n51 with
      | zero => intro v3 Z4 g5 hB0 hFr res51 hF KX51; cases (show (none : Option (Rec)) = some res51 from hF)
      | succ n51 ih51 =>
        intro v3 Z4 g5 hB0 hFr res51 hF KX51
        rw [X9_keep_L51] at hF
        refine ab_iload_n C 1 rfl rfl dX9_keep_51 ?_
        refine ab_bipush (v := (96 : Int32)) C dX9_keep_52 (by decide) ?_
        refine ab_icmp_ge C 83 dX9_keep_54 (by decide) (fun c6 => ?_) (fun c6 => ?_)
        · replace hF := (if_pos c6).symm.trans hF
          obtain rfl := Option.some.inj hF
          refine aV.sub (lv' := [(0, .ref a0)]) [0] rfl ?_
          exact KX51 g5 hB0 hFr
        · replace hF := (if_neg c6).symm.trans hF
          refine ab_aload_n C 0 rfl rfl dX9_keep_57 ?_
          refine ab_g9 (v := .ref (a0 + 4)) C lf_X9_19 hB0.1 rfl dX9_keep_58 ?_
          refine ab_bipush (v := (96 : Int32)) C dX9_keep_61 (by decide) ?_
          refine ab_aload_n C 0 rfl rfl dX9_keep_63 ?_
          refine ab_g9 (v := .int (Z4.1 4)) C lf_X9_130 hB0.1 rfl dX9_keep_64 ?_
          refine ab_imul C dX9_keep_67 ?_
          refine ab_iload_n C 1 rfl rfl dX9_keep_68 ?_
          refine ab_iadd C dX9_keep_69 ?_
          refine ab_aload_n C 0 rfl rfl dX9_keep_70 ?_
          refine ab_g9 (v := .ref (a0 + 1)) C lf_X9_7 hB0.1 rfl dX9_keep_71 ?_
          refine ab_iload_n C 1 rfl rfl dX9_keep_74 ?_
          obtain ⟨v7, hxv7, hF⟩ := Option.bind_eq_some_iff.mp hF
          refine ab_iald C (X9_r0 hB0) hxv7 dX9_keep_75 ?_
          obtain ⟨w8, hxw8, hF⟩ := Option.bind_eq_some_iff.mp hF
          refine ab_iast C (X9_r3 hB0) hxw8 dX9_keep_76 (fun g9 eg9 og9 => ?_)
          have hB0 : X9_at g9 a0 (sA Z4 3 w8) := X9_w3 hB0 eg9 og9
          have hFr : ∀ q, (q < a0 ∨ a0 + 20 ≤ q) → g9 q = h q := fun q u0 => (og9 q (by omega)).trans (hFr q u0)
          obtain ⟨v10, qv10⟩ : ∃ y : Int32, y = (v3 + (1 : Int32)) := ⟨_, rfl⟩
          replace hF := aLet_e hF v10 qv10
          refine ab_iinc (lv' := [(1, .int v10), (0, .ref a0)]) C 1 rfl dX9_keep_77 (by rw [qv10]; rfl) (by decide) rfl ?_
          refine ab_goto C 51 dX9_keep_80 (by decide) ?_
          refine aV.sub (lv' := [(0, .ref a0), (1, .int v10)]) [1, 0] rfl ?_
          exact ih51 v10 (sA Z4 3 w8) g9 hB0 hFr res51 hF KX51
    refine aV.sub (lv' := [(0, .ref a0), (1, .int (0 : Int32))]) [1, 0] rfl ?_
    obtain ⟨e11, he11, hF⟩ := Option.bind_eq_some_iff.mp hF
    refine L51 aFu (0 : Int32) Z1 g2 hB0 hFr e11 he11 (fun g12 hB0 hFr => ?_)
    refine ab_aload_n C 0 rfl rfl dX9_keep_83 ?_
    refine ab_dup C rfl dX9_keep_84 ?_
    refine ab_g9 (v := .int (e11.1 4)) C lf_X9_130 hB0.1 rfl dX9_keep_85 ?_
    refine ab_iconst (v := (1 : Int32)) C dX9_keep_88 (by decide) ?_
    refine ab_iadd C dX9_keep_89 ?_
    refine ab_p9 (ty := .int) C lf_X9_130 rfl (by decide +kernel) rfl rfl (Nat.le_of_ble_eq_true rfl) hB0.1 dX9_keep_90 (fun g13 eg13 og13 => ?_)
    have hB0 : X9_at g13 a0 (sI e11 4 ((e11.1 4) + (1 : Int32))) := X9_p4 hB0 eg13 og13
    have hFr : ∀ q, (q < a0 ∨ a0 + 20 ≤ q) → g13 q = h q := fun q u0 => (og13 q (by omega)).trans (hFr q u0)
    obtain rfl := Option.some.inj hF
    exact ab_vret C R0 dX9_keep_93 ⟨rfl, rfl, hB0, hFr⟩
  refine ab_icmp_ne C 49 dX9_keep_6 (by decide) (fun c14 => ?_) (fun c14 => ?_)
  · replace hF := (if_neg c14).symm.trans hF
    exact J49 S0 h hB0 hFr hF
  · replace hF := (if_pos c14).symm.trans hF
    refine ab_iconst (v := (0 : Int32)) C dX9_keep_9 (by decide) ?_
    refine ab_istore_n (lv' := [(1, .int (0 : Int32)), (0, .ref a0)]) C dX9_keep_10 rfl (by decide) rfl ?_
    have L11 : ∀ (n11 : Nat) (v15 : Int32) (Z16 : Rec) (g17 : aH), (X9_at g17 a0 Z16) → (∀ q, (q < a0 ∨ a0 + 20 ≤ q) → g17 q = h q) → ∀ (res11 : Rec), X9_keep_L11 n11 v15 Z16 = some res11 → (∀ (q9 : aH), (X9_at q9 a0 res11) → (∀ q, (q < a0 ∨ a0 + 20 ≤ q) → q9 q = h q) → aV X G 2 39 [(0, .ref a0)] [] q9 nx 0 0) → aV X G 2 11 [(0, .ref a0), (1, .int v15)] [] g17 nx 0 0 := by
      intro n11
      induction n11 with
      | zero => intro v15 Z16 g17 hB0 hFr res11 hF KX11; cases (show (none : Option (Rec)) = some res11 from hF)
      | succ n11 ih11 =>
        intro v15 Z16 g17 hB0 hFr res11 hF KX11
        rw [X9_keep_L11] at hF
        refine ab_iload_n C 1 rfl rfl dX9_keep_11 ?_
        refine ab_sipush (v := (2208 : Int32)) C dX9_keep_12 (by decide) ?_
        refine ab_icmp_ge C 39 dX9_keep_15 (by decide) (fun c18 => ?_) (fun c18 => ?_)
        · replace hF := (if_pos c18).symm.trans hF
          obtain rfl := Option.some.inj hF
          refine aV.sub (lv' := [(0, .ref a0)]) [0] rfl ?_
          exact KX11 g17 hB0 hFr
        · replace hF := (if_neg c18).symm.trans hF
          refine ab_aload_n C 0 rfl rfl dX9_keep_18 ?_
          refine ab_g9 (v := .ref (a0 + 4)) C lf_X9_19 hB0.1 rfl dX9_keep_19 ?_
          refine ab_iload_n C 1 rfl rfl dX9_keep_22 ?_
          refine ab_aload_n C 0 rfl rfl dX9_keep_23 ?_
          refine ab_g9 (v := .ref (a0 + 4)) C lf_X9_19 hB0.1 rfl dX9_keep_24 ?_
          refine ab_iload_n C 1 rfl rfl dX9_keep_27 ?_
          refine ab_bipush (v := (96 : Int32)) C dX9_keep_28 (by decide) ?_
          refine ab_iadd C dX9_keep_30 ?_
          obtain ⟨v19, hxv19, hF⟩ := Option.bind_eq_some_iff.mp hF
          refine ab_iald C (X9_r3 hB0) hxv19 dX9_keep_31 ?_
          obtain ⟨w20, hxw20, hF⟩ := Option.bind_eq_some_iff.mp hF
          refine ab_iast C (X9_r3 hB0) hxw20 dX9_keep_32 (fun g21 eg21 og21 => ?_)
          have hB0 : X9_at g21 a0 (sA Z16 3 w20) := X9_w3 hB0 eg21 og21
          have hFr : ∀ q, (q < a0 ∨ a0 + 20 ≤ q) → g21 q = h q := fun q u0 => (og21 q (by omega)).trans (hFr q u0)
          obtain ⟨v22, qv22⟩ : ∃ y : Int32, y = (v15 + (1 : Int32)) := ⟨_, rfl⟩
          replace hF := aLet_e hF v22 qv22
          refine ab_iinc (lv' := [(1, .int v22), (0, .ref a0)]) C 1 rfl dX9_keep_33 (by rw [qv22]; rfl) (by decide) rfl ?_
          refine ab_goto C 11 dX9_keep_36 (by decide) ?_
          refine aV.sub (lv' := [(0, .ref a0), (1, .int v22)]) [1, 0] rfl ?_
          exact ih11 v22 (sA Z16 3 w20) g21 hB0 hFr res11 hF KX11
    refine aV.sub (lv' := [(0, .ref a0), (1, .int (0 : Int32))]) [1, 0] rfl ?_
    obtain ⟨e23, he23, hF⟩ := Option.bind_eq_some_iff.mp hF
    refine L11 aFu (0 : Int32) S0 h hB0 hFr e23 he23 (fun g24 hB0 hFr => ?_)
    refine ab_aload_n C 0 rfl rfl dX9_keep_39 ?_
    refine ab_dup C rfl dX9_keep_40 ?_
    refine ab_g9 (v := .int (e23.1 4)) C lf_X9_130 hB0.1 rfl dX9_keep_41 ?_
    refine ab_iconst (v := (1 : Int32)) C dX9_keep_44 (by decide) ?_
    refine ab_isub C dX9_keep_45 ?_
    refine ab_p9 (ty := .int) C lf_X9_130 rfl (by decide +kernel) rfl rfl (Nat.le_of_ble_eq_true rfl) hB0.1 dX9_keep_46 (fun g25 eg25 og25 => ?_)
    have hB0 : X9_at g25 a0 (sI e23 4 ((e23.1 4) - (1 : Int32))) := X9_p4 hB0 eg25 og25
    have hFr : ∀ q, (q < a0 ∨ a0 + 20 ≤ q) → g25 q = h q := fun q u0 => (og25 q (by omega)).trans (hFr q u0)
    exact J49 (sI e23 4 ((e23.1 4) - (1 : Int32))) g25 hB0 hFr hF
theorem dX9_sell_0 : decode cX9_sell 0 = .ok (.aload_n 0, 1) := by decide +kernel
theorem dX9_sell_1 : decode cX9_sell 1 = .ok (.iload_n 1, 1) := by decide +kernel
theorem dX9_sell_2 : decode cX9_sell 2 = .ok (.invokevirtual 168, 3) := by decide +kernel
theorem dX9_sell_5 : decode cX9_sell 5 = .ok (.ifCond .eq 17, 3) := by decide +kernel
theorem dX9_sell_8 : decode cX9_sell 8 = .ok (.aload_n 0, 1) := by decide +kernel
theorem dX9_sell_9 : decode cX9_sell 9 = .ok (.iload_n 2, 1) := by decide +kernel
theorem dX9_sell_10 : decode cX9_sell 10 = .ok (.invokevirtual 153, 3) := by decide +kernel
theorem dX9_sell_13 : decode cX9_sell 13 = .ok (.ifCond .ne 11, 3) := by decide +kernel
theorem dX9_sell_16 : decode cX9_sell 16 = .ok (.iload_n 2, 1) := by decide +kernel
theorem dX9_sell_17 : decode cX9_sell 17 = .ok (.bipush (-4), 2) := by decide +kernel
theorem dX9_sell_19 : decode cX9_sell 19 = .ok (.if_icmp .eq 5, 3) := by decide +kernel
theorem dX9_sell_22 : decode cX9_sell 22 = .ok (.iconst (-1), 1) := by decide +kernel
theorem dX9_sell_23 : decode cX9_sell 23 = .ok (.ireturn, 1) := by decide +kernel
theorem dX9_sell_24 : decode cX9_sell 24 = .ok (.iload_n 2, 1) := by decide +kernel
theorem dX9_sell_25 : decode cX9_sell 25 = .ok (.bipush (-4), 2) := by decide +kernel
theorem dX9_sell_27 : decode cX9_sell 27 = .ok (.if_icmp .ne 7, 3) := by decide +kernel
theorem dX9_sell_30 : decode cX9_sell 30 = .ok (.iconst 0, 1) := by decide +kernel
theorem dX9_sell_31 : decode cX9_sell 31 = .ok (.goto 6, 3) := by decide +kernel
theorem dX9_sell_34 : decode cX9_sell 34 = .ok (.iload_n 2, 1) := by decide +kernel
theorem dX9_sell_35 : decode cX9_sell 35 = .ok (.iconst 1, 1) := by decide +kernel
theorem dX9_sell_36 : decode cX9_sell 36 = .ok (.iadd, 1) := by decide +kernel
theorem dX9_sell_37 : decode cX9_sell 37 = .ok (.istore_n 3, 1) := by decide +kernel
theorem dX9_sell_38 : decode cX9_sell 38 = .ok (.aload_n 0, 1) := by decide +kernel
theorem dX9_sell_39 : decode cX9_sell 39 = .ok (.getfield 7, 3) := by decide +kernel
theorem dX9_sell_42 : decode cX9_sell 42 = .ok (.bipush 52, 2) := by decide +kernel
theorem dX9_sell_44 : decode cX9_sell 44 = .ok (.iload_n 1, 1) := by decide +kernel
theorem dX9_sell_45 : decode cX9_sell 45 = .ok (.invokestatic 173, 3) := by decide +kernel
theorem dX9_sell_48 : decode cX9_sell 48 = .ok (.iadd, 1) := by decide +kernel
theorem dX9_sell_49 : decode cX9_sell 49 = .ok (.iaload, 1) := by decide +kernel
theorem dX9_sell_50 : decode cX9_sell 50 = .ok (.istore 4, 2) := by decide +kernel
theorem dX9_sell_52 : decode cX9_sell 52 = .ok (.iload 4, 2) := by decide +kernel
theorem dX9_sell_54 : decode cX9_sell 54 = .ok (.iload_n 3, 1) := by decide +kernel
theorem dX9_sell_55 : decode cX9_sell 55 = .ok (.if_icmp .ne 6, 3) := by decide +kernel
theorem dX9_sell_58 : decode cX9_sell 58 = .ok (.bipush (-2), 2) := by decide +kernel
theorem dX9_sell_60 : decode cX9_sell 60 = .ok (.ireturn, 1) := by decide +kernel
theorem dX9_sell_61 : decode cX9_sell 61 = .ok (.aload_n 0, 1) := by decide +kernel
theorem dX9_sell_62 : decode cX9_sell 62 = .ok (.invokevirtual 182, 3) := by decide +kernel
theorem dX9_sell_65 : decode cX9_sell 65 = .ok (.aload_n 0, 1) := by decide +kernel
theorem dX9_sell_66 : decode cX9_sell 66 = .ok (.getfield 7, 3) := by decide +kernel
theorem dX9_sell_69 : decode cX9_sell 69 = .ok (.bipush 52, 2) := by decide +kernel
theorem dX9_sell_71 : decode cX9_sell 71 = .ok (.iload_n 1, 1) := by decide +kernel
theorem dX9_sell_72 : decode cX9_sell 72 = .ok (.invokestatic 173, 3) := by decide +kernel
theorem dX9_sell_75 : decode cX9_sell 75 = .ok (.iadd, 1) := by decide +kernel
theorem dX9_sell_76 : decode cX9_sell 76 = .ok (.iload_n 3, 1) := by decide +kernel
theorem dX9_sell_77 : decode cX9_sell 77 = .ok (.iastore, 1) := by decide +kernel
theorem dX9_sell_78 : decode cX9_sell 78 = .ok (.iload 4, 2) := by decide +kernel
theorem dX9_sell_80 : decode cX9_sell 80 = .ok (.invokestatic 176, 3) := by decide +kernel
theorem dX9_sell_83 : decode cX9_sell 83 = .ok (.ireturn, 1) := by decide +kernel
def X9_sell_J37 (S0 : Rec) (x1 : Int32) (v4 : Int32) : Option (Int32 × Rec) :=
  (rdI (S0.2.1 0) 96 ((52 : Int32) + (X9_placeOf x1))).bind fun v5 =>
  if v5 = v4 then
    some ((-2 : Int32), S0)
  else
    (X9_keep S0).bind fun v7 =>
    (wrI (v7.2.1 0) 96 ((52 : Int32) + (X9_placeOf x1)) v4).bind fun w9 =>
    some ((X9_named v5), (sA v7 0 w9))
def X9_sell_J24 (x2 : Int32) (S0 : Rec) (x1 : Int32) : Option (Int32 × Rec) :=
  if x2 = (-4 : Int32) then
    X9_sell_J37 S0 x1 (0 : Int32)
  else
    X9_sell_J37 S0 x1 (x2 + (1 : Int32))
def X9_sell (S0 : Rec) (x1 : Int32) (x2 : Int32) : Option (Int32 × Rec) :=
  (X9_isCell S0 x1).bind fun v1 =>
  if v1 = 0 then
    some ((-1 : Int32), S0)
  else
    (X9_isHolder S0 x2).bind fun v3 =>
    if v3 = 0 then
      if x2 = (-4 : Int32) then
        X9_sell_J24 x2 S0 x1
      else
        some ((-1 : Int32), S0)
    else
      X9_sell_J24 x2 S0 x1
set_option maxRecDepth 100000 in
set_option maxHeartbeats 4000000 in
theorem X9_sell_ok (l : Launch) {h : aH} {nx : Nat} {a0 : Nat} {S0 : Rec} {x1 : Int32} {x2 : Int32} (hB0 : X9_at h a0 S0) {r : Int32 × Rec} (hF : X9_sell S0 x1 x2 = some r) : aOk l 2 0 0 yX9_sell cX9_sell 5 (some .int) [.ref a0, .int x1, .int x2] h nx (aMt (some (.int r.1)) nx (fun h1 => X9_at h1 a0 r.2 ∧ (∀ q, (q < a0 ∨ a0 + 20 ≤ q) → h1 q = h q))) := by
  refine aOk.of (by decide +kernel) (Nat.le_of_ble_eq_true rfl) (fun X G hX C R0 _ => ?_)
  subst hX
  show aV X G 5 0 [(0, .ref a0), (1, .int x1), (2, .int x2)] [] h nx 0 0
  have hFr : ∀ q, (q < a0 ∨ a0 + 20 ≤ q) → h q = h q := fun _ _ => rfl
  rw [X9_sell] at hF
  refine ab_aload_n C 0 rfl rfl dX9_sell_0 ?_
  refine ab_iload_n C 1 rfl rfl dX9_sell_1 ?_
  obtain ⟨v1, hxv1, hF⟩ := Option.bind_eq_some_iff.mp hF
  refine ab_cVR (v := .int v1) (st := []) C lm_X9_168 (X9_isCell_ok (xl X) hB0 (r := v1) hxv1) [.int x1] rfl hB0.1 rfl rfl rfl (by decide) ⟨Nat.zero_le _, Nat.zero_le _⟩ (Nat.le_of_ble_eq_true rfl) dX9_sell_2 ?_
  refine ab_if_eq C 22 dX9_sell_5 (by decide) (fun c2 => ?_) (fun c2 => ?_)
  · replace hF := (if_pos c2).symm.trans hF
    refine ab_iconst (v := (-1 : Int32)) C dX9_sell_22 (by decide) ?_
    obtain rfl := Option.some.inj hF
    exact ab_iret C R0 rfl dX9_sell_23 ⟨rfl, rfl, hB0, hFr⟩
  · replace hF := (if_neg c2).symm.trans hF
    refine ab_aload_n C 0 rfl rfl dX9_sell_8 ?_
    refine ab_iload_n C 2 rfl rfl dX9_sell_9 ?_
    obtain ⟨v3, hxv3, hF⟩ := Option.bind_eq_some_iff.mp hF
    refine ab_cVR (v := .int v3) (st := []) C lm_X9_153 (X9_isHolder_ok (xl X) hB0 (r := v3) hxv3) [.int x2] rfl hB0.1 rfl rfl rfl (by decide) ⟨Nat.zero_le _, Nat.zero_le _⟩ (Nat.le_of_ble_eq_true rfl) dX9_sell_10 ?_
    have J24 : X9_sell_J24 x2 S0 x1 = some r → aV X G 5 24 [(0, .ref a0), (1, .int x1), (2, .int x2)] [] h nx 0 0 := by
      intro  hF
      rw [X9_sell_J24] at hF
      refine ab_iload_n C 2 rfl rfl dX9_sell_24 ?_
      refine ab_bipush (v := (-4 : Int32)) C dX9_sell_25 (by decide) ?_
      have J37 : ∀ (v4 : Int32), X9_sell_J37 S0 x1 v4 = some r → aV X G 5 37 [(0, .ref a0), (1, .int x1)] [.int v4] h nx 0 0 := by
        intro v4 hF
        rw [X9_sell_J37] at hF
        refine ab_istore_n (lv' := [(3, .int v4), (0, .ref a0), (1, .int x1)]) C dX9_sell_37 rfl (by decide) rfl ?_
        refine ab_aload_n C 1 rfl rfl dX9_sell_38 ?_
        refine ab_g9 (v := .ref (a0 + 1)) C lf_X9_7 hB0.1 rfl dX9_sell_39 ?_
        refine ab_bipush (v := (52 : Int32)) C dX9_sell_42 (by decide) ?_
        refine ab_iload_n C 2 rfl rfl dX9_sell_44 ?_
        refine ab_cSR (v := .int (X9_placeOf x1)) (st := [.int (52 : Int32), .ref (a0 + 1)]) C lm_X9_173 (X9_placeOf_ok (xl X) (r := (X9_placeOf x1)) rfl) rfl rfl (by decide) ⟨Nat.zero_le _, Nat.zero_le _⟩ (Nat.le_of_ble_eq_true rfl) dX9_sell_45 ?_
        refine ab_iadd C dX9_sell_48 ?_
        obtain ⟨v5, hxv5, hF⟩ := Option.bind_eq_some_iff.mp hF
        refine ab_iald C (X9_r0 hB0) hxv5 dX9_sell_49 ?_
        refine ab_istore (lv' := [(4, .int v5), (3, .int v4), (0, .ref a0), (1, .int x1)]) C dX9_sell_50 (by decide) rfl ?_
        refine ab_iload C 0 rfl dX9_sell_52 ?_
        refine ab_iload_n C 1 rfl rfl dX9_sell_54 ?_
        refine ab_icmp_ne C 61 dX9_sell_55 (by decide) (fun c6 => ?_) (fun c6 => ?_)
        · replace hF := (if_neg c6).symm.trans hF
          refine ab_aload_n C 2 rfl rfl dX9_sell_61 ?_
          obtain ⟨v7, hxv7, hF⟩ := Option.bind_eq_some_iff.mp hF
          refine ab_cVN (st := []) C lm_X9_182 (X9_keep_ok (xl X) hB0 (r := v7) hxv7) [] rfl hB0.1 rfl rfl rfl (by decide) ⟨Nat.zero_le _, Nat.zero_le _⟩ (Nat.le_of_ble_eq_true rfl) dX9_sell_62 (fun g8 pg8 => ?_)
          obtain ⟨k0, Og8⟩ := pg8
          have hB0 : X9_at g8 a0 v7 := k0
          have hFr : ∀ q, (q < a0 ∨ a0 + 20 ≤ q) → g8 q = h q := fun q u0 => (Og8 q (by omega)).trans (hFr q u0)
          refine ab_aload_n C 2 rfl rfl dX9_sell_65 ?_
          refine ab_g9 (v := .ref (a0 + 1)) C lf_X9_7 hB0.1 rfl dX9_sell_66 ?_
          refine ab_bipush (v := (52 : Int32)) C dX9_sell_69 (by decide) ?_
          refine ab_iload_n C 3 rfl rfl dX9_sell_71 ?_
          refine ab_cSR (v := .int (X9_placeOf x1)) (st := [.int (52 : Int32), .ref (a0 + 1)]) C lm_X9_173 (X9_placeOf_ok (xl X) (r := (X9_placeOf x1)) rfl) rfl rfl (by decide) ⟨Nat.zero_le _, Nat.zero_le _⟩ (Nat.le_of_ble_eq_true rfl) dX9_sell_72 ?_
          refine ab_iadd C dX9_sell_75 ?_
          refine ab_iload_n C 1 rfl rfl dX9_sell_76 ?_
          obtain ⟨w9, hxw9, hF⟩ := Option.bind_eq_some_iff.mp hF
          refine ab_iast C (X9_r0 hB0) hxw9 dX9_sell_77 (fun g10 eg10 og10 => ?_)
          have hB0 : X9_at g10 a0 (sA v7 0 w9) := X9_w0 hB0 eg10 og10
          have hFr : ∀ q, (q < a0 ∨ a0 + 20 ≤ q) → g10 q = h q := fun q u0 => (og10 q (by omega)).trans (hFr q u0)
          refine ab_iload C 0 rfl dX9_sell_78 ?_
          refine ab_cSR (v := .int (X9_named v5)) (st := []) C lm_X9_176 (X9_named_ok (xl X) (r := (X9_named v5)) rfl) rfl rfl (by decide) ⟨Nat.zero_le _, Nat.zero_le _⟩ (Nat.le_of_ble_eq_true rfl) dX9_sell_80 ?_
          obtain rfl := Option.some.inj hF
          exact ab_iret C R0 rfl dX9_sell_83 ⟨rfl, rfl, hB0, hFr⟩
        · replace hF := (if_pos c6).symm.trans hF
          refine ab_bipush (v := (-2 : Int32)) C dX9_sell_58 (by decide) ?_
          obtain rfl := Option.some.inj hF
          exact ab_iret C R0 rfl dX9_sell_60 ⟨rfl, rfl, hB0, hFr⟩
      refine ab_icmp_ne C 34 dX9_sell_27 (by decide) (fun c11 => ?_) (fun c11 => ?_)
      · replace hF := (if_neg c11).symm.trans hF
        refine ab_iload_n C 2 rfl rfl dX9_sell_34 ?_
        refine ab_iconst (v := (1 : Int32)) C dX9_sell_35 (by decide) ?_
        refine ab_iadd C dX9_sell_36 ?_
        refine aV.sub (lv' := [(0, .ref a0), (1, .int x1)]) [0, 1] rfl ?_
        exact J37 (x2 + (1 : Int32)) hF
      · replace hF := (if_pos c11).symm.trans hF
        refine ab_iconst (v := (0 : Int32)) C dX9_sell_30 (by decide) ?_
        refine ab_goto C 37 dX9_sell_31 (by decide) ?_
        refine aV.sub (lv' := [(0, .ref a0), (1, .int x1)]) [0, 1] rfl ?_
        exact J37 (0 : Int32) hF
    refine ab_if_ne C 24 dX9_sell_13 (by decide) (fun c12 => ?_) (fun c12 => ?_)
    · replace hF := (if_neg c12).symm.trans hF
      exact J24 hF
    · replace hF := (if_pos c12).symm.trans hF
      refine ab_iload_n C 2 rfl rfl dX9_sell_16 ?_
      refine ab_bipush (v := (-4 : Int32)) C dX9_sell_17 (by decide) ?_
      refine ab_icmp_eq C 24 dX9_sell_19 (by decide) (fun c13 => ?_) (fun c13 => ?_)
      · replace hF := (if_pos c13).symm.trans hF
        exact J24 hF
      · replace hF := (if_neg c13).symm.trans hF
        refine ab_iconst (v := (-1 : Int32)) C dX9_sell_22 (by decide) ?_
        obtain rfl := Option.some.inj hF
        exact ab_iret C R0 rfl dX9_sell_23 ⟨rfl, rfl, hB0, hFr⟩
theorem dX9_plough_0 : decode cX9_plough 0 = .ok (.aload_n 0, 1) := by decide +kernel
theorem dX9_plough_1 : decode cX9_plough 1 = .ok (.iload_n 1, 1) := by decide +kernel
theorem dX9_plough_2 : decode cX9_plough 2 = .ok (.invokevirtual 168, 3) := by decide +kernel
theorem dX9_plough_5 : decode cX9_plough 5 = .ok (.ifCond .eq 15, 3) := by decide +kernel
theorem dX9_plough_8 : decode cX9_plough 8 = .ok (.iload_n 2, 1) := by decide +kernel
theorem dX9_plough_9 : decode cX9_plough 9 = .ok (.i2l, 1) := by decide +kernel
theorem dX9_plough_10 : decode cX9_plough 10 = .ok (.lconst 0, 1) := by decide +kernel
theorem dX9_plough_11 : decode cX9_plough 11 = .ok (.ldc2_w 157, 3) := by decide +kernel
theorem dX9_plough_14 : decode cX9_plough 14 = .ok (.invokestatic 69, 3) := by decide +kernel
theorem dX9_plough_17 : decode cX9_plough 17 = .ok (.ifCond .ne 5, 3) := by decide +kernel
theorem dX9_plough_20 : decode cX9_plough 20 = .ok (.iconst (-1), 1) := by decide +kernel
theorem dX9_plough_21 : decode cX9_plough 21 = .ok (.ireturn, 1) := by decide +kernel
theorem dX9_plough_22 : decode cX9_plough 22 = .ok (.aload_n 0, 1) := by decide +kernel
theorem dX9_plough_23 : decode cX9_plough 23 = .ok (.getfield 7, 3) := by decide +kernel
theorem dX9_plough_26 : decode cX9_plough 26 = .ok (.bipush 16, 2) := by decide +kernel
theorem dX9_plough_28 : decode cX9_plough 28 = .ok (.iload_n 1, 1) := by decide +kernel
theorem dX9_plough_29 : decode cX9_plough 29 = .ok (.invokestatic 173, 3) := by decide +kernel
theorem dX9_plough_32 : decode cX9_plough 32 = .ok (.iadd, 1) := by decide +kernel
theorem dX9_plough_33 : decode cX9_plough 33 = .ok (.iaload, 1) := by decide +kernel
theorem dX9_plough_34 : decode cX9_plough 34 = .ok (.istore_n 3, 1) := by decide +kernel
theorem dX9_plough_35 : decode cX9_plough 35 = .ok (.iload_n 3, 1) := by decide +kernel
theorem dX9_plough_36 : decode cX9_plough 36 = .ok (.iload_n 2, 1) := by decide +kernel
theorem dX9_plough_37 : decode cX9_plough 37 = .ok (.if_icmp .ne 6, 3) := by decide +kernel
theorem dX9_plough_40 : decode cX9_plough 40 = .ok (.bipush (-2), 2) := by decide +kernel
theorem dX9_plough_42 : decode cX9_plough 42 = .ok (.ireturn, 1) := by decide +kernel
theorem dX9_plough_43 : decode cX9_plough 43 = .ok (.aload_n 0, 1) := by decide +kernel
theorem dX9_plough_44 : decode cX9_plough 44 = .ok (.invokevirtual 182, 3) := by decide +kernel
theorem dX9_plough_47 : decode cX9_plough 47 = .ok (.aload_n 0, 1) := by decide +kernel
theorem dX9_plough_48 : decode cX9_plough 48 = .ok (.getfield 7, 3) := by decide +kernel
theorem dX9_plough_51 : decode cX9_plough 51 = .ok (.bipush 16, 2) := by decide +kernel
theorem dX9_plough_53 : decode cX9_plough 53 = .ok (.iload_n 1, 1) := by decide +kernel
theorem dX9_plough_54 : decode cX9_plough 54 = .ok (.invokestatic 173, 3) := by decide +kernel
theorem dX9_plough_57 : decode cX9_plough 57 = .ok (.iadd, 1) := by decide +kernel
theorem dX9_plough_58 : decode cX9_plough 58 = .ok (.iload_n 2, 1) := by decide +kernel
theorem dX9_plough_59 : decode cX9_plough 59 = .ok (.iastore, 1) := by decide +kernel
theorem dX9_plough_60 : decode cX9_plough 60 = .ok (.iload_n 3, 1) := by decide +kernel
theorem dX9_plough_61 : decode cX9_plough 61 = .ok (.ireturn, 1) := by decide +kernel
def X9_plough (S0 : Rec) (x1 : Int32) (x2 : Int32) : Option (Int32 × Rec) :=
  (X9_isCell S0 x1).bind fun v1 =>
  if v1 = 0 then
    some ((-1 : Int32), S0)
  else
    if (X9_in (x2.toInt64) (0 : Int64) (5 : Int64)) = 0 then
      some ((-1 : Int32), S0)
    else
      (rdI (S0.2.1 0) 96 ((16 : Int32) + (X9_placeOf x1))).bind fun v4 =>
      if v4 = x2 then
        some ((-2 : Int32), S0)
      else
        (X9_keep S0).bind fun v6 =>
        (wrI (v6.2.1 0) 96 ((16 : Int32) + (X9_placeOf x1)) x2).bind fun w8 =>
        some (v4, (sA v6 0 w8))
set_option maxRecDepth 100000 in
set_option maxHeartbeats 4000000 in
theorem X9_plough_ok (l : Launch) {h : aH} {nx : Nat} {a0 : Nat} {S0 : Rec} {x1 : Int32} {x2 : Int32} (hB0 : X9_at h a0 S0) {r : Int32 × Rec} (hF : X9_plough S0 x1 x2 = some r) : aOk l 1 0 0 yX9_plough cX9_plough 4 (some .int) [.ref a0, .int x1, .int x2] h nx (aMt (some (.int r.1)) nx (fun h1 => X9_at h1 a0 r.2 ∧ (∀ q, (q < a0 ∨ a0 + 20 ≤ q) → h1 q = h q))) := by
  refine aOk.of (by decide +kernel) (Nat.le_of_ble_eq_true rfl) (fun X G hX C R0 _ => ?_)
  subst hX
  show aV X G 4 0 [(0, .ref a0), (1, .int x1), (2, .int x2)] [] h nx 0 0
  have hFr : ∀ q, (q < a0 ∨ a0 + 20 ≤ q) → h q = h q := fun _ _ => rfl
  rw [X9_plough] at hF
  refine ab_aload_n C 0 rfl rfl dX9_plough_0 ?_
  refine ab_iload_n C 1 rfl rfl dX9_plough_1 ?_
  obtain ⟨v1, hxv1, hF⟩ := Option.bind_eq_some_iff.mp hF
  refine ab_cVR (v := .int v1) (st := []) C lm_X9_168 (X9_isCell_ok (xl X) hB0 (r := v1) hxv1) [.int x1] rfl hB0.1 rfl rfl rfl (by decide) ⟨Nat.zero_le _, Nat.zero_le _⟩ (Nat.le_of_ble_eq_true rfl) dX9_plough_2 ?_
  refine ab_if_eq C 20 dX9_plough_5 (by decide) (fun c2 => ?_) (fun c2 => ?_)
  · replace hF := (if_pos c2).symm.trans hF
    refine ab_iconst (v := (-1 : Int32)) C dX9_plough_20 (by decide) ?_
    obtain rfl := Option.some.inj hF
    exact ab_iret C R0 rfl dX9_plough_21 ⟨rfl, rfl, hB0, hFr⟩
  · replace hF := (if_neg c2).symm.trans hF
    refine ab_iload_n C 2 rfl rfl dX9_plough_8 ?_
    refine ab_i2l C dX9_plough_9 ?_
    refine ab_lconst (v := (0 : Int64)) C dX9_plough_10 (by decide) ?_
    refine ab_ldc2 (v := (5 : Int64)) C dX9_plough_11 lq_X9_157 ?_
    refine ab_cSR (v := .int (X9_in (x2.toInt64) (0 : Int64) (5 : Int64))) (st := []) C lm_X9_69 (X9_in_ok (xl X) (r := (X9_in (x2.toInt64) (0 : Int64) (5 : Int64))) rfl) rfl rfl (by decide) ⟨Nat.zero_le _, Nat.zero_le _⟩ (Nat.le_of_ble_eq_true rfl) dX9_plough_14 ?_
    refine ab_if_ne C 22 dX9_plough_17 (by decide) (fun c3 => ?_) (fun c3 => ?_)
    · replace hF := (if_neg c3).symm.trans hF
      refine ab_aload_n C 0 rfl rfl dX9_plough_22 ?_
      refine ab_g9 (v := .ref (a0 + 1)) C lf_X9_7 hB0.1 rfl dX9_plough_23 ?_
      refine ab_bipush (v := (16 : Int32)) C dX9_plough_26 (by decide) ?_
      refine ab_iload_n C 1 rfl rfl dX9_plough_28 ?_
      refine ab_cSR (v := .int (X9_placeOf x1)) (st := [.int (16 : Int32), .ref (a0 + 1)]) C lm_X9_173 (X9_placeOf_ok (xl X) (r := (X9_placeOf x1)) rfl) rfl rfl (by decide) ⟨Nat.zero_le _, Nat.zero_le _⟩ (Nat.le_of_ble_eq_true rfl) dX9_plough_29 ?_
      refine ab_iadd C dX9_plough_32 ?_
      obtain ⟨v4, hxv4, hF⟩ := Option.bind_eq_some_iff.mp hF
      refine ab_iald C (X9_r0 hB0) hxv4 dX9_plough_33 ?_
      refine ab_istore_n (lv' := [(3, .int v4), (0, .ref a0), (1, .int x1), (2, .int x2)]) C dX9_plough_34 rfl (by decide) rfl ?_
      refine ab_iload_n C 0 rfl rfl dX9_plough_35 ?_
      refine ab_iload_n C 3 rfl rfl dX9_plough_36 ?_
      refine ab_icmp_ne C 43 dX9_plough_37 (by decide) (fun c5 => ?_) (fun c5 => ?_)
      · replace hF := (if_neg c5).symm.trans hF
        refine ab_aload_n C 1 rfl rfl dX9_plough_43 ?_
        obtain ⟨v6, hxv6, hF⟩ := Option.bind_eq_some_iff.mp hF
        refine ab_cVN (st := []) C lm_X9_182 (X9_keep_ok (xl X) hB0 (r := v6) hxv6) [] rfl hB0.1 rfl rfl rfl (by decide) ⟨Nat.zero_le _, Nat.zero_le _⟩ (Nat.le_of_ble_eq_true rfl) dX9_plough_44 (fun g7 pg7 => ?_)
        obtain ⟨k0, Og7⟩ := pg7
        have hB0 : X9_at g7 a0 v6 := k0
        have hFr : ∀ q, (q < a0 ∨ a0 + 20 ≤ q) → g7 q = h q := fun q u0 => (Og7 q (by omega)).trans (hFr q u0)
        refine ab_aload_n C 1 rfl rfl dX9_plough_47 ?_
        refine ab_g9 (v := .ref (a0 + 1)) C lf_X9_7 hB0.1 rfl dX9_plough_48 ?_
        refine ab_bipush (v := (16 : Int32)) C dX9_plough_51 (by decide) ?_
        refine ab_iload_n C 2 rfl rfl dX9_plough_53 ?_
        refine ab_cSR (v := .int (X9_placeOf x1)) (st := [.int (16 : Int32), .ref (a0 + 1)]) C lm_X9_173 (X9_placeOf_ok (xl X) (r := (X9_placeOf x1)) rfl) rfl rfl (by decide) ⟨Nat.zero_le _, Nat.zero_le _⟩ (Nat.le_of_ble_eq_true rfl) dX9_plough_54 ?_
        refine ab_iadd C dX9_plough_57 ?_
        refine ab_iload_n C 3 rfl rfl dX9_plough_58 ?_
        obtain ⟨w8, hxw8, hF⟩ := Option.bind_eq_some_iff.mp hF
        refine ab_iast C (X9_r0 hB0) hxw8 dX9_plough_59 (fun g9 eg9 og9 => ?_)
        have hB0 : X9_at g9 a0 (sA v6 0 w8) := X9_w0 hB0 eg9 og9
        have hFr : ∀ q, (q < a0 ∨ a0 + 20 ≤ q) → g9 q = h q := fun q u0 => (og9 q (by omega)).trans (hFr q u0)
        refine ab_iload_n C 0 rfl rfl dX9_plough_60 ?_
        obtain rfl := Option.some.inj hF
        exact ab_iret C R0 rfl dX9_plough_61 ⟨rfl, rfl, hB0, hFr⟩
      · replace hF := (if_pos c5).symm.trans hF
        refine ab_bipush (v := (-2 : Int32)) C dX9_plough_40 (by decide) ?_
        obtain rfl := Option.some.inj hF
        exact ab_iret C R0 rfl dX9_plough_42 ⟨rfl, rfl, hB0, hFr⟩
    · replace hF := (if_pos c3).symm.trans hF
      refine ab_iconst (v := (-1 : Int32)) C dX9_plough_20 (by decide) ?_
      obtain rfl := Option.some.inj hF
      exact ab_iret C R0 rfl dX9_plough_21 ⟨rfl, rfl, hB0, hFr⟩
theorem dX9_year_0 : decode cX9_year 0 = .ok (.aload_n 0, 1) := by decide +kernel
theorem dX9_year_1 : decode cX9_year 1 = .ok (.invokevirtual 185, 3) := by decide +kernel
theorem dX9_year_4 : decode cX9_year 4 = .ok (.ifCond .ne 6, 3) := by decide +kernel
theorem dX9_year_7 : decode cX9_year 7 = .ok (.bipush (-2), 2) := by decide +kernel
theorem dX9_year_9 : decode cX9_year 9 = .ok (.ireturn, 1) := by decide +kernel
theorem dX9_year_10 : decode cX9_year 10 = .ok (.aload_n 0, 1) := by decide +kernel
theorem dX9_year_11 : decode cX9_year 11 = .ok (.getfield 7, 3) := by decide +kernel
theorem dX9_year_14 : decode cX9_year 14 = .ok (.iconst 3, 1) := by decide +kernel
theorem dX9_year_15 : decode cX9_year 15 = .ok (.iaload, 1) := by decide +kernel
theorem dX9_year_16 : decode cX9_year 16 = .ok (.sipush 9999, 3) := by decide +kernel
theorem dX9_year_19 : decode cX9_year 19 = .ok (.if_icmp .ne 6, 3) := by decide +kernel
theorem dX9_year_22 : decode cX9_year 22 = .ok (.bipush (-3), 2) := by decide +kernel
theorem dX9_year_24 : decode cX9_year 24 = .ok (.ireturn, 1) := by decide +kernel
theorem dX9_year_25 : decode cX9_year 25 = .ok (.aload_n 0, 1) := by decide +kernel
theorem dX9_year_26 : decode cX9_year 26 = .ok (.invokevirtual 182, 3) := by decide +kernel
theorem dX9_year_29 : decode cX9_year 29 = .ok (.aload_n 0, 1) := by decide +kernel
theorem dX9_year_30 : decode cX9_year 30 = .ok (.getfield 7, 3) := by decide +kernel
theorem dX9_year_33 : decode cX9_year 33 = .ok (.invokestatic 189, 3) := by decide +kernel
theorem dX9_year_36 : decode cX9_year 36 = .ok (.ireturn, 1) := by decide +kernel
def X9_year (S0 : Rec) : Option (Int32 × Rec) :=
  (X9_isThere S0).bind fun v1 =>
  if v1 = 0 then
    some ((-2 : Int32), S0)
  else
    (rdI (S0.2.1 0) 96 (3 : Int32)).bind fun v3 =>
    if v3 = (9999 : Int32) then
      some ((-3 : Int32), S0)
    else
      (X9_keep S0).bind fun v5 =>
      (X9_goOn (v5.2.1 0)).bind fun v7 =>
      some (v7.1, (sA v5 0 v7.2))
set_option maxRecDepth 100000 in
set_option maxHeartbeats 4000000 in
theorem X9_year_ok (l : Launch) {h : aH} {nx : Nat} {a0 : Nat} {S0 : Rec} (hB0 : X9_at h a0 S0) {r : Int32 × Rec} (hF : X9_year S0 = some r) : aOk l 2 0 0 yX9_year cX9_year 1 (some .int) [.ref a0] h nx (aMt (some (.int r.1)) nx (fun h1 => X9_at h1 a0 r.2 ∧ (∀ q, (q < a0 ∨ a0 + 20 ≤ q) → h1 q = h q))) := by
  refine aOk.of (by decide +kernel) (Nat.le_of_ble_eq_true rfl) (fun X G hX C R0 _ => ?_)
  subst hX
  show aV X G 1 0 [(0, .ref a0)] [] h nx 0 0
  have hFr : ∀ q, (q < a0 ∨ a0 + 20 ≤ q) → h q = h q := fun _ _ => rfl
  rw [X9_year] at hF
  refine ab_aload_n C 0 rfl rfl dX9_year_0 ?_
  obtain ⟨v1, hxv1, hF⟩ := Option.bind_eq_some_iff.mp hF
  refine ab_cVR (v := .int v1) (st := []) C lm_X9_185 (X9_isThere_ok (xl X) hB0 (r := v1) hxv1) [] rfl hB0.1 rfl rfl rfl (by decide) ⟨Nat.zero_le _, Nat.zero_le _⟩ (Nat.le_of_ble_eq_true rfl) dX9_year_1 ?_
  refine ab_if_ne C 10 dX9_year_4 (by decide) (fun c2 => ?_) (fun c2 => ?_)
  · replace hF := (if_neg c2).symm.trans hF
    refine ab_aload_n C 0 rfl rfl dX9_year_10 ?_
    refine ab_g9 (v := .ref (a0 + 1)) C lf_X9_7 hB0.1 rfl dX9_year_11 ?_
    refine ab_iconst (v := (3 : Int32)) C dX9_year_14 (by decide) ?_
    obtain ⟨v3, hxv3, hF⟩ := Option.bind_eq_some_iff.mp hF
    refine ab_iald C (X9_r0 hB0) hxv3 dX9_year_15 ?_
    refine ab_sipush (v := (9999 : Int32)) C dX9_year_16 (by decide) ?_
    refine ab_icmp_ne C 25 dX9_year_19 (by decide) (fun c4 => ?_) (fun c4 => ?_)
    · replace hF := (if_neg c4).symm.trans hF
      refine ab_aload_n C 0 rfl rfl dX9_year_25 ?_
      obtain ⟨v5, hxv5, hF⟩ := Option.bind_eq_some_iff.mp hF
      refine ab_cVN (st := []) C lm_X9_182 (X9_keep_ok (xl X) hB0 (r := v5) hxv5) [] rfl hB0.1 rfl rfl rfl (by decide) ⟨Nat.zero_le _, Nat.zero_le _⟩ (Nat.le_of_ble_eq_true rfl) dX9_year_26 (fun g6 pg6 => ?_)
      obtain ⟨k0, Og6⟩ := pg6
      have hB0 : X9_at g6 a0 v5 := k0
      have hFr : ∀ q, (q < a0 ∨ a0 + 20 ≤ q) → g6 q = h q := fun q u0 => (Og6 q (by omega)).trans (hFr q u0)
      refine ab_aload_n C 0 rfl rfl dX9_year_29 ?_
      refine ab_g9 (v := .ref (a0 + 1)) C lf_X9_7 hB0.1 rfl dX9_year_30 ?_
      obtain ⟨v7, hxv7, hF⟩ := Option.bind_eq_some_iff.mp hF
      refine ab_cSM (v := .int v7.1) (st := []) C lm_X9_189 (X9_goOn_ok (xl X) (X9_r0 hB0) (r := v7) hxv7) rfl rfl (by decide) ⟨Nat.zero_le _, Nat.zero_le _⟩ (Nat.le_of_ble_eq_true rfl) dX9_year_33 (fun g8 pg8 => ?_)
      obtain ⟨k0, Og8⟩ := pg8
      have hB0 : X9_at g8 a0 (sA v5 0 v7.2) := X9_w0 hB0 k0 (fun q i1 => Og8 q (by omega))
      have hFr : ∀ q, (q < a0 ∨ a0 + 20 ≤ q) → g8 q = h q := fun q u0 => (Og8 q (by omega)).trans (hFr q u0)
      obtain rfl := Option.some.inj hF
      exact ab_iret C R0 rfl dX9_year_36 ⟨rfl, rfl, hB0, hFr⟩
    · replace hF := (if_pos c4).symm.trans hF
      refine ab_bipush (v := (-3 : Int32)) C dX9_year_22 (by decide) ?_
      obtain rfl := Option.some.inj hF
      exact ab_iret C R0 rfl dX9_year_24 ⟨rfl, rfl, hB0, hFr⟩
  · replace hF := (if_pos c2).symm.trans hF
    refine ab_bipush (v := (-2 : Int32)) C dX9_year_7 (by decide) ?_
    obtain rfl := Option.some.inj hF
    exact ab_iret C R0 rfl dX9_year_9 ⟨rfl, rfl, hB0, hFr⟩
theorem dX9_undo_0 : decode cX9_undo 0 = .ok (.aload_n 0, 1) := by decide +kernel
theorem dX9_undo_1 : decode cX9_undo 1 = .ok (.getfield 130, 3) := by decide +kernel
theorem dX9_undo_4 : decode cX9_undo 4 = .ok (.ifCond .ne 6, 3) := by decide +kernel
theorem dX9_undo_7 : decode cX9_undo 7 = .ok (.bipush (-4), 2) := by decide +kernel
theorem dX9_undo_9 : decode cX9_undo 9 = .ok (.ireturn, 1) := by decide +kernel
theorem dX9_undo_10 : decode cX9_undo 10 = .ok (.aload_n 0, 1) := by decide +kernel
theorem dX9_undo_11 : decode cX9_undo 11 = .ok (.dup, 1) := by decide +kernel
theorem dX9_undo_12 : decode cX9_undo 12 = .ok (.getfield 130, 3) := by decide +kernel
theorem dX9_undo_15 : decode cX9_undo 15 = .ok (.iconst 1, 1) := by decide +kernel
theorem dX9_undo_16 : decode cX9_undo 16 = .ok (.isub, 1) := by decide +kernel
theorem dX9_undo_17 : decode cX9_undo 17 = .ok (.putfield 130, 3) := by decide +kernel
theorem dX9_undo_20 : decode cX9_undo 20 = .ok (.iconst 0, 1) := by decide +kernel
theorem dX9_undo_21 : decode cX9_undo 21 = .ok (.istore_n 1, 1) := by decide +kernel
theorem dX9_undo_22 : decode cX9_undo 22 = .ok (.iload_n 1, 1) := by decide +kernel
theorem dX9_undo_23 : decode cX9_undo 23 = .ok (.bipush 96, 2) := by decide +kernel
theorem dX9_undo_25 : decode cX9_undo 25 = .ok (.if_icmp .ge 29, 3) := by decide +kernel
theorem dX9_undo_28 : decode cX9_undo 28 = .ok (.aload_n 0, 1) := by decide +kernel
theorem dX9_undo_29 : decode cX9_undo 29 = .ok (.getfield 7, 3) := by decide +kernel
theorem dX9_undo_32 : decode cX9_undo 32 = .ok (.iload_n 1, 1) := by decide +kernel
theorem dX9_undo_33 : decode cX9_undo 33 = .ok (.aload_n 0, 1) := by decide +kernel
theorem dX9_undo_34 : decode cX9_undo 34 = .ok (.getfield 19, 3) := by decide +kernel
theorem dX9_undo_37 : decode cX9_undo 37 = .ok (.bipush 96, 2) := by decide +kernel
theorem dX9_undo_39 : decode cX9_undo 39 = .ok (.aload_n 0, 1) := by decide +kernel
theorem dX9_undo_40 : decode cX9_undo 40 = .ok (.getfield 130, 3) := by decide +kernel
theorem dX9_undo_43 : decode cX9_undo 43 = .ok (.imul, 1) := by decide +kernel
theorem dX9_undo_44 : decode cX9_undo 44 = .ok (.iload_n 1, 1) := by decide +kernel
theorem dX9_undo_45 : decode cX9_undo 45 = .ok (.iadd, 1) := by decide +kernel
theorem dX9_undo_46 : decode cX9_undo 46 = .ok (.iaload, 1) := by decide +kernel
theorem dX9_undo_47 : decode cX9_undo 47 = .ok (.iastore, 1) := by decide +kernel
theorem dX9_undo_48 : decode cX9_undo 48 = .ok (.iinc 1 1, 3) := by decide +kernel
theorem dX9_undo_51 : decode cX9_undo 51 = .ok (.goto (-29), 3) := by decide +kernel
theorem dX9_undo_54 : decode cX9_undo 54 = .ok (.aload_n 0, 1) := by decide +kernel
theorem dX9_undo_55 : decode cX9_undo 55 = .ok (.getfield 130, 3) := by decide +kernel
theorem dX9_undo_58 : decode cX9_undo 58 = .ok (.ireturn, 1) := by decide +kernel
def X9_undo_L22 : Nat → Int32 → Rec → Option (Rec)
  | 0, _, _ => none
  | n22 + 1, v3, Z4 => if (96 : Int32) ≤ v3 then
      some Z4
    else
      (rdI (Z4.2.1 3) 2304 (((96 : Int32) * (Z4.1 4)) + v3)).bind fun v7 =>
      (wrI (Z4.2.1 0) 96 v3 v7).bind fun w8 =>
      aLet (v3 + (1 : Int32)) fun v10 =>
      X9_undo_L22 n22 v10 (sA Z4 0 w8)
def X9_undo (S0 : Rec) : Option (Int32 × Rec) :=
  if (S0.1 4) = 0 then
    some ((-4 : Int32), S0)
  else
    (X9_undo_L22 aFu (0 : Int32) (sI S0 4 ((S0.1 4) - (1 : Int32)))).bind fun e11 =>
    some ((e11.1 4), e11)
set_option maxRecDepth 100000 in
set_option maxHeartbeats 4000000 in
theorem X9_undo_ok (l : Launch) {h : aH} {nx : Nat} {a0 : Nat} {S0 : Rec} (hB0 : X9_at h a0 S0) {r : Int32 × Rec} (hF : X9_undo S0 = some r) : aOk l 0 0 0 yX9_undo cX9_undo 2 (some .int) [.ref a0] h nx (aMt (some (.int r.1)) nx (fun h1 => X9_at h1 a0 r.2 ∧ (∀ q, (q < a0 ∨ a0 + 20 ≤ q) → h1 q = h q))) := by
  refine aOk.of (by decide +kernel) (Nat.le_of_ble_eq_true rfl) (fun X G hX C R0 _ => ?_)
  subst hX
  show aV X G 2 0 [(0, .ref a0)] [] h nx 0 0
  have hFr : ∀ q, (q < a0 ∨ a0 + 20 ≤ q) → h q = h q := fun _ _ => rfl
  rw [X9_undo] at hF
  refine ab_aload_n C 0 rfl rfl dX9_undo_0 ?_
  refine ab_g9 (v := .int (S0.1 4)) C lf_X9_130 hB0.1 rfl dX9_undo_1 ?_
  refine ab_if_ne C 10 dX9_undo_4 (by decide) (fun c1 => ?_) (fun c1 => ?_)
  · replace hF := (if_neg c1).symm.trans hF
    refine ab_aload_n C 0 rfl rfl dX9_undo_10 ?_
    refine ab_dup C rfl dX9_undo_11 ?_
    refine ab_g9 (v := .int (S0.1 4)) C lf_X9_130 hB0.1 rfl dX9_undo_12 ?_
    refine ab_iconst (v := (1 : Int32)) C dX9_undo_15 (by decide) ?_
    refine ab_isub C dX9_undo_16 ?_
    refine ab_p9 (ty := .int) C lf_X9_130 rfl (by decide +kernel) rfl rfl (Nat.le_of_ble_eq_true rfl) hB0.1 dX9_undo_17 (fun g2 eg2 og2 => ?_)
    have hB0 : X9_at g2 a0 (sI S0 4 ((S0.1 4) - (1 : Int32))) := X9_p4 hB0 eg2 og2
    have hFr : ∀ q, (q < a0 ∨ a0 + 20 ≤ q) → g2 q = h q := fun q u0 => (og2 q (by omega)).trans (hFr q u0)
    refine ab_iconst (v := (0 : Int32)) C dX9_undo_20 (by decide) ?_
    refine ab_istore_n (lv' := [(1, .int (0 : Int32)), (0, .ref a0)]) C dX9_undo_21 rfl (by decide) rfl ?_
    have L22 : ∀ (n22 : Nat) (v3 : Int32) (Z4 : Rec) (g5 : aH), (X9_at g5 a0 Z4) → (∀ q, (q < a0 ∨ a0 + 20 ≤ q) → g5 q = h q) → ∀ (res22 : Rec), X9_undo_L22 n22 v3 Z4 = some res22 → (∀ (q9 : aH), (X9_at q9 a0 res22) → (∀ q, (q < a0 ∨ a0 + 20 ≤ q) → q9 q = h q) → aV X G 2 54 [(0, .ref a0)] [] q9 nx 0 0) → aV X G 2 22 [(0, .ref a0), (1, .int v3)] [] g5 nx 0 0 := by
      intro n22
      induction n22 with
      | zero => intro v3 Z4 g5 hB0 hFr res22 hF KX22; cases (show (none : Option (Rec)) = some res22 from hF)
      | succ n22 ih22 =>
        intro v3 Z4 g5 hB0 hFr res22 hF KX22
        rw [X9_undo_L22] at hF
        refine ab_iload_n C 1 rfl rfl dX9_undo_22 ?_
        refine ab_bipush (v := (96 : Int32)) C dX9_undo_23 (by decide) ?_
        refine ab_icmp_ge C 54 dX9_undo_25 (by decide) (fun c6 => ?_) (fun c6 => ?_)
        · replace hF := (if_pos c6).symm.trans hF
          obtain rfl := Option.some.inj hF
          refine aV.sub (lv' := [(0, .ref a0)]) [0] rfl ?_
          exact KX22 g5 hB0 hFr
        · replace hF := (if_neg c6).symm.trans hF
          refine ab_aload_n C 0 rfl rfl dX9_undo_28 ?_
          refine ab_g9 (v := .ref (a0 + 1)) C lf_X9_7 hB0.1 rfl dX9_undo_29 ?_
          refine ab_iload_n C 1 rfl rfl dX9_undo_32 ?_
          refine ab_aload_n C 0 rfl rfl dX9_undo_33 ?_
          refine ab_g9 (v := .ref (a0 + 4)) C lf_X9_19 hB0.1 rfl dX9_undo_34 ?_
          refine ab_bipush (v := (96 : Int32)) C dX9_undo_37 (by decide) ?_
          refine ab_aload_n C 0 rfl rfl dX9_undo_39 ?_
          refine ab_g9 (v := .int (Z4.1 4)) C lf_X9_130 hB0.1 rfl dX9_undo_40 ?_
          refine ab_imul C dX9_undo_43 ?_
          refine ab_iload_n C 1 rfl rfl dX9_undo_44 ?_
          refine ab_iadd C dX9_undo_45 ?_
          obtain ⟨v7, hxv7, hF⟩ := Option.bind_eq_some_iff.mp hF
          refine ab_iald C (X9_r3 hB0) hxv7 dX9_undo_46 ?_
          obtain ⟨w8, hxw8, hF⟩ := Option.bind_eq_some_iff.mp hF
          refine ab_iast C (X9_r0 hB0) hxw8 dX9_undo_47 (fun g9 eg9 og9 => ?_)
          have hB0 : X9_at g9 a0 (sA Z4 0 w8) := X9_w0 hB0 eg9 og9
          have hFr : ∀ q, (q < a0 ∨ a0 + 20 ≤ q) → g9 q = h q := fun q u0 => (og9 q (by omega)).trans (hFr q u0)
          obtain ⟨v10, qv10⟩ : ∃ y : Int32, y = (v3 + (1 : Int32)) := ⟨_, rfl⟩
          replace hF := aLet_e hF v10 qv10
          refine ab_iinc (lv' := [(1, .int v10), (0, .ref a0)]) C 1 rfl dX9_undo_48 (by rw [qv10]; rfl) (by decide) rfl ?_
          refine ab_goto C 22 dX9_undo_51 (by decide) ?_
          refine aV.sub (lv' := [(0, .ref a0), (1, .int v10)]) [1, 0] rfl ?_
          exact ih22 v10 (sA Z4 0 w8) g9 hB0 hFr res22 hF KX22
    refine aV.sub (lv' := [(0, .ref a0), (1, .int (0 : Int32))]) [1, 0] rfl ?_
    obtain ⟨e11, he11, hF⟩ := Option.bind_eq_some_iff.mp hF
    refine L22 aFu (0 : Int32) (sI S0 4 ((S0.1 4) - (1 : Int32))) g2 hB0 hFr e11 he11 (fun g12 hB0 hFr => ?_)
    refine ab_aload_n C 0 rfl rfl dX9_undo_54 ?_
    refine ab_g9 (v := .int (e11.1 4)) C lf_X9_130 hB0.1 rfl dX9_undo_55 ?_
    obtain rfl := Option.some.inj hF
    exact ab_iret C R0 rfl dX9_undo_58 ⟨rfl, rfl, hB0, hFr⟩
  · replace hF := (if_pos c1).symm.trans hF
    refine ab_bipush (v := (-4 : Int32)) C dX9_undo_7 (by decide) ?_
    obtain rfl := Option.some.inj hF
    exact ab_iret C R0 rfl dX9_undo_9 ⟨rfl, rfl, hB0, hFr⟩
theorem dX9_image_0 : decode cX9_image 0 = .ok (.iload_n 1, 1) := by decide +kernel
theorem dX9_image_1 : decode cX9_image 1 = .ok (.i2l, 1) := by decide +kernel
theorem dX9_image_2 : decode cX9_image 2 = .ok (.lconst 0, 1) := by decide +kernel
theorem dX9_image_3 : decode cX9_image 3 = .ok (.lconst 1, 1) := by decide +kernel
theorem dX9_image_4 : decode cX9_image 4 = .ok (.invokestatic 69, 3) := by decide +kernel
theorem dX9_image_7 : decode cX9_image 7 = .ok (.ifCond .ne 5, 3) := by decide +kernel
theorem dX9_image_10 : decode cX9_image 10 = .ok (.iconst (-1), 1) := by decide +kernel
theorem dX9_image_11 : decode cX9_image 11 = .ok (.ireturn, 1) := by decide +kernel
theorem dX9_image_12 : decode cX9_image 12 = .ok (.aload_n 0, 1) := by decide +kernel
theorem dX9_image_13 : decode cX9_image 13 = .ok (.invokevirtual 185, 3) := by decide +kernel
theorem dX9_image_16 : decode cX9_image 16 = .ok (.ifCond .ne 6, 3) := by decide +kernel
theorem dX9_image_19 : decode cX9_image 19 = .ok (.bipush (-2), 2) := by decide +kernel
theorem dX9_image_21 : decode cX9_image 21 = .ok (.ireturn, 1) := by decide +kernel
theorem dX9_image_22 : decode cX9_image 22 = .ok (.iconst 0, 1) := by decide +kernel
theorem dX9_image_23 : decode cX9_image 23 = .ok (.istore_n 2, 1) := by decide +kernel
theorem dX9_image_24 : decode cX9_image 24 = .ok (.iload_n 2, 1) := by decide +kernel
theorem dX9_image_25 : decode cX9_image 25 = .ok (.bipush 96, 2) := by decide +kernel
theorem dX9_image_27 : decode cX9_image 27 = .ok (.if_icmp .ge 26, 3) := by decide +kernel
theorem dX9_image_30 : decode cX9_image 30 = .ok (.aload_n 0, 1) := by decide +kernel
theorem dX9_image_31 : decode cX9_image 31 = .ok (.getfield 29, 3) := by decide +kernel
theorem dX9_image_34 : decode cX9_image 34 = .ok (.bipush 96, 2) := by decide +kernel
theorem dX9_image_36 : decode cX9_image 36 = .ok (.iload_n 1, 1) := by decide +kernel
theorem dX9_image_37 : decode cX9_image 37 = .ok (.imul, 1) := by decide +kernel
theorem dX9_image_38 : decode cX9_image 38 = .ok (.iload_n 2, 1) := by decide +kernel
theorem dX9_image_39 : decode cX9_image 39 = .ok (.iadd, 1) := by decide +kernel
theorem dX9_image_40 : decode cX9_image 40 = .ok (.aload_n 0, 1) := by decide +kernel
theorem dX9_image_41 : decode cX9_image 41 = .ok (.getfield 7, 3) := by decide +kernel
theorem dX9_image_44 : decode cX9_image 44 = .ok (.iload_n 2, 1) := by decide +kernel
theorem dX9_image_45 : decode cX9_image 45 = .ok (.iaload, 1) := by decide +kernel
theorem dX9_image_46 : decode cX9_image 46 = .ok (.iastore, 1) := by decide +kernel
theorem dX9_image_47 : decode cX9_image 47 = .ok (.iinc 2 1, 3) := by decide +kernel
theorem dX9_image_50 : decode cX9_image 50 = .ok (.goto (-26), 3) := by decide +kernel
theorem dX9_image_53 : decode cX9_image 53 = .ok (.aload_n 0, 1) := by decide +kernel
theorem dX9_image_54 : decode cX9_image 54 = .ok (.getfield 25, 3) := by decide +kernel
theorem dX9_image_57 : decode cX9_image 57 = .ok (.iload_n 1, 1) := by decide +kernel
theorem dX9_image_58 : decode cX9_image 58 = .ok (.iconst 1, 1) := by decide +kernel
theorem dX9_image_59 : decode cX9_image 59 = .ok (.bastore, 1) := by decide +kernel
theorem dX9_image_60 : decode cX9_image 60 = .ok (.aload_n 0, 1) := by decide +kernel
theorem dX9_image_61 : decode cX9_image 61 = .ok (.getfield 7, 3) := by decide +kernel
theorem dX9_image_64 : decode cX9_image 64 = .ok (.iconst 3, 1) := by decide +kernel
theorem dX9_image_65 : decode cX9_image 65 = .ok (.iaload, 1) := by decide +kernel
theorem dX9_image_66 : decode cX9_image 66 = .ok (.ireturn, 1) := by decide +kernel
def X9_image_L24 (x1 : Int32) : Nat → Int32 → Rec → Option (Rec)
  | 0, _, _ => none
  | n24 + 1, v4, Z5 => if (96 : Int32) ≤ v4 then
      some Z5
    else
      (rdI (Z5.2.1 0) 96 v4).bind fun v8 =>
      (wrI (Z5.2.1 10) 192 (((96 : Int32) * x1) + v4) v8).bind fun w9 =>
      aLet (v4 + (1 : Int32)) fun v11 =>
      X9_image_L24 x1 n24 v11 (sA Z5 10 w9)
def X9_image (S0 : Rec) (x1 : Int32) : Option (Int32 × Rec) :=
  if (X9_in (x1.toInt64) (0 : Int64) (1 : Int64)) = 0 then
    some ((-1 : Int32), S0)
  else
    (X9_isThere S0).bind fun v2 =>
    if v2 = 0 then
      some ((-2 : Int32), S0)
    else
      (X9_image_L24 x1 aFu (0 : Int32) S0).bind fun e12 =>
      (wrI (e12.2.1 9) 2 x1 (1 : Int32)).bind fun w14 =>
      (rdI ((sA e12 9 w14).2.1 0) 96 (3 : Int32)).bind fun v16 =>
      some (v16, (sA e12 9 w14))
set_option maxRecDepth 100000 in
set_option maxHeartbeats 4000000 in
theorem X9_image_ok (l : Launch) {h : aH} {nx : Nat} {a0 : Nat} {S0 : Rec} {x1 : Int32} (hB0 : X9_at h a0 S0) {r : Int32 × Rec} (hF : X9_image S0 x1 = some r) : aOk l 1 0 0 yX9_image cX9_image 3 (some .int) [.ref a0, .int x1] h nx (aMt (some (.int r.1)) nx (fun h1 => X9_at h1 a0 r.2 ∧ (∀ q, (q < a0 ∨ a0 + 20 ≤ q) → h1 q = h q))) := by
  refine aOk.of (by decide +kernel) (Nat.le_of_ble_eq_true rfl) (fun X G hX C R0 _ => ?_)
  subst hX
  show aV X G 3 0 [(0, .ref a0), (1, .int x1)] [] h nx 0 0
  have hFr : ∀ q, (q < a0 ∨ a0 + 20 ≤ q) → h q = h q := fun _ _ => rfl
  rw [X9_image] at hF
  refine ab_iload_n C 1 rfl rfl dX9_image_0 ?_
  refine ab_i2l C dX9_image_1 ?_
  refine ab_lconst (v := (0 : Int64)) C dX9_image_2 (by decide) ?_
  refine ab_lconst (v := (1 : Int64)) C dX9_image_3 (by decide) ?_
  refine ab_cSR (v := .int (X9_in (x1.toInt64) (0 : Int64) (1 : Int64))) (st := []) C lm_X9_69 (X9_in_ok (xl X) (r := (X9_in (x1.toInt64) (0 : Int64) (1 : Int64))) rfl) rfl rfl (by decide) ⟨Nat.zero_le _, Nat.zero_le _⟩ (Nat.le_of_ble_eq_true rfl) dX9_image_4 ?_
  refine ab_if_ne C 12 dX9_image_7 (by decide) (fun c1 => ?_) (fun c1 => ?_)
  · replace hF := (if_neg c1).symm.trans hF
    refine ab_aload_n C 0 rfl rfl dX9_image_12 ?_
    obtain ⟨v2, hxv2, hF⟩ := Option.bind_eq_some_iff.mp hF
    refine ab_cVR (v := .int v2) (st := []) C lm_X9_185 (X9_isThere_ok (xl X) hB0 (r := v2) hxv2) [] rfl hB0.1 rfl rfl rfl (by decide) ⟨Nat.zero_le _, Nat.zero_le _⟩ (Nat.le_of_ble_eq_true rfl) dX9_image_13 ?_
    refine ab_if_ne C 22 dX9_image_16 (by decide) (fun c3 => ?_) (fun c3 => ?_)
    · replace hF := (if_neg c3).symm.trans hF
      refine ab_iconst (v := (0 : Int32)) C dX9_image_22 (by decide) ?_
      refine ab_istore_n (lv' := [(2, .int (0 : Int32)), (0, .ref a0), (1, .int x1)]) C dX9_image_23 rfl (by decide) rfl ?_
      have L24 : ∀ (n24 : Nat) (v4 : Int32) (Z5 : Rec) (g6 : aH), (X9_at g6 a0 Z5) → (∀ q, (q < a0 ∨ a0 + 20 ≤ q) → g6 q = h q) → ∀ (res24 : Rec), X9_image_L24 x1 n24 v4 Z5 = some res24 → (∀ (q9 : aH), (X9_at q9 a0 res24) → (∀ q, (q < a0 ∨ a0 + 20 ≤ q) → q9 q = h q) → aV X G 3 53 [(0, .ref a0), (1, .int x1)] [] q9 nx 0 0) → aV X G 3 24 [(0, .ref a0), (1, .int x1), (2, .int v4)] [] g6 nx 0 0 := by
        intro n24
        induction n24 with
        | zero => intro v4 Z5 g6 hB0 hFr res24 hF KX24; cases (show (none : Option (Rec)) = some res24 from hF)
        | succ n24 ih24 =>
          intro v4 Z5 g6 hB0 hFr res24 hF KX24
          rw [X9_image_L24] at hF
          refine ab_iload_n C 2 rfl rfl dX9_image_24 ?_
          refine ab_bipush (v := (96 : Int32)) C dX9_image_25 (by decide) ?_
          refine ab_icmp_ge C 53 dX9_image_27 (by decide) (fun c7 => ?_) (fun c7 => ?_)
          · replace hF := (if_pos c7).symm.trans hF
            obtain rfl := Option.some.inj hF
            refine aV.sub (lv' := [(0, .ref a0), (1, .int x1)]) [0, 1] rfl ?_
            exact KX24 g6 hB0 hFr
          · replace hF := (if_neg c7).symm.trans hF
            refine ab_aload_n C 0 rfl rfl dX9_image_30 ?_
            refine ab_g9 (v := .ref (a0 + 7)) C lf_X9_29 hB0.1 rfl dX9_image_31 ?_
            refine ab_bipush (v := (96 : Int32)) C dX9_image_34 (by decide) ?_
            refine ab_iload_n C 1 rfl rfl dX9_image_36 ?_
            refine ab_imul C dX9_image_37 ?_
            refine ab_iload_n C 2 rfl rfl dX9_image_38 ?_
            refine ab_iadd C dX9_image_39 ?_
            refine ab_aload_n C 0 rfl rfl dX9_image_40 ?_
            refine ab_g9 (v := .ref (a0 + 1)) C lf_X9_7 hB0.1 rfl dX9_image_41 ?_
            refine ab_iload_n C 2 rfl rfl dX9_image_44 ?_
            obtain ⟨v8, hxv8, hF⟩ := Option.bind_eq_some_iff.mp hF
            refine ab_iald C (X9_r0 hB0) hxv8 dX9_image_45 ?_
            obtain ⟨w9, hxw9, hF⟩ := Option.bind_eq_some_iff.mp hF
            refine ab_iast C (X9_r10 hB0) hxw9 dX9_image_46 (fun g10 eg10 og10 => ?_)
            have hB0 : X9_at g10 a0 (sA Z5 10 w9) := X9_w10 hB0 eg10 og10
            have hFr : ∀ q, (q < a0 ∨ a0 + 20 ≤ q) → g10 q = h q := fun q u0 => (og10 q (by omega)).trans (hFr q u0)
            obtain ⟨v11, qv11⟩ : ∃ y : Int32, y = (v4 + (1 : Int32)) := ⟨_, rfl⟩
            replace hF := aLet_e hF v11 qv11
            refine ab_iinc (lv' := [(2, .int v11), (0, .ref a0), (1, .int x1)]) C 2 rfl dX9_image_47 (by rw [qv11]; rfl) (by decide) rfl ?_
            refine ab_goto C 24 dX9_image_50 (by decide) ?_
            refine aV.sub (lv' := [(0, .ref a0), (1, .int x1), (2, .int v11)]) [1, 2, 0] rfl ?_
            exact ih24 v11 (sA Z5 10 w9) g10 hB0 hFr res24 hF KX24
      refine aV.sub (lv' := [(0, .ref a0), (1, .int x1), (2, .int (0 : Int32))]) [1, 2, 0] rfl ?_
      obtain ⟨e12, he12, hF⟩ := Option.bind_eq_some_iff.mp hF
      refine L24 aFu (0 : Int32) S0 h hB0 hFr e12 he12 (fun g13 hB0 hFr => ?_)
      refine ab_aload_n C 0 rfl rfl dX9_image_53 ?_
      refine ab_g9 (v := .ref (a0 + 6)) C lf_X9_25 hB0.1 rfl dX9_image_54 ?_
      refine ab_iload_n C 1 rfl rfl dX9_image_57 ?_
      refine ab_iconst (v := (1 : Int32)) C dX9_image_58 (by decide) ?_
      obtain ⟨w14, hxw14, hF⟩ := Option.bind_eq_some_iff.mp hF
      refine ab_zast C (X9_r9 hB0) hxw14 rfl dX9_image_59 (fun g15 eg15 og15 => ?_)
      have hB0 : X9_at g15 a0 (sA e12 9 w14) := X9_w9 hB0 eg15 og15
      have hFr : ∀ q, (q < a0 ∨ a0 + 20 ≤ q) → g15 q = h q := fun q u0 => (og15 q (by omega)).trans (hFr q u0)
      refine ab_aload_n C 0 rfl rfl dX9_image_60 ?_
      refine ab_g9 (v := .ref (a0 + 1)) C lf_X9_7 hB0.1 rfl dX9_image_61 ?_
      refine ab_iconst (v := (3 : Int32)) C dX9_image_64 (by decide) ?_
      obtain ⟨v16, hxv16, hF⟩ := Option.bind_eq_some_iff.mp hF
      refine ab_iald C (X9_r0 hB0) hxv16 dX9_image_65 ?_
      obtain rfl := Option.some.inj hF
      exact ab_iret C R0 rfl dX9_image_66 ⟨rfl, rfl, hB0, hFr⟩
    · replace hF := (if_pos c3).symm.trans hF
      refine ab_bipush (v := (-2 : Int32)) C dX9_image_19 (by decide) ?_
      obtain rfl := Option.some.inj hF
      exact ab_iret C R0 rfl dX9_image_21 ⟨rfl, rfl, hB0, hFr⟩
  · replace hF := (if_pos c1).symm.trans hF
    refine ab_iconst (v := (-1 : Int32)) C dX9_image_10 (by decide) ?_
    obtain rfl := Option.some.inj hF
    exact ab_iret C R0 rfl dX9_image_11 ⟨rfl, rfl, hB0, hFr⟩
theorem dX9_restore_0 : decode cX9_restore 0 = .ok (.iload_n 1, 1) := by decide +kernel
theorem dX9_restore_1 : decode cX9_restore 1 = .ok (.i2l, 1) := by decide +kernel
theorem dX9_restore_2 : decode cX9_restore 2 = .ok (.lconst 0, 1) := by decide +kernel
theorem dX9_restore_3 : decode cX9_restore 3 = .ok (.lconst 1, 1) := by decide +kernel
theorem dX9_restore_4 : decode cX9_restore 4 = .ok (.invokestatic 69, 3) := by decide +kernel
theorem dX9_restore_7 : decode cX9_restore 7 = .ok (.ifCond .ne 5, 3) := by decide +kernel
theorem dX9_restore_10 : decode cX9_restore 10 = .ok (.iconst (-1), 1) := by decide +kernel
theorem dX9_restore_11 : decode cX9_restore 11 = .ok (.ireturn, 1) := by decide +kernel
theorem dX9_restore_12 : decode cX9_restore 12 = .ok (.aload_n 0, 1) := by decide +kernel
theorem dX9_restore_13 : decode cX9_restore 13 = .ok (.getfield 25, 3) := by decide +kernel
theorem dX9_restore_16 : decode cX9_restore 16 = .ok (.iload_n 1, 1) := by decide +kernel
theorem dX9_restore_17 : decode cX9_restore 17 = .ok (.baload, 1) := by decide +kernel
theorem dX9_restore_18 : decode cX9_restore 18 = .ok (.ifCond .ne 6, 3) := by decide +kernel
theorem dX9_restore_21 : decode cX9_restore 21 = .ok (.bipush (-2), 2) := by decide +kernel
theorem dX9_restore_23 : decode cX9_restore 23 = .ok (.ireturn, 1) := by decide +kernel
theorem dX9_restore_24 : decode cX9_restore 24 = .ok (.iconst 0, 1) := by decide +kernel
theorem dX9_restore_25 : decode cX9_restore 25 = .ok (.istore_n 2, 1) := by decide +kernel
theorem dX9_restore_26 : decode cX9_restore 26 = .ok (.iload_n 2, 1) := by decide +kernel
theorem dX9_restore_27 : decode cX9_restore 27 = .ok (.bipush 96, 2) := by decide +kernel
theorem dX9_restore_29 : decode cX9_restore 29 = .ok (.if_icmp .ge 26, 3) := by decide +kernel
theorem dX9_restore_32 : decode cX9_restore 32 = .ok (.aload_n 0, 1) := by decide +kernel
theorem dX9_restore_33 : decode cX9_restore 33 = .ok (.getfield 7, 3) := by decide +kernel
theorem dX9_restore_36 : decode cX9_restore 36 = .ok (.iload_n 2, 1) := by decide +kernel
theorem dX9_restore_37 : decode cX9_restore 37 = .ok (.aload_n 0, 1) := by decide +kernel
theorem dX9_restore_38 : decode cX9_restore 38 = .ok (.getfield 29, 3) := by decide +kernel
theorem dX9_restore_41 : decode cX9_restore 41 = .ok (.bipush 96, 2) := by decide +kernel
theorem dX9_restore_43 : decode cX9_restore 43 = .ok (.iload_n 1, 1) := by decide +kernel
theorem dX9_restore_44 : decode cX9_restore 44 = .ok (.imul, 1) := by decide +kernel
theorem dX9_restore_45 : decode cX9_restore 45 = .ok (.iload_n 2, 1) := by decide +kernel
theorem dX9_restore_46 : decode cX9_restore 46 = .ok (.iadd, 1) := by decide +kernel
theorem dX9_restore_47 : decode cX9_restore 47 = .ok (.iaload, 1) := by decide +kernel
theorem dX9_restore_48 : decode cX9_restore 48 = .ok (.iastore, 1) := by decide +kernel
theorem dX9_restore_49 : decode cX9_restore 49 = .ok (.iinc 2 1, 3) := by decide +kernel
theorem dX9_restore_52 : decode cX9_restore 52 = .ok (.goto (-26), 3) := by decide +kernel
theorem dX9_restore_55 : decode cX9_restore 55 = .ok (.aload_n 0, 1) := by decide +kernel
theorem dX9_restore_56 : decode cX9_restore 56 = .ok (.iconst 0, 1) := by decide +kernel
theorem dX9_restore_57 : decode cX9_restore 57 = .ok (.putfield 130, 3) := by decide +kernel
theorem dX9_restore_60 : decode cX9_restore 60 = .ok (.aload_n 0, 1) := by decide +kernel
theorem dX9_restore_61 : decode cX9_restore 61 = .ok (.getfield 7, 3) := by decide +kernel
theorem dX9_restore_64 : decode cX9_restore 64 = .ok (.iconst 3, 1) := by decide +kernel
theorem dX9_restore_65 : decode cX9_restore 65 = .ok (.iaload, 1) := by decide +kernel
theorem dX9_restore_66 : decode cX9_restore 66 = .ok (.ireturn, 1) := by decide +kernel
def X9_restore_L26 (x1 : Int32) : Nat → Int32 → Rec → Option (Rec)
  | 0, _, _ => none
  | n26 + 1, v4, Z5 => if (96 : Int32) ≤ v4 then
      some Z5
    else
      (rdI (Z5.2.1 10) 192 (((96 : Int32) * x1) + v4)).bind fun v8 =>
      (wrI (Z5.2.1 0) 96 v4 v8).bind fun w9 =>
      aLet (v4 + (1 : Int32)) fun v11 =>
      X9_restore_L26 x1 n26 v11 (sA Z5 0 w9)
def X9_restore (S0 : Rec) (x1 : Int32) : Option (Int32 × Rec) :=
  if (X9_in (x1.toInt64) (0 : Int64) (1 : Int64)) = 0 then
    some ((-1 : Int32), S0)
  else
    (rdI (S0.2.1 9) 2 x1).bind fun v2 =>
    if v2 = 0 then
      some ((-2 : Int32), S0)
    else
      (X9_restore_L26 x1 aFu (0 : Int32) S0).bind fun e12 =>
      (rdI ((sI e12 4 (0 : Int32)).2.1 0) 96 (3 : Int32)).bind fun v15 =>
      some (v15, (sI e12 4 (0 : Int32)))
set_option maxRecDepth 100000 in
set_option maxHeartbeats 4000000 in
theorem X9_restore_ok (l : Launch) {h : aH} {nx : Nat} {a0 : Nat} {S0 : Rec} {x1 : Int32} (hB0 : X9_at h a0 S0) {r : Int32 × Rec} (hF : X9_restore S0 x1 = some r) : aOk l 1 0 0 yX9_restore cX9_restore 3 (some .int) [.ref a0, .int x1] h nx (aMt (some (.int r.1)) nx (fun h1 => X9_at h1 a0 r.2 ∧ (∀ q, (q < a0 ∨ a0 + 20 ≤ q) → h1 q = h q))) := by
  refine aOk.of (by decide +kernel) (Nat.le_of_ble_eq_true rfl) (fun X G hX C R0 _ => ?_)
  subst hX
  show aV X G 3 0 [(0, .ref a0), (1, .int x1)] [] h nx 0 0
  have hFr : ∀ q, (q < a0 ∨ a0 + 20 ≤ q) → h q = h q := fun _ _ => rfl
  rw [X9_restore] at hF
  refine ab_iload_n C 1 rfl rfl dX9_restore_0 ?_
  refine ab_i2l C dX9_restore_1 ?_
  refine ab_lconst (v := (0 : Int64)) C dX9_restore_2 (by decide) ?_
  refine ab_lconst (v := (1 : Int64)) C dX9_restore_3 (by decide) ?_
  refine ab_cSR (v := .int (X9_in (x1.toInt64) (0 : Int64) (1 : Int64))) (st := []) C lm_X9_69 (X9_in_ok (xl X) (r := (X9_in (x1.toInt64) (0 : Int64) (1 : Int64))) rfl) rfl rfl (by decide) ⟨Nat.zero_le _, Nat.zero_le _⟩ (Nat.le_of_ble_eq_true rfl) dX9_restore_4 ?_
  refine ab_if_ne C 12 dX9_restore_7 (by decide) (fun c1 => ?_) (fun c1 => ?_)
  · replace hF := (if_neg c1).symm.trans hF
    refine ab_aload_n C 0 rfl rfl dX9_restore_12 ?_
    refine ab_g9 (v := .ref (a0 + 6)) C lf_X9_25 hB0.1 rfl dX9_restore_13 ?_
    refine ab_iload_n C 1 rfl rfl dX9_restore_16 ?_
    obtain ⟨v2, hxv2, hF⟩ := Option.bind_eq_some_iff.mp hF
    refine ab_zald C (X9_r9 hB0) hxv2 dX9_restore_17 ?_
    refine ab_if_ne C 24 dX9_restore_18 (by decide) (fun c3 => ?_) (fun c3 => ?_)
    · replace hF := (if_neg c3).symm.trans hF
      refine ab_iconst (v := (0 : Int32)) C dX9_restore_24 (by decide) ?_
      refine ab_istore_n (lv' := [(2, .int (0 : Int32)), (0, .ref a0), (1, .int x1)]) C dX9_restore_25 rfl (by decide) rfl ?_
      have L26 : ∀ (n26 : Nat) (v4 : Int32) (Z5 : Rec) (g6 : aH), (X9_at g6 a0 Z5) → (∀ q, (q < a0 ∨ a0 + 20 ≤ q) → g6 q = h q) → ∀ (res26 : Rec), X9_restore_L26 x1 n26 v4 Z5 = some res26 → (∀ (q9 : aH), (X9_at q9 a0 res26) → (∀ q, (q < a0 ∨ a0 + 20 ≤ q) → q9 q = h q) → aV X G 3 55 [(0, .ref a0)] [] q9 nx 0 0) → aV X G 3 26 [(0, .ref a0), (1, .int x1), (2, .int v4)] [] g6 nx 0 0 := by
        intro n26
        induction n26 with
        | zero => intro v4 Z5 g6 hB0 hFr res26 hF KX26; cases (show (none : Option (Rec)) = some res26 from hF)
        | succ n26 ih26 =>
          intro v4 Z5 g6 hB0 hFr res26 hF KX26
          rw [X9_restore_L26] at hF
          refine ab_iload_n C 2 rfl rfl dX9_restore_26 ?_
          refine ab_bipush (v := (96 : Int32)) C dX9_restore_27 (by decide) ?_
          refine ab_icmp_ge C 55 dX9_restore_29 (by decide) (fun c7 => ?_) (fun c7 => ?_)
          · replace hF := (if_pos c7).symm.trans hF
            obtain rfl := Option.some.inj hF
            refine aV.sub (lv' := [(0, .ref a0)]) [0] rfl ?_
            exact KX26 g6 hB0 hFr
          · replace hF := (if_neg c7).symm.trans hF
            refine ab_aload_n C 0 rfl rfl dX9_restore_32 ?_
            refine ab_g9 (v := .ref (a0 + 1)) C lf_X9_7 hB0.1 rfl dX9_restore_33 ?_
            refine ab_iload_n C 2 rfl rfl dX9_restore_36 ?_
            refine ab_aload_n C 0 rfl rfl dX9_restore_37 ?_
            refine ab_g9 (v := .ref (a0 + 7)) C lf_X9_29 hB0.1 rfl dX9_restore_38 ?_
            refine ab_bipush (v := (96 : Int32)) C dX9_restore_41 (by decide) ?_
            refine ab_iload_n C 1 rfl rfl dX9_restore_43 ?_
            refine ab_imul C dX9_restore_44 ?_
            refine ab_iload_n C 2 rfl rfl dX9_restore_45 ?_
            refine ab_iadd C dX9_restore_46 ?_
            obtain ⟨v8, hxv8, hF⟩ := Option.bind_eq_some_iff.mp hF
            refine ab_iald C (X9_r10 hB0) hxv8 dX9_restore_47 ?_
            obtain ⟨w9, hxw9, hF⟩ := Option.bind_eq_some_iff.mp hF
            refine ab_iast C (X9_r0 hB0) hxw9 dX9_restore_48 (fun g10 eg10 og10 => ?_)
            have hB0 : X9_at g10 a0 (sA Z5 0 w9) := X9_w0 hB0 eg10 og10
            have hFr : ∀ q, (q < a0 ∨ a0 + 20 ≤ q) → g10 q = h q := fun q u0 => (og10 q (by omega)).trans (hFr q u0)
            obtain ⟨v11, qv11⟩ : ∃ y : Int32, y = (v4 + (1 : Int32)) := ⟨_, rfl⟩
            replace hF := aLet_e hF v11 qv11
            refine ab_iinc (lv' := [(2, .int v11), (0, .ref a0), (1, .int x1)]) C 2 rfl dX9_restore_49 (by rw [qv11]; rfl) (by decide) rfl ?_
            refine ab_goto C 26 dX9_restore_52 (by decide) ?_
            refine aV.sub (lv' := [(0, .ref a0), (1, .int x1), (2, .int v11)]) [1, 2, 0] rfl ?_
            exact ih26 v11 (sA Z5 0 w9) g10 hB0 hFr res26 hF KX26
      refine aV.sub (lv' := [(0, .ref a0), (1, .int x1), (2, .int (0 : Int32))]) [1, 2, 0] rfl ?_
      obtain ⟨e12, he12, hF⟩ := Option.bind_eq_some_iff.mp hF
      refine L26 aFu (0 : Int32) S0 h hB0 hFr e12 he12 (fun g13 hB0 hFr => ?_)
      refine ab_aload_n C 0 rfl rfl dX9_restore_55 ?_
      refine ab_iconst (v := (0 : Int32)) C dX9_restore_56 (by decide) ?_
      refine ab_p9 (ty := .int) C lf_X9_130 rfl (by decide +kernel) rfl rfl (Nat.le_of_ble_eq_true rfl) hB0.1 dX9_restore_57 (fun g14 eg14 og14 => ?_)
      have hB0 : X9_at g14 a0 (sI e12 4 (0 : Int32)) := X9_p4 hB0 eg14 og14
      have hFr : ∀ q, (q < a0 ∨ a0 + 20 ≤ q) → g14 q = h q := fun q u0 => (og14 q (by omega)).trans (hFr q u0)
      refine ab_aload_n C 0 rfl rfl dX9_restore_60 ?_
      refine ab_g9 (v := .ref (a0 + 1)) C lf_X9_7 hB0.1 rfl dX9_restore_61 ?_
      refine ab_iconst (v := (3 : Int32)) C dX9_restore_64 (by decide) ?_
      obtain ⟨v15, hxv15, hF⟩ := Option.bind_eq_some_iff.mp hF
      refine ab_iald C (X9_r0 hB0) hxv15 dX9_restore_65 ?_
      obtain rfl := Option.some.inj hF
      exact ab_iret C R0 rfl dX9_restore_66 ⟨rfl, rfl, hB0, hFr⟩
    · replace hF := (if_pos c3).symm.trans hF
      refine ab_bipush (v := (-2 : Int32)) C dX9_restore_21 (by decide) ?_
      obtain rfl := Option.some.inj hF
      exact ab_iret C R0 rfl dX9_restore_23 ⟨rfl, rfl, hB0, hFr⟩
  · replace hF := (if_pos c1).symm.trans hF
    refine ab_iconst (v := (-1 : Int32)) C dX9_restore_10 (by decide) ?_
    obtain rfl := Option.some.inj hF
    exact ab_iret C R0 rfl dX9_restore_11 ⟨rfl, rfl, hB0, hFr⟩
theorem dX9_behind_0 : decode cX9_behind 0 = .ok (.aload_n 0, 1) := by decide +kernel
theorem dX9_behind_1 : decode cX9_behind 1 = .ok (.iload_n 1, 1) := by decide +kernel
theorem dX9_behind_2 : decode cX9_behind 2 = .ok (.invokevirtual 153, 3) := by decide +kernel
theorem dX9_behind_5 : decode cX9_behind 5 = .ok (.ifCond .eq 15, 3) := by decide +kernel
theorem dX9_behind_8 : decode cX9_behind 8 = .ok (.iload_n 2, 1) := by decide +kernel
theorem dX9_behind_9 : decode cX9_behind 9 = .ok (.i2l, 1) := by decide +kernel
theorem dX9_behind_10 : decode cX9_behind 10 = .ok (.lconst 0, 1) := by decide +kernel
theorem dX9_behind_11 : decode cX9_behind 11 = .ok (.ldc2_w 193, 3) := by decide +kernel
theorem dX9_behind_14 : decode cX9_behind 14 = .ok (.invokestatic 69, 3) := by decide +kernel
theorem dX9_behind_17 : decode cX9_behind 17 = .ok (.ifCond .ne 5, 3) := by decide +kernel
theorem dX9_behind_20 : decode cX9_behind 20 = .ok (.iconst (-1), 1) := by decide +kernel
theorem dX9_behind_21 : decode cX9_behind 21 = .ok (.ireturn, 1) := by decide +kernel
theorem dX9_behind_22 : decode cX9_behind 22 = .ok (.aload_n 0, 1) := by decide +kernel
theorem dX9_behind_23 : decode cX9_behind 23 = .ok (.invokevirtual 195, 3) := by decide +kernel
theorem dX9_behind_26 : decode cX9_behind 26 = .ok (.iconst 0, 1) := by decide +kernel
theorem dX9_behind_27 : decode cX9_behind 27 = .ok (.istore_n 3, 1) := by decide +kernel
theorem dX9_behind_28 : decode cX9_behind 28 = .ok (.iload_n 3, 1) := by decide +kernel
theorem dX9_behind_29 : decode cX9_behind 29 = .ok (.iload_n 2, 1) := by decide +kernel
theorem dX9_behind_30 : decode cX9_behind 30 = .ok (.if_icmp .ge 18, 3) := by decide +kernel
theorem dX9_behind_33 : decode cX9_behind 33 = .ok (.aload_n 0, 1) := by decide +kernel
theorem dX9_behind_34 : decode cX9_behind 34 = .ok (.getfield 16, 3) := by decide +kernel
theorem dX9_behind_37 : decode cX9_behind 37 = .ok (.invokestatic 189, 3) := by decide +kernel
theorem dX9_behind_40 : decode cX9_behind 40 = .ok (.istore 4, 2) := by decide +kernel
theorem dX9_behind_42 : decode cX9_behind 42 = .ok (.iinc 3 1, 3) := by decide +kernel
theorem dX9_behind_45 : decode cX9_behind 45 = .ok (.goto (-17), 3) := by decide +kernel
theorem dX9_behind_48 : decode cX9_behind 48 = .ok (.aload_n 0, 1) := by decide +kernel
theorem dX9_behind_49 : decode cX9_behind 49 = .ok (.getfield 16, 3) := by decide +kernel
theorem dX9_behind_52 : decode cX9_behind 52 = .ok (.iload_n 1, 1) := by decide +kernel
theorem dX9_behind_53 : decode cX9_behind 53 = .ok (.invokestatic 149, 3) := by decide +kernel
theorem dX9_behind_56 : decode cX9_behind 56 = .ok (.ireturn, 1) := by decide +kernel
def X9_behind_L28 (x2 : Int32) : Nat → Int32 → Rec → Option (Rec)
  | 0, _, _ => none
  | n28 + 1, v6, Z7 => if x2 ≤ v6 then
      some Z7
    else
      (X9_goOn (Z7.2.1 2)).bind fun v10 =>
      aLet (v6 + (1 : Int32)) fun v12 =>
      X9_behind_L28 x2 n28 v12 (sA Z7 2 v10.2)
def X9_behind (S0 : Rec) (x1 : Int32) (x2 : Int32) : Option (Int32 × Rec) :=
  (X9_isHolder S0 x1).bind fun v1 =>
  if v1 = 0 then
    some ((-1 : Int32), S0)
  else
    if (X9_in (x2.toInt64) (0 : Int64) (60 : Int64)) = 0 then
      some ((-1 : Int32), S0)
    else
      (X9_layThen S0).bind fun v4 =>
      (X9_behind_L28 x2 aFu (0 : Int32) v4).bind fun e13 =>
      (X9_says (e13.2.1 2) x1).bind fun v15 =>
      some (v15, e13)
set_option maxRecDepth 100000 in
set_option maxHeartbeats 4000000 in
theorem X9_behind_ok (l : Launch) {h : aH} {nx : Nat} {a0 : Nat} {S0 : Rec} {x1 : Int32} {x2 : Int32} (hB0 : X9_at h a0 S0) {r : Int32 × Rec} (hF : X9_behind S0 x1 x2 = some r) : aOk l 4 0 0 yX9_behind cX9_behind 5 (some .int) [.ref a0, .int x1, .int x2] h nx (aMt (some (.int r.1)) nx (fun h1 => X9_at h1 a0 r.2 ∧ (∀ q, (q < a0 ∨ a0 + 20 ≤ q) → h1 q = h q))) := by
  refine aOk.of (by decide +kernel) (Nat.le_of_ble_eq_true rfl) (fun X G hX C R0 _ => ?_)
  subst hX
  show aV X G 5 0 [(0, .ref a0), (1, .int x1), (2, .int x2)] [] h nx 0 0
  have hFr : ∀ q, (q < a0 ∨ a0 + 20 ≤ q) → h q = h q := fun _ _ => rfl
  rw [X9_behind] at hF
  refine ab_aload_n C 0 rfl rfl dX9_behind_0 ?_
  refine ab_iload_n C 1 rfl rfl dX9_behind_1 ?_
  obtain ⟨v1, hxv1, hF⟩ := Option.bind_eq_some_iff.mp hF
  refine ab_cVR (v := .int v1) (st := []) C lm_X9_153 (X9_isHolder_ok (xl X) hB0 (r := v1) hxv1) [.int x1] rfl hB0.1 rfl rfl rfl (by decide) ⟨Nat.zero_le _, Nat.zero_le _⟩ (Nat.le_of_ble_eq_true rfl) dX9_behind_2 ?_
  refine ab_if_eq C 20 dX9_behind_5 (by decide) (fun c2 => ?_) (fun c2 => ?_)
  · replace hF := (if_pos c2).symm.trans hF
    refine ab_iconst (v := (-1 : Int32)) C dX9_behind_20 (by decide) ?_
    obtain rfl := Option.some.inj hF
    exact ab_iret C R0 rfl dX9_behind_21 ⟨rfl, rfl, hB0, hFr⟩
  · replace hF := (if_neg c2).symm.trans hF
    refine ab_iload_n C 2 rfl rfl dX9_behind_8 ?_
    refine ab_i2l C dX9_behind_9 ?_
    refine ab_lconst (v := (0 : Int64)) C dX9_behind_10 (by decide) ?_
    refine ab_ldc2 (v := (60 : Int64)) C dX9_behind_11 lq_X9_193 ?_
    refine ab_cSR (v := .int (X9_in (x2.toInt64) (0 : Int64) (60 : Int64))) (st := []) C lm_X9_69 (X9_in_ok (xl X) (r := (X9_in (x2.toInt64) (0 : Int64) (60 : Int64))) rfl) rfl rfl (by decide) ⟨Nat.zero_le _, Nat.zero_le _⟩ (Nat.le_of_ble_eq_true rfl) dX9_behind_14 ?_
    refine ab_if_ne C 22 dX9_behind_17 (by decide) (fun c3 => ?_) (fun c3 => ?_)
    · replace hF := (if_neg c3).symm.trans hF
      refine ab_aload_n C 0 rfl rfl dX9_behind_22 ?_
      obtain ⟨v4, hxv4, hF⟩ := Option.bind_eq_some_iff.mp hF
      refine ab_cVN (st := []) C lm_X9_195 (X9_layThen_ok (xl X) hB0 (r := v4) hxv4) [] rfl hB0.1 rfl rfl rfl (by decide) ⟨Nat.zero_le _, Nat.zero_le _⟩ (Nat.le_of_ble_eq_true rfl) dX9_behind_23 (fun g5 pg5 => ?_)
      obtain ⟨k0, Og5⟩ := pg5
      have hB0 : X9_at g5 a0 v4 := k0
      have hFr : ∀ q, (q < a0 ∨ a0 + 20 ≤ q) → g5 q = h q := fun q u0 => (Og5 q (by omega)).trans (hFr q u0)
      refine ab_iconst (v := (0 : Int32)) C dX9_behind_26 (by decide) ?_
      refine ab_istore_n (lv' := [(3, .int (0 : Int32)), (0, .ref a0), (1, .int x1), (2, .int x2)]) C dX9_behind_27 rfl (by decide) rfl ?_
      have L28 : ∀ (n28 : Nat) (v6 : Int32) (Z7 : Rec) (g8 : aH), (X9_at g8 a0 Z7) → (∀ q, (q < a0 ∨ a0 + 20 ≤ q) → g8 q = h q) → ∀ (res28 : Rec), X9_behind_L28 x2 n28 v6 Z7 = some res28 → (∀ (q9 : aH), (X9_at q9 a0 res28) → (∀ q, (q < a0 ∨ a0 + 20 ≤ q) → q9 q = h q) → aV X G 5 48 [(0, .ref a0), (1, .int x1)] [] q9 nx 0 0) → aV X G 5 28 [(0, .ref a0), (1, .int x1), (2, .int x2), (3, .int v6)] [] g8 nx 0 0 := by
        intro n28
        induction n28 with
        | zero => intro v6 Z7 g8 hB0 hFr res28 hF KX28; cases (show (none : Option (Rec)) = some res28 from hF)
        | succ n28 ih28 =>
          intro v6 Z7 g8 hB0 hFr res28 hF KX28
          rw [X9_behind_L28] at hF
          refine ab_iload_n C 3 rfl rfl dX9_behind_28 ?_
          refine ab_iload_n C 2 rfl rfl dX9_behind_29 ?_
          refine ab_icmp_ge C 48 dX9_behind_30 (by decide) (fun c9 => ?_) (fun c9 => ?_)
          · replace hF := (if_pos c9).symm.trans hF
            obtain rfl := Option.some.inj hF
            refine aV.sub (lv' := [(0, .ref a0), (1, .int x1)]) [0, 1] rfl ?_
            exact KX28 g8 hB0 hFr
          · replace hF := (if_neg c9).symm.trans hF
            refine ab_aload_n C 0 rfl rfl dX9_behind_33 ?_
            refine ab_g9 (v := .ref (a0 + 3)) C lf_X9_16 hB0.1 rfl dX9_behind_34 ?_
            obtain ⟨v10, hxv10, hF⟩ := Option.bind_eq_some_iff.mp hF
            refine ab_cSM (v := .int v10.1) (st := []) C lm_X9_189 (X9_goOn_ok (xl X) (X9_r2 hB0) (r := v10) hxv10) rfl rfl (by decide) ⟨Nat.zero_le _, Nat.zero_le _⟩ (Nat.le_of_ble_eq_true rfl) dX9_behind_37 (fun g11 pg11 => ?_)
            obtain ⟨k0, Og11⟩ := pg11
            have hB0 : X9_at g11 a0 (sA Z7 2 v10.2) := X9_w2 hB0 k0 (fun q i1 => Og11 q (by omega))
            have hFr : ∀ q, (q < a0 ∨ a0 + 20 ≤ q) → g11 q = h q := fun q u0 => (Og11 q (by omega)).trans (hFr q u0)
            refine ab_istore (lv' := [(4, .int v10.1), (0, .ref a0), (1, .int x1), (2, .int x2), (3, .int v6)]) C dX9_behind_40 (by decide) rfl ?_
            obtain ⟨v12, qv12⟩ : ∃ y : Int32, y = (v6 + (1 : Int32)) := ⟨_, rfl⟩
            replace hF := aLet_e hF v12 qv12
            refine ab_iinc (lv' := [(3, .int v12), (4, .int v10.1), (0, .ref a0), (1, .int x1), (2, .int x2)]) C 4 rfl dX9_behind_42 (by rw [qv12]; rfl) (by decide) rfl ?_
            refine ab_goto C 28 dX9_behind_45 (by decide) ?_
            refine aV.sub (lv' := [(0, .ref a0), (1, .int x1), (2, .int x2), (3, .int v12)]) [2, 3, 4, 0] rfl ?_
            exact ih28 v12 (sA Z7 2 v10.2) g11 hB0 hFr res28 hF KX28
      refine aV.sub (lv' := [(0, .ref a0), (1, .int x1), (2, .int x2), (3, .int (0 : Int32))]) [1, 2, 3, 0] rfl ?_
      obtain ⟨e13, he13, hF⟩ := Option.bind_eq_some_iff.mp hF
      refine L28 aFu (0 : Int32) v4 g5 hB0 hFr e13 he13 (fun g14 hB0 hFr => ?_)
      refine ab_aload_n C 0 rfl rfl dX9_behind_48 ?_
      refine ab_g9 (v := .ref (a0 + 3)) C lf_X9_16 hB0.1 rfl dX9_behind_49 ?_
      refine ab_iload_n C 1 rfl rfl dX9_behind_52 ?_
      obtain ⟨v15, hxv15, hF⟩ := Option.bind_eq_some_iff.mp hF
      refine ab_cSR (v := .int v15) (st := []) C lm_X9_149 (X9_says_ok (xl X) (X9_r2 hB0) (r := v15) hxv15) rfl rfl (by decide) ⟨Nat.zero_le _, Nat.zero_le _⟩ (Nat.le_of_ble_eq_true rfl) dX9_behind_53 ?_
      obtain rfl := Option.some.inj hF
      exact ab_iret C R0 rfl dX9_behind_56 ⟨rfl, rfl, hB0, hFr⟩
    · replace hF := (if_pos c3).symm.trans hF
      refine ab_iconst (v := (-1 : Int32)) C dX9_behind_20 (by decide) ?_
      obtain rfl := Option.some.inj hF
      exact ab_iret C R0 rfl dX9_behind_21 ⟨rfl, rfl, hB0, hFr⟩
