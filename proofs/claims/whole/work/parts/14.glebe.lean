/-! printed by a program from the bytecode: what each method answers, as numbers, and that it answers so -/
theorem dX8_within_0 : decode cX8_within 0 = .ok (.iload_n 0, 1) := by decide +kernel
theorem dX8_within_1 : decode cX8_within 1 = .ok (.iload_n 1, 1) := by decide +kernel
theorem dX8_within_2 : decode cX8_within 2 = .ok (.if_icmp .lt 12, 3) := by decide +kernel
theorem dX8_within_5 : decode cX8_within 5 = .ok (.iload_n 0, 1) := by decide +kernel
theorem dX8_within_6 : decode cX8_within 6 = .ok (.iload_n 2, 1) := by decide +kernel
theorem dX8_within_7 : decode cX8_within 7 = .ok (.if_icmp .gt 7, 3) := by decide +kernel
theorem dX8_within_10 : decode cX8_within 10 = .ok (.iconst 1, 1) := by decide +kernel
theorem dX8_within_11 : decode cX8_within 11 = .ok (.goto 4, 3) := by decide +kernel
theorem dX8_within_14 : decode cX8_within 14 = .ok (.iconst 0, 1) := by decide +kernel
theorem dX8_within_15 : decode cX8_within 15 = .ok (.ireturn, 1) := by decide +kernel
def X8_within (x0 : Int32) (x1 : Int32) (x2 : Int32) : Int32 :=
  if x0 < x1 then
    (0 : Int32)
  else
    if x2 < x0 then
      (0 : Int32)
    else
      (1 : Int32)
set_option maxRecDepth 100000 in
set_option maxHeartbeats 4000000 in
theorem X8_within_ok (l : Launch) {h : aH} {nx : Nat} {x0 : Int32} {x1 : Int32} {x2 : Int32} {r : Int32} (hF : X8_within x0 x1 x2 = r) : aOk l 0 0 0 yX8_within cX8_within 3 (some .boolean) [.int x0, .int x1, .int x2] h nx (aRd (.int r) h nx) := by
  refine aOk.of (by decide +kernel) (Nat.le_of_ble_eq_true rfl) (fun X G hX C R0 _ => ?_)
  subst hX
  show aV X G 3 0 [(0, .int x0), (1, .int x1), (2, .int x2)] [] h nx 0 0
  rw [X8_within] at hF
  refine ab_iload_n C 0 rfl rfl dX8_within_0 ?_
  refine ab_iload_n C 1 rfl rfl dX8_within_1 ?_
  refine ab_icmp_lt C 14 dX8_within_2 (by decide) (fun c1 => ?_) (fun c1 => ?_)
  · replace hF := (if_pos c1).symm.trans hF
    refine ab_iconst (v := (0 : Int32)) C dX8_within_14 (by decide) ?_
    obtain rfl := hF
    exact ab_iret C R0 rfl dX8_within_15 ⟨rfl, rfl, rfl⟩
  · replace hF := (if_neg c1).symm.trans hF
    refine ab_iload_n C 0 rfl rfl dX8_within_5 ?_
    refine ab_iload_n C 2 rfl rfl dX8_within_6 ?_
    refine ab_icmp_gt C 14 dX8_within_7 (by decide) (fun c2 => ?_) (fun c2 => ?_)
    · replace hF := (if_pos c2).symm.trans hF
      refine ab_iconst (v := (0 : Int32)) C dX8_within_14 (by decide) ?_
      obtain rfl := hF
      exact ab_iret C R0 rfl dX8_within_15 ⟨rfl, rfl, rfl⟩
    · replace hF := (if_neg c2).symm.trans hF
      refine ab_iconst (v := (1 : Int32)) C dX8_within_10 (by decide) ?_
      refine ab_goto C 15 dX8_within_11 (by decide) ?_
      obtain rfl := hF
      exact ab_iret C R0 rfl dX8_within_15 ⟨rfl, rfl, rfl⟩
theorem X8_within_n {x0 : Int32} {x1 : Int32} {x2 : Int32} : narrow .boolean (.int (X8_within x0 x1 x2)) = .int (X8_within x0 x1 x2) := by
  unfold X8_within
  repeat' split
  all_goals first | rfl | exact X9_in_n
theorem dX8_feed_0 : decode cX8_feed 0 = .ok (.iload_n 1, 1) := by decide +kernel
theorem dX8_feed_1 : decode cX8_feed 1 = .ok (.iconst 0, 1) := by decide +kernel
theorem dX8_feed_2 : decode cX8_feed 2 = .ok (.sipush 255, 3) := by decide +kernel
theorem dX8_feed_5 : decode cX8_feed 5 = .ok (.invokestatic 74, 3) := by decide +kernel
theorem dX8_feed_8 : decode cX8_feed 8 = .ok (.ifCond .ne 5, 3) := by decide +kernel
theorem dX8_feed_11 : decode cX8_feed 11 = .ok (.iconst (-1), 1) := by decide +kernel
theorem dX8_feed_12 : decode cX8_feed 12 = .ok (.ireturn, 1) := by decide +kernel
theorem dX8_feed_13 : decode cX8_feed 13 = .ok (.aload_n 0, 1) := by decide +kernel
theorem dX8_feed_14 : decode cX8_feed 14 = .ok (.getfield 10, 3) := by decide +kernel
theorem dX8_feed_17 : decode cX8_feed 17 = .ok (.iload_n 1, 1) := by decide +kernel
theorem dX8_feed_18 : decode cX8_feed 18 = .ok (.invokevirtual 78, 3) := by decide +kernel
theorem dX8_feed_21 : decode cX8_feed 21 = .ok (.ifCond .eq 13, 3) := by decide +kernel
theorem dX8_feed_24 : decode cX8_feed 24 = .ok (.aload_n 0, 1) := by decide +kernel
theorem dX8_feed_25 : decode cX8_feed 25 = .ok (.getfield 10, 3) := by decide +kernel
theorem dX8_feed_28 : decode cX8_feed 28 = .ok (.invokevirtual 82, 3) := by decide +kernel
theorem dX8_feed_31 : decode cX8_feed 31 = .ok (.goto 5, 3) := by decide +kernel
theorem dX8_feed_34 : decode cX8_feed 34 = .ok (.bipush (-3), 2) := by decide +kernel
theorem dX8_feed_36 : decode cX8_feed 36 = .ok (.ireturn, 1) := by decide +kernel
def X8_feed (S_tape : Rec) (x1 : Int32) : Option (Int32 × Rec) :=
  if (X8_within x1 (0 : Int32) (255 : Int32)) = 0 then
    some ((-1 : Int32), S_tape)
  else
    (X7_append S_tape x1).bind fun v2 =>
    if v2.1 = 0 then
      some ((-3 : Int32), v2.2)
    else
      some ((X7_size v2.2), v2.2)
set_option maxRecDepth 100000 in
set_option maxHeartbeats 4000000 in
theorem X8_feed_ok (l : Launch) {h : aH} {nx : Nat} {S_tape : Rec} {x1 : Int32} (hBxo : X8_at h) (hBtape : X7_at h 5 S_tape) {r : Int32 × Rec} (hF : X8_feed S_tape x1 = some r) : aOk l 1 0 0 yX8_feed cX8_feed 2 (some .int) [.ref 4, .int x1] h nx (aMt (some (.int r.1)) nx (fun h1 => X7_at h1 5 r.2 ∧ (∀ q, (q < 5 ∨ 5 + 2 ≤ q) → h1 q = h q))) := by
  refine aOk.of (by decide +kernel) (Nat.le_of_ble_eq_true rfl) (fun X G hX C R0 _ => ?_)
  subst hX
  show aV X G 2 0 [(0, .ref 4), (1, .int x1)] [] h nx 0 0
  have hFr : ∀ q, (q < 5 ∨ 5 + 2 ≤ q) → h q = h q := fun _ _ => rfl
  rw [X8_feed] at hF
  refine ab_iload_n C 1 rfl rfl dX8_feed_0 ?_
  refine ab_iconst (v := (0 : Int32)) C dX8_feed_1 (by decide) ?_
  refine ab_sipush (v := (255 : Int32)) C dX8_feed_2 (by decide) ?_
  refine ab_cSR (v := .int (X8_within x1 (0 : Int32) (255 : Int32))) (st := []) C lm_X8_74 (X8_within_ok (xl X) (r := (X8_within x1 (0 : Int32) (255 : Int32))) rfl) rfl rfl (by decide) ⟨Nat.zero_le _, Nat.zero_le _⟩ (Nat.le_of_ble_eq_true rfl) dX8_feed_5 ?_
  refine ab_if_ne C 13 dX8_feed_8 (by decide) (fun c1 => ?_) (fun c1 => ?_)
  · replace hF := (if_neg c1).symm.trans hF
    refine ab_aload_n C 0 rfl rfl dX8_feed_13 ?_
    refine ab_g8 (v := .ref 5) C lf_X8_10 hBxo rfl dX8_feed_14 ?_
    refine ab_iload_n C 1 rfl rfl dX8_feed_17 ?_
    obtain ⟨v2, hxv2, hF⟩ := Option.bind_eq_some_iff.mp hF
    refine ab_cVM (v := .int v2.1) (st := []) C lm_X8_78 (X7_append_ok (xl X) hBtape (r := v2) hxv2) [.int x1] rfl hBtape.1 rfl rfl rfl (by decide) ⟨Nat.zero_le _, Nat.zero_le _⟩ (Nat.le_of_ble_eq_true rfl) dX8_feed_18 (fun g3 pg3 => ?_)
    obtain ⟨k0, Og3⟩ := pg3
    have hBtape : X7_at g3 5 v2.2 := k0
    have hBxo : X8_at g3 := (Og3 4 (by omega)).trans hBxo
    have hFr : ∀ q, (q < 5 ∨ 5 + 2 ≤ q) → g3 q = h q := fun q u0 => (Og3 q (by omega)).trans (hFr q u0)
    refine ab_if_eq C 34 dX8_feed_21 (by decide) (fun c4 => ?_) (fun c4 => ?_)
    · replace hF := (if_pos c4).symm.trans hF
      refine ab_bipush (v := (-3 : Int32)) C dX8_feed_34 (by decide) ?_
      obtain rfl := Option.some.inj hF
      exact ab_iret C R0 rfl dX8_feed_36 ⟨rfl, rfl, hBtape, hFr⟩
    · replace hF := (if_neg c4).symm.trans hF
      refine ab_aload_n C 0 rfl rfl dX8_feed_24 ?_
      refine ab_g8 (v := .ref 5) C lf_X8_10 hBxo rfl dX8_feed_25 ?_
      refine ab_cVR (v := .int (X7_size v2.2)) (st := []) C lm_X8_82 (X7_size_ok (xl X) hBtape (r := (X7_size v2.2)) rfl) [] rfl hBtape.1 rfl rfl rfl (by decide) ⟨Nat.zero_le _, Nat.zero_le _⟩ (Nat.le_of_ble_eq_true rfl) dX8_feed_28 ?_
      refine ab_goto C 36 dX8_feed_31 (by decide) ?_
      obtain rfl := Option.some.inj hF
      exact ab_iret C R0 rfl dX8_feed_36 ⟨rfl, rfl, hBtape, hFr⟩
  · replace hF := (if_pos c1).symm.trans hF
    refine ab_iconst (v := (-1 : Int32)) C dX8_feed_11 (by decide) ?_
    obtain rfl := Option.some.inj hF
    exact ab_iret C R0 rfl dX8_feed_12 ⟨rfl, rfl, hBtape, hFr⟩
theorem dX8_land_0 : decode cX8_land 0 = .ok (.aload_n 0, 1) := by decide +kernel
theorem dX8_land_1 : decode cX8_land 1 = .ok (.getfield 10, 3) := by decide +kernel
theorem dX8_land_4 : decode cX8_land 4 = .ok (.aload_n 0, 1) := by decide +kernel
theorem dX8_land_5 : decode cX8_land 5 = .ok (.getfield 40, 3) := by decide +kernel
theorem dX8_land_8 : decode cX8_land 8 = .ok (.invokevirtual 86, 3) := by decide +kernel
theorem dX8_land_11 : decode cX8_land 11 = .ok (.istore_n 1, 1) := by decide +kernel
theorem dX8_land_12 : decode cX8_land 12 = .ok (.aload_n 0, 1) := by decide +kernel
theorem dX8_land_13 : decode cX8_land 13 = .ok (.getfield 10, 3) := by decide +kernel
theorem dX8_land_16 : decode cX8_land 16 = .ok (.invokevirtual 90, 3) := by decide +kernel
theorem dX8_land_19 : decode cX8_land 19 = .ok (.istore_n 2, 1) := by decide +kernel
theorem dX8_land_20 : decode cX8_land 20 = .ok (.aload_n 0, 1) := by decide +kernel
theorem dX8_land_21 : decode cX8_land 21 = .ok (.getfield 10, 3) := by decide +kernel
theorem dX8_land_24 : decode cX8_land 24 = .ok (.invokevirtual 93, 3) := by decide +kernel
theorem dX8_land_27 : decode cX8_land 27 = .ok (.iload_n 1, 1) := by decide +kernel
theorem dX8_land_28 : decode cX8_land 28 = .ok (.ifCond .ne 8, 3) := by decide +kernel
theorem dX8_land_31 : decode cX8_land 31 = .ok (.bipush (-100), 2) := by decide +kernel
theorem dX8_land_33 : decode cX8_land 33 = .ok (.iload_n 2, 1) := by decide +kernel
theorem dX8_land_34 : decode cX8_land 34 = .ok (.isub, 1) := by decide +kernel
theorem dX8_land_35 : decode cX8_land 35 = .ok (.ireturn, 1) := by decide +kernel
theorem dX8_land_36 : decode cX8_land 36 = .ok (.aload_n 0, 1) := by decide +kernel
theorem dX8_land_37 : decode cX8_land 37 = .ok (.getfield 19, 3) := by decide +kernel
theorem dX8_land_40 : decode cX8_land 40 = .ok (.aload_n 0, 1) := by decide +kernel
theorem dX8_land_41 : decode cX8_land 41 = .ok (.getfield 40, 3) := by decide +kernel
theorem dX8_land_44 : decode cX8_land 44 = .ok (.invokevirtual 96, 3) := by decide +kernel
theorem dX8_land_47 : decode cX8_land 47 = .ok (.aload_n 0, 1) := by decide +kernel
theorem dX8_land_48 : decode cX8_land 48 = .ok (.getfield 26, 3) := by decide +kernel
theorem dX8_land_51 : decode cX8_land 51 = .ok (.invokevirtual 100, 3) := by decide +kernel
theorem dX8_land_54 : decode cX8_land 54 = .ok (.aload_n 0, 1) := by decide +kernel
theorem dX8_land_55 : decode cX8_land 55 = .ok (.getfield 19, 3) := by decide +kernel
theorem dX8_land_58 : decode cX8_land 58 = .ok (.getfield 103, 3) := by decide +kernel
theorem dX8_land_61 : decode cX8_land 61 = .ok (.ireturn, 1) := by decide +kernel
def X8_land (S_tape : Rec) (S_trial : Rec) (S_now : Rec) (lf_p : (Nat → Option Nat)) (S_past : Rec) : Option (Int32 × Rec × Rec × Rec × Rec) :=
  (X7_readInto S_tape S_trial).bind fun v1 =>
  aLet (X7_fault v1.2.1) fun v3 =>
  if v1.1 = 0 then
    some (((-100 : Int32) - v3), (X7_clear v1.2.1), v1.2.2, S_now, S_past)
  else
    some (((X2_become S_now v1.2.2).1 0), (X7_clear v1.2.1), v1.2.2, (X2_become S_now v1.2.2), (X4_forget lf_p S_past))
set_option maxRecDepth 100000 in
set_option maxHeartbeats 4000000 in
theorem X8_land_ok (l : Launch) {h : aH} {nx : Nat} {S_tape : Rec} {S_trial : Rec} {S_now : Rec} {lf_p : (Nat → Option Nat)} {S_past : Rec} (hBxo : X8_at h) (hBtape : X7_at h 5 S_tape) (hBtrial : X2_at h 19 S_trial) (hBnow : X2_at h 7 S_now) (hBpast : X4_at h 15 lf_p S_past) {r : Int32 × Rec × Rec × Rec × Rec} (hF : X8_land S_tape S_trial S_now lf_p S_past = some r) : aOk l 12 0 0 yX8_land cX8_land 3 (some .int) [.ref 4] h nx (aMt (some (.int r.1)) nx (fun h1 => X7_at h1 5 r.2.1 ∧ X2_at h1 19 r.2.2.1 ∧ X2_at h1 7 r.2.2.2.1 ∧ X4_at h1 15 lf_p r.2.2.2.2 ∧ (∀ q, (q < 5 ∨ 5 + 2 ≤ q) → (q < 19 ∨ 19 + 8 ≤ q) → (q < 7 ∨ 7 + 8 ≤ q) → (q < 15 ∨ 15 + 2 ≤ q) → h1 q = h q))) := by
  refine aOk.of (by decide +kernel) (Nat.le_of_ble_eq_true rfl) (fun X G hX C R0 _ => ?_)
  subst hX
  show aV X G 3 0 [(0, .ref 4)] [] h nx 0 0
  have hFr : ∀ q, (q < 5 ∨ 5 + 2 ≤ q) → (q < 19 ∨ 19 + 8 ≤ q) → (q < 7 ∨ 7 + 8 ≤ q) → (q < 15 ∨ 15 + 2 ≤ q) → h q = h q := fun _ _ _ _ _ => rfl
  rw [X8_land] at hF
  refine ab_aload_n C 0 rfl rfl dX8_land_0 ?_
  refine ab_g8 (v := .ref 5) C lf_X8_10 hBxo rfl dX8_land_1 ?_
  refine ab_aload_n C 0 rfl rfl dX8_land_4 ?_
  refine ab_g8 (v := .ref 19) C lf_X8_40 hBxo rfl dX8_land_5 ?_
  obtain ⟨v1, hxv1, hF⟩ := Option.bind_eq_some_iff.mp hF
  refine ab_cVM (v := .int v1.1) (st := []) C lm_X8_86 (X7_readInto_ok (xl X) hBtape hBtrial (by omega) (r := v1) hxv1) [.ref 19] rfl hBtape.1 rfl rfl rfl (by decide) ⟨Nat.zero_le _, Nat.zero_le _⟩ (Nat.le_of_ble_eq_true rfl) dX8_land_8 (fun g2 pg2 => ?_)
  obtain ⟨k0, k1, Og2⟩ := pg2
  have hBtape : X7_at g2 5 v1.2.1 := k0
  have hBtrial : X2_at g2 19 v1.2.2 := k1
  have hBxo : X8_at g2 := (Og2 4 (by omega) (by omega)).trans hBxo
  have hBnow : X2_at g2 7 S_now := X2_off hBnow (fun q i1 i2 => Og2 q (by omega) (by omega))
  have hBpast : X4_at g2 15 lf_p S_past := X4_off hBpast (fun q i1 i2 => Og2 q (by omega) (by omega))
  have hFr : ∀ q, (q < 5 ∨ 5 + 2 ≤ q) → (q < 19 ∨ 19 + 8 ≤ q) → (q < 7 ∨ 7 + 8 ≤ q) → (q < 15 ∨ 15 + 2 ≤ q) → g2 q = h q := fun q u0 u1 u2 u3 => (Og2 q (by omega) (by omega)).trans (hFr q u0 u1 u2 u3)
  refine ab_istore_n (lv' := [(1, .int v1.1), (0, .ref 4)]) C dX8_land_11 rfl (by decide) rfl ?_
  refine ab_aload_n C 1 rfl rfl dX8_land_12 ?_
  refine ab_g8 (v := .ref 5) C lf_X8_10 hBxo rfl dX8_land_13 ?_
  refine ab_cVR (v := .int (X7_fault v1.2.1)) (st := []) C lm_X8_90 (X7_fault_ok (xl X) hBtape (r := (X7_fault v1.2.1)) rfl) [] rfl hBtape.1 rfl rfl rfl (by decide) ⟨Nat.zero_le _, Nat.zero_le _⟩ (Nat.le_of_ble_eq_true rfl) dX8_land_16 ?_
  refine ab_topi (fun v3 qv3 => ?_)
  replace hF := aLet_e hF v3 qv3
  refine ab_istore_n (lv' := [(2, .int v3), (1, .int v1.1), (0, .ref 4)]) C dX8_land_19 rfl (by decide) rfl ?_
  refine ab_aload_n C 2 rfl rfl dX8_land_20 ?_
  refine ab_g8 (v := .ref 5) C lf_X8_10 hBxo rfl dX8_land_21 ?_
  refine ab_cVN (st := []) C lm_X8_93 (X7_clear_ok (xl X) hBtape (r := (X7_clear v1.2.1)) rfl) [] rfl hBtape.1 rfl rfl rfl (by decide) ⟨Nat.zero_le _, Nat.zero_le _⟩ (Nat.le_of_ble_eq_true rfl) dX8_land_24 (fun g4 pg4 => ?_)
  obtain ⟨k0, Og4⟩ := pg4
  have hBtape : X7_at g4 5 (X7_clear v1.2.1) := k0
  have hBxo : X8_at g4 := (Og4 4 (by omega)).trans hBxo
  have hBtrial : X2_at g4 19 v1.2.2 := X2_off hBtrial (fun q i1 i2 => Og4 q (by omega))
  have hBnow : X2_at g4 7 S_now := X2_off hBnow (fun q i1 i2 => Og4 q (by omega))
  have hBpast : X4_at g4 15 lf_p S_past := X4_off hBpast (fun q i1 i2 => Og4 q (by omega))
  have hFr : ∀ q, (q < 5 ∨ 5 + 2 ≤ q) → (q < 19 ∨ 19 + 8 ≤ q) → (q < 7 ∨ 7 + 8 ≤ q) → (q < 15 ∨ 15 + 2 ≤ q) → g4 q = h q := fun q u0 u1 u2 u3 => (Og4 q (by omega)).trans (hFr q u0 u1 u2 u3)
  refine ab_iload_n C 1 rfl rfl dX8_land_27 ?_
  refine ab_if_ne C 36 dX8_land_28 (by decide) (fun c5 => ?_) (fun c5 => ?_)
  · replace hF := (if_neg c5).symm.trans hF
    refine ab_aload_n C 2 rfl rfl dX8_land_36 ?_
    refine ab_g8 (v := .ref 7) C lf_X8_19 hBxo rfl dX8_land_37 ?_
    refine ab_aload_n C 2 rfl rfl dX8_land_40 ?_
    refine ab_g8 (v := .ref 19) C lf_X8_40 hBxo rfl dX8_land_41 ?_
    refine ab_cVN (st := []) C lm_X8_96 (X2_become_ok (xl X) hBnow hBtrial (by omega) (r := (X2_become S_now v1.2.2)) rfl) [.ref 19] rfl hBnow.1 rfl rfl rfl (by decide) ⟨Nat.zero_le _, Nat.zero_le _⟩ (Nat.le_of_ble_eq_true rfl) dX8_land_44 (fun g6 pg6 => ?_)
    obtain ⟨k0, Og6⟩ := pg6
    have hBnow : X2_at g6 7 (X2_become S_now v1.2.2) := k0
    have hBxo : X8_at g6 := (Og6 4 (by omega)).trans hBxo
    have hBtape : X7_at g6 5 (X7_clear v1.2.1) := X7_off hBtape (fun q i1 i2 => Og6 q (by omega))
    have hBtrial : X2_at g6 19 v1.2.2 := X2_off hBtrial (fun q i1 i2 => Og6 q (by omega))
    have hBpast : X4_at g6 15 lf_p S_past := X4_off hBpast (fun q i1 i2 => Og6 q (by omega))
    have hFr : ∀ q, (q < 5 ∨ 5 + 2 ≤ q) → (q < 19 ∨ 19 + 8 ≤ q) → (q < 7 ∨ 7 + 8 ≤ q) → (q < 15 ∨ 15 + 2 ≤ q) → g6 q = h q := fun q u0 u1 u2 u3 => (Og6 q (by omega)).trans (hFr q u0 u1 u2 u3)
    refine ab_aload_n C 2 rfl rfl dX8_land_47 ?_
    refine ab_g8 (v := .ref 15) C lf_X8_26 hBxo rfl dX8_land_48 ?_
    refine ab_cVN (st := []) C lm_X8_100 (X4_forget_ok (xl X) hBpast (r := (X4_forget lf_p S_past)) rfl) [] rfl hBpast.1 rfl rfl rfl (by decide) ⟨Nat.zero_le _, Nat.zero_le _⟩ (Nat.le_of_ble_eq_true rfl) dX8_land_51 (fun g7 pg7 => ?_)
    obtain ⟨k0, Og7⟩ := pg7
    have hBpast : X4_at g7 15 lf_p (X4_forget lf_p S_past) := k0
    have hBxo : X8_at g7 := (Og7 4 (by omega)).trans hBxo
    have hBtape : X7_at g7 5 (X7_clear v1.2.1) := X7_off hBtape (fun q i1 i2 => Og7 q (by omega))
    have hBtrial : X2_at g7 19 v1.2.2 := X2_off hBtrial (fun q i1 i2 => Og7 q (by omega))
    have hBnow : X2_at g7 7 (X2_become S_now v1.2.2) := X2_off hBnow (fun q i1 i2 => Og7 q (by omega))
    have hFr : ∀ q, (q < 5 ∨ 5 + 2 ≤ q) → (q < 19 ∨ 19 + 8 ≤ q) → (q < 7 ∨ 7 + 8 ≤ q) → (q < 15 ∨ 15 + 2 ≤ q) → g7 q = h q := fun q u0 u1 u2 u3 => (Og7 q (by omega)).trans (hFr q u0 u1 u2 u3)
    refine ab_aload_n C 2 rfl rfl dX8_land_54 ?_
    refine ab_g8 (v := .ref 7) C lf_X8_19 hBxo rfl dX8_land_55 ?_
    refine ab_g2 (v := .int ((X2_become S_now v1.2.2).1 0)) C lf_X8_103 hBnow.1 rfl dX8_land_58 ?_
    obtain rfl := Option.some.inj hF
    exact ab_iret C R0 rfl dX8_land_61 ⟨rfl, rfl, hBtape, hBtrial, hBnow, hBpast, hFr⟩
  · replace hF := (if_pos c5).symm.trans hF
    refine ab_bipush (v := (-100 : Int32)) C dX8_land_31 (by decide) ?_
    refine ab_iload_n C 0 rfl rfl dX8_land_33 ?_
    refine ab_isub C dX8_land_34 ?_
    obtain rfl := Option.some.inj hF
    exact ab_iret C R0 rfl dX8_land_35 ⟨rfl, rfl, hBtape, hBtrial, hBnow, hBpast, hFr⟩
theorem dX8_priceOf_0 : decode cX8_priceOf 0 = .ok (.iconst 0, 1) := by decide +kernel
theorem dX8_priceOf_1 : decode cX8_priceOf 1 = .ok (.istore_n 2, 1) := by decide +kernel
theorem dX8_priceOf_2 : decode cX8_priceOf 2 = .ok (.lload_n 0, 1) := by decide +kernel
theorem dX8_priceOf_3 : decode cX8_priceOf 3 = .ok (.lstore_n 3, 1) := by decide +kernel
theorem dX8_priceOf_4 : decode cX8_priceOf 4 = .ok (.lload_n 0, 1) := by decide +kernel
theorem dX8_priceOf_5 : decode cX8_priceOf 5 = .ok (.invokestatic 118, 3) := by decide +kernel
theorem dX8_priceOf_8 : decode cX8_priceOf 8 = .ok (.istore 5, 2) := by decide +kernel
theorem dX8_priceOf_10 : decode cX8_priceOf 10 = .ok (.iload 5, 2) := by decide +kernel
theorem dX8_priceOf_12 : decode cX8_priceOf 12 = .ok (.ifCond .le 37, 3) := by decide +kernel
theorem dX8_priceOf_15 : decode cX8_priceOf 15 = .ok (.lload_n 3, 1) := by decide +kernel
theorem dX8_priceOf_16 : decode cX8_priceOf 16 = .ok (.invokestatic 363, 3) := by decide +kernel
theorem dX8_priceOf_19 : decode cX8_priceOf 19 = .ok (.istore 6, 2) := by decide +kernel
theorem dX8_priceOf_21 : decode cX8_priceOf 21 = .ok (.iload_n 2, 1) := by decide +kernel
theorem dX8_priceOf_22 : decode cX8_priceOf 22 = .ok (.iload 6, 2) := by decide +kernel
theorem dX8_priceOf_24 : decode cX8_priceOf 24 = .ok (.bipush 8, 2) := by decide +kernel
theorem dX8_priceOf_26 : decode cX8_priceOf 26 = .ok (.idiv, 1) := by decide +kernel
theorem dX8_priceOf_27 : decode cX8_priceOf 27 = .ok (.iload 6, 2) := by decide +kernel
theorem dX8_priceOf_29 : decode cX8_priceOf 29 = .ok (.bipush 8, 2) := by decide +kernel
theorem dX8_priceOf_31 : decode cX8_priceOf 31 = .ok (.irem, 1) := by decide +kernel
theorem dX8_priceOf_32 : decode cX8_priceOf 32 = .ok (.iadd, 1) := by decide +kernel
theorem dX8_priceOf_33 : decode cX8_priceOf 33 = .ok (.iconst 1, 1) := by decide +kernel
theorem dX8_priceOf_34 : decode cX8_priceOf 34 = .ok (.iadd, 1) := by decide +kernel
theorem dX8_priceOf_35 : decode cX8_priceOf 35 = .ok (.iadd, 1) := by decide +kernel
theorem dX8_priceOf_36 : decode cX8_priceOf 36 = .ok (.istore_n 2, 1) := by decide +kernel
theorem dX8_priceOf_37 : decode cX8_priceOf 37 = .ok (.lload_n 3, 1) := by decide +kernel
theorem dX8_priceOf_38 : decode cX8_priceOf 38 = .ok (.lload_n 3, 1) := by decide +kernel
theorem dX8_priceOf_39 : decode cX8_priceOf 39 = .ok (.lconst 1, 1) := by decide +kernel
theorem dX8_priceOf_40 : decode cX8_priceOf 40 = .ok (.lsub, 1) := by decide +kernel
theorem dX8_priceOf_41 : decode cX8_priceOf 41 = .ok (.land, 1) := by decide +kernel
theorem dX8_priceOf_42 : decode cX8_priceOf 42 = .ok (.lstore_n 3, 1) := by decide +kernel
theorem dX8_priceOf_43 : decode cX8_priceOf 43 = .ok (.iinc 5 (-1), 3) := by decide +kernel
theorem dX8_priceOf_46 : decode cX8_priceOf 46 = .ok (.goto (-36), 3) := by decide +kernel
theorem dX8_priceOf_49 : decode cX8_priceOf 49 = .ok (.iload_n 2, 1) := by decide +kernel
theorem dX8_priceOf_50 : decode cX8_priceOf 50 = .ok (.ireturn, 1) := by decide +kernel
def X8_priceOf_L10 : Nat → Int32 → Int64 → Int32 → Option (Int32)
  | 0, _, _, _ => none
  | n10 + 1, v2, v3, v4 => if v4 ≤ 0 then
      some v2
    else
      aLet (X8_leastCell v3) fun v6 =>
      aLet (v2 + (((v6 / (8 : Int32)) + (v6 - v6 / (8 : Int32) * (8 : Int32))) + (1 : Int32))) fun v7 =>
      aLet (v3 &&& (v3 - (1 : Int64))) fun v8 =>
      aLet (v4 + (-1 : Int32)) fun v9 =>
      X8_priceOf_L10 n10 v7 v8 v9
def X8_priceOf (y0 : Int64) : Option (Int32) :=
  aLet (J13_bitCount_95d88 y0) fun v1 =>
  (X8_priceOf_L10 aFu (0 : Int32) y0 v1).bind fun e10 =>
  some e10
set_option maxRecDepth 100000 in
set_option maxHeartbeats 4000000 in
theorem X8_priceOf_ok (l : Launch) {h : aH} {nx : Nat} {y0 : Int64} {r : Int32} (hF : X8_priceOf y0 = some r) : aOk l 2 0 0 yX8_priceOf cX8_priceOf 7 (some .int) [.long y0] h nx (aRd (.int r) h nx) := by
  refine aOk.of (by decide +kernel) (Nat.le_of_ble_eq_true rfl) (fun X G hX C R0 _ => ?_)
  subst hX
  show aV X G 7 0 [(0, .long y0)] [] h nx 0 0
  rw [X8_priceOf] at hF
  refine ab_iconst (v := (0 : Int32)) C dX8_priceOf_0 (by decide) ?_
  refine ab_istore_n (lv' := [(2, .int (0 : Int32)), (0, .long y0)]) C dX8_priceOf_1 rfl (by decide) rfl ?_
  refine ab_lload_n C 1 rfl rfl dX8_priceOf_2 ?_
  refine ab_lstore_n (lv' := [(3, .long y0), (2, .int (0 : Int32)), (0, .long y0)]) C dX8_priceOf_3 rfl ⟨by decide, by decide⟩ rfl ?_
  refine ab_lload_n C 2 rfl rfl dX8_priceOf_4 ?_
  refine ab_cSR (v := .int (J13_bitCount_95d88 y0)) (st := []) C lm_X8_118 (J13_bitCount_95d88_ok (xl X) (r := (J13_bitCount_95d88 y0)) rfl) rfl rfl (by decide) ⟨Nat.zero_le _, Nat.zero_le _⟩ (Nat.le_of_ble_eq_true rfl) dX8_priceOf_5 ?_
  refine ab_topi (fun v1 qv1 => ?_)
  replace hF := aLet_e hF v1 qv1
  refine ab_istore (lv' := [(5, .int v1), (3, .long y0), (2, .int (0 : Int32)), (0, .long y0)]) C dX8_priceOf_8 (by decide) rfl ?_
  have L10 : ∀ (n10 : Nat) (v2 : Int32) (v3 : Int64) (v4 : Int32), ∀ (res10 : Int32), X8_priceOf_L10 n10 v2 v3 v4 = some res10 → (aV X G 7 49 [(2, .int res10)] [] h nx 0 0) → aV X G 7 10 [(2, .int v2), (3, .long v3), (5, .int v4)] [] h nx 0 0 := by
    intro n10
    induction n10 with
    | zero => intro v2 v3 v4 res10 hF KX10; cases (show (none : Option (Int32)) = some res10 from hF)
    | succ n10 ih10 =>
      intro v2 v3 v4 res10 hF KX10
      rw [X8_priceOf_L10] at hF
      refine ab_iload C 2 rfl dX8_priceOf_10 ?_
      refine ab_if_le C 49 dX8_priceOf_12 (by decide) (fun c5 => ?_) (fun c5 => ?_)
      · replace hF := (if_pos c5).symm.trans hF
        obtain rfl := Option.some.inj hF
        refine aV.sub (lv' := [(2, .int v2)]) [0] rfl ?_
        exact KX10
      · replace hF := (if_neg c5).symm.trans hF
        refine ab_lload_n C 1 rfl rfl dX8_priceOf_15 ?_
        refine ab_cSR (v := .int (X8_leastCell v3)) (st := []) C lm_X8_363 (X8_leastCell_ok (xl X) (r := (X8_leastCell v3)) rfl) rfl rfl (by decide) ⟨Nat.zero_le _, Nat.zero_le _⟩ (Nat.le_of_ble_eq_true rfl) dX8_priceOf_16 ?_
        refine ab_topi (fun v6 qv6 => ?_)
        replace hF := aLet_e hF v6 qv6
        refine ab_istore (lv' := [(6, .int v6), (2, .int v2), (3, .long v3), (5, .int v4)]) C dX8_priceOf_19 (by decide) rfl ?_
        refine ab_iload_n C 1 rfl rfl dX8_priceOf_21 ?_
        refine ab_iload C 0 rfl dX8_priceOf_22 ?_
        refine ab_bipush (v := (8 : Int32)) C dX8_priceOf_24 (by decide) ?_
        refine ab_idiv C (by decide) dX8_priceOf_26 ?_
        refine ab_iload C 0 rfl dX8_priceOf_27 ?_
        refine ab_bipush (v := (8 : Int32)) C dX8_priceOf_29 (by decide) ?_
        refine ab_irem C (by decide) dX8_priceOf_31 ?_
        refine ab_iadd C dX8_priceOf_32 ?_
        refine ab_iconst (v := (1 : Int32)) C dX8_priceOf_33 (by decide) ?_
        refine ab_iadd C dX8_priceOf_34 ?_
        refine ab_iadd C dX8_priceOf_35 ?_
        refine ab_topi (fun v7 qv7 => ?_)
        replace hF := aLet_e hF v7 qv7
        refine ab_istore_n (lv' := [(2, .int v7), (6, .int v6), (3, .long v3), (5, .int v4)]) C dX8_priceOf_36 rfl (by decide) rfl ?_
        refine ab_lload_n C 2 rfl rfl dX8_priceOf_37 ?_
        refine ab_lload_n C 2 rfl rfl dX8_priceOf_38 ?_
        refine ab_lconst (v := (1 : Int64)) C dX8_priceOf_39 (by decide) ?_
        refine ab_lsub C dX8_priceOf_40 ?_
        refine ab_land C dX8_priceOf_41 ?_
        refine ab_topl (fun v8 qv8 => ?_)
        replace hF := aLet_e hF v8 qv8
        refine ab_lstore_n (lv' := [(3, .long v8), (2, .int v7), (6, .int v6), (5, .int v4)]) C dX8_priceOf_42 rfl ⟨by decide, by decide⟩ rfl ?_
        obtain ⟨v9, qv9⟩ : ∃ y : Int32, y = (v4 + (-1 : Int32)) := ⟨_, rfl⟩
        replace hF := aLet_e hF v9 qv9
        refine ab_iinc (lv' := [(5, .int v9), (3, .long v8), (2, .int v7), (6, .int v6)]) C 3 rfl dX8_priceOf_43 (by rw [qv9]; rfl) (by decide) rfl ?_
        refine ab_goto C 10 dX8_priceOf_46 (by decide) ?_
        refine aV.sub (lv' := [(2, .int v7), (3, .long v8), (5, .int v9)]) [2, 1, 0] rfl ?_
        exact ih10 v7 v8 v9 res10 hF KX10
  refine aV.sub (lv' := [(2, .int (0 : Int32)), (3, .long y0), (5, .int v1)]) [2, 1, 0] rfl ?_
  obtain ⟨e10, he10, hF⟩ := Option.bind_eq_some_iff.mp hF
  refine L10 aFu (0 : Int32) y0 v1 e10 he10 ?_
  refine ab_iload_n C 0 rfl rfl dX8_priceOf_49 ?_
  obtain rfl := Option.some.inj hF
  exact ab_iret C R0 rfl dX8_priceOf_50 ⟨rfl, rfl, rfl⟩
theorem dX8_holder_0 : decode cX8_holder 0 = .ok (.aload_n 0, 1) := by decide +kernel
theorem dX8_holder_1 : decode cX8_holder 1 = .ok (.getfield 19, 3) := by decide +kernel
theorem dX8_holder_4 : decode cX8_holder 4 = .ok (.iload_n 1, 1) := by decide +kernel
theorem dX8_holder_5 : decode cX8_holder 5 = .ok (.invokevirtual 107, 3) := by decide +kernel
theorem dX8_holder_8 : decode cX8_holder 8 = .ok (.ifCond .ne 5, 3) := by decide +kernel
theorem dX8_holder_11 : decode cX8_holder 11 = .ok (.iconst (-1), 1) := by decide +kernel
theorem dX8_holder_12 : decode cX8_holder 12 = .ok (.ireturn, 1) := by decide +kernel
theorem dX8_holder_13 : decode cX8_holder 13 = .ok (.iload_n 2, 1) := by decide +kernel
theorem dX8_holder_14 : decode cX8_holder 14 = .ok (.tableswitch 104 0 5 #[38, 48, 61, 74, 83, 95], 38) := by decide +kernel
theorem dX8_holder_52 : decode cX8_holder 52 = .ok (.aload_n 0, 1) := by decide +kernel
theorem dX8_holder_53 : decode cX8_holder 53 = .ok (.getfield 19, 3) := by decide +kernel
theorem dX8_holder_56 : decode cX8_holder 56 = .ok (.getfield 110, 3) := by decide +kernel
theorem dX8_holder_59 : decode cX8_holder 59 = .ok (.iload_n 1, 1) := by decide +kernel
theorem dX8_holder_60 : decode cX8_holder 60 = .ok (.iaload, 1) := by decide +kernel
theorem dX8_holder_61 : decode cX8_holder 61 = .ok (.ireturn, 1) := by decide +kernel
theorem dX8_holder_62 : decode cX8_holder 62 = .ok (.aload_n 0, 1) := by decide +kernel
theorem dX8_holder_63 : decode cX8_holder 63 = .ok (.getfield 19, 3) := by decide +kernel
theorem dX8_holder_66 : decode cX8_holder 66 = .ok (.getfield 114, 3) := by decide +kernel
theorem dX8_holder_69 : decode cX8_holder 69 = .ok (.iload_n 1, 1) := by decide +kernel
theorem dX8_holder_70 : decode cX8_holder 70 = .ok (.laload, 1) := by decide +kernel
theorem dX8_holder_71 : decode cX8_holder 71 = .ok (.invokestatic 118, 3) := by decide +kernel
theorem dX8_holder_74 : decode cX8_holder 74 = .ok (.ireturn, 1) := by decide +kernel
theorem dX8_holder_75 : decode cX8_holder 75 = .ok (.aload_n 0, 1) := by decide +kernel
theorem dX8_holder_76 : decode cX8_holder 76 = .ok (.getfield 19, 3) := by decide +kernel
theorem dX8_holder_79 : decode cX8_holder 79 = .ok (.getfield 114, 3) := by decide +kernel
theorem dX8_holder_82 : decode cX8_holder 82 = .ok (.iload_n 1, 1) := by decide +kernel
theorem dX8_holder_83 : decode cX8_holder 83 = .ok (.laload, 1) := by decide +kernel
theorem dX8_holder_84 : decode cX8_holder 84 = .ok (.invokestatic 124, 3) := by decide +kernel
theorem dX8_holder_87 : decode cX8_holder 87 = .ok (.ireturn, 1) := by decide +kernel
theorem dX8_holder_88 : decode cX8_holder 88 = .ok (.aload_n 0, 1) := by decide +kernel
theorem dX8_holder_89 : decode cX8_holder 89 = .ok (.getfield 19, 3) := by decide +kernel
theorem dX8_holder_92 : decode cX8_holder 92 = .ok (.iload_n 1, 1) := by decide +kernel
theorem dX8_holder_93 : decode cX8_holder 93 = .ok (.invokevirtual 127, 3) := by decide +kernel
theorem dX8_holder_96 : decode cX8_holder 96 = .ok (.ireturn, 1) := by decide +kernel
theorem dX8_holder_97 : decode cX8_holder 97 = .ok (.aload_n 0, 1) := by decide +kernel
theorem dX8_holder_98 : decode cX8_holder 98 = .ok (.getfield 19, 3) := by decide +kernel
theorem dX8_holder_101 : decode cX8_holder 101 = .ok (.iload_n 1, 1) := by decide +kernel
theorem dX8_holder_102 : decode cX8_holder 102 = .ok (.invokevirtual 127, 3) := by decide +kernel
theorem dX8_holder_105 : decode cX8_holder 105 = .ok (.invokestatic 131, 3) := by decide +kernel
theorem dX8_holder_108 : decode cX8_holder 108 = .ok (.ireturn, 1) := by decide +kernel
theorem dX8_holder_109 : decode cX8_holder 109 = .ok (.aload_n 0, 1) := by decide +kernel
theorem dX8_holder_110 : decode cX8_holder 110 = .ok (.getfield 19, 3) := by decide +kernel
theorem dX8_holder_113 : decode cX8_holder 113 = .ok (.iload_n 1, 1) := by decide +kernel
theorem dX8_holder_114 : decode cX8_holder 114 = .ok (.invokevirtual 135, 3) := by decide +kernel
theorem dX8_holder_117 : decode cX8_holder 117 = .ok (.ireturn, 1) := by decide +kernel
theorem dX8_holder_118 : decode cX8_holder 118 = .ok (.iconst (-1), 1) := by decide +kernel
theorem dX8_holder_119 : decode cX8_holder 119 = .ok (.ireturn, 1) := by decide +kernel
def X8_holder (S_now : Rec) (x1 : Int32) (x2 : Int32) : Option (Int32) :=
  if (X2_hasHolder S_now x1) = 0 then
    some (-1 : Int32)
  else
    if x2 = (0 : Int32) then
      (rdI (S_now.2.1 1) 6 x1).bind fun v3 =>
      some v3
    else if x2 = (1 : Int32) then
      (rdL (S_now.2.2 10) 7 x1).bind fun v5 =>
      some (J13_bitCount_95d88 v5)
    else if x2 = (2 : Int32) then
      (rdL (S_now.2.2 10) 7 x1).bind fun v7 =>
      (X8_priceOf v7).bind fun v8 =>
      some v8
    else if x2 = (3 : Int32) then
      (X2_speechOf S_now x1).bind fun v10 =>
      some v10
    else if x2 = (4 : Int32) then
      (X2_speechOf S_now x1).bind fun v12 =>
      some (J6_bitCount_0f7a4 v12)
    else if x2 = (5 : Int32) then
      (X2_wordsOf S_now x1).bind fun v14 =>
      some v14
    else 
    some (-1 : Int32)
set_option maxRecDepth 100000 in
set_option maxHeartbeats 4000000 in
theorem X8_holder_ok (l : Launch) {h : aH} {nx : Nat} {S_now : Rec} {x1 : Int32} {x2 : Int32} (hBxo : X8_at h) (hBnow : X2_at h 7 S_now) {r : Int32} (hF : X8_holder S_now x1 x2 = some r) : aOk l 6 0 0 yX8_holder cX8_holder 3 (some .int) [.ref 4, .int x1, .int x2] h nx (aRd (.int r) h nx) := by
  refine aOk.of (by decide +kernel) (Nat.le_of_ble_eq_true rfl) (fun X G hX C R0 _ => ?_)
  subst hX
  show aV X G 3 0 [(0, .ref 4), (1, .int x1), (2, .int x2)] [] h nx 0 0
  rw [X8_holder] at hF
  refine ab_aload_n C 0 rfl rfl dX8_holder_0 ?_
  refine ab_g8 (v := .ref 7) C lf_X8_19 hBxo rfl dX8_holder_1 ?_
  refine ab_iload_n C 1 rfl rfl dX8_holder_4 ?_
  refine ab_cVR (v := .int (X2_hasHolder S_now x1)) (st := []) C lm_X8_107 (X2_hasHolder_ok (xl X) hBnow (r := (X2_hasHolder S_now x1)) rfl) [.int x1] rfl hBnow.1 rfl rfl rfl (by decide) ⟨Nat.zero_le _, Nat.zero_le _⟩ (Nat.le_of_ble_eq_true rfl) dX8_holder_5 ?_
  refine ab_if_ne C 13 dX8_holder_8 (by decide) (fun c1 => ?_) (fun c1 => ?_)
  · replace hF := (if_neg c1).symm.trans hF
    refine ab_iload_n C 2 rfl rfl dX8_holder_13 ?_
    rcases Classical.em (x2 = (0 : Int32)) with c2 | c2
    · replace hF := (if_pos c2).symm.trans hF
      refine ab_tableIn (off := 38) C 52 dX8_holder_14 (by rw [c2]; decide) (by rw [c2]; decide) (by rw [c2]; rfl) (by decide) ?_
      refine ab_aload_n C 0 rfl rfl dX8_holder_52 ?_
      refine ab_g8 (v := .ref 7) C lf_X8_19 hBxo rfl dX8_holder_53 ?_
      refine ab_g2 (v := .ref (7 + 1)) C lf_X8_110 hBnow.1 rfl dX8_holder_56 ?_
      refine ab_iload_n C 1 rfl rfl dX8_holder_59 ?_
      obtain ⟨v3, hxv3, hF⟩ := Option.bind_eq_some_iff.mp hF
      refine ab_iald C (X2_r1 hBnow) hxv3 dX8_holder_60 ?_
      obtain rfl := Option.some.inj hF
      exact ab_iret C R0 rfl dX8_holder_61 ⟨rfl, rfl, rfl⟩
    replace hF := (if_neg c2).symm.trans hF
    rcases Classical.em (x2 = (1 : Int32)) with c4 | c4
    · replace hF := (if_pos c4).symm.trans hF
      refine ab_tableIn (off := 48) C 62 dX8_holder_14 (by rw [c4]; decide) (by rw [c4]; decide) (by rw [c4]; rfl) (by decide) ?_
      refine ab_aload_n C 0 rfl rfl dX8_holder_62 ?_
      refine ab_g8 (v := .ref 7) C lf_X8_19 hBxo rfl dX8_holder_63 ?_
      refine ab_g2 (v := .ref (7 + 6)) C lf_X8_114 hBnow.1 rfl dX8_holder_66 ?_
      refine ab_iload_n C 1 rfl rfl dX8_holder_69 ?_
      obtain ⟨v5, hxv5, hF⟩ := Option.bind_eq_some_iff.mp hF
      refine ab_lald C (X2_r10 hBnow) hxv5 dX8_holder_70 ?_
      refine ab_cSR (v := .int (J13_bitCount_95d88 v5)) (st := []) C lm_X8_118 (J13_bitCount_95d88_ok (xl X) (r := (J13_bitCount_95d88 v5)) rfl) rfl rfl (by decide) ⟨Nat.zero_le _, Nat.zero_le _⟩ (Nat.le_of_ble_eq_true rfl) dX8_holder_71 ?_
      obtain rfl := Option.some.inj hF
      exact ab_iret C R0 rfl dX8_holder_74 ⟨rfl, rfl, rfl⟩
    replace hF := (if_neg c4).symm.trans hF
    rcases Classical.em (x2 = (2 : Int32)) with c6 | c6
    · replace hF := (if_pos c6).symm.trans hF
      refine ab_tableIn (off := 61) C 75 dX8_holder_14 (by rw [c6]; decide) (by rw [c6]; decide) (by rw [c6]; rfl) (by decide) ?_
      refine ab_aload_n C 0 rfl rfl dX8_holder_75 ?_
      refine ab_g8 (v := .ref 7) C lf_X8_19 hBxo rfl dX8_holder_76 ?_
      refine ab_g2 (v := .ref (7 + 6)) C lf_X8_114 hBnow.1 rfl dX8_holder_79 ?_
      refine ab_iload_n C 1 rfl rfl dX8_holder_82 ?_
      obtain ⟨v7, hxv7, hF⟩ := Option.bind_eq_some_iff.mp hF
      refine ab_lald C (X2_r10 hBnow) hxv7 dX8_holder_83 ?_
      obtain ⟨v8, hxv8, hF⟩ := Option.bind_eq_some_iff.mp hF
      refine ab_cSR (v := .int v8) (st := []) C lm_X8_124 (X8_priceOf_ok (xl X) (r := v8) hxv8) rfl rfl (by decide) ⟨Nat.zero_le _, Nat.zero_le _⟩ (Nat.le_of_ble_eq_true rfl) dX8_holder_84 ?_
      obtain rfl := Option.some.inj hF
      exact ab_iret C R0 rfl dX8_holder_87 ⟨rfl, rfl, rfl⟩
    replace hF := (if_neg c6).symm.trans hF
    rcases Classical.em (x2 = (3 : Int32)) with c9 | c9
    · replace hF := (if_pos c9).symm.trans hF
      refine ab_tableIn (off := 74) C 88 dX8_holder_14 (by rw [c9]; decide) (by rw [c9]; decide) (by rw [c9]; rfl) (by decide) ?_
      refine ab_aload_n C 0 rfl rfl dX8_holder_88 ?_
      refine ab_g8 (v := .ref 7) C lf_X8_19 hBxo rfl dX8_holder_89 ?_
      refine ab_iload_n C 1 rfl rfl dX8_holder_92 ?_
      obtain ⟨v10, hxv10, hF⟩ := Option.bind_eq_some_iff.mp hF
      refine ab_cVR (v := .int v10) (st := []) C lm_X8_127 (X2_speechOf_ok (xl X) hBnow (r := v10) hxv10) [.int x1] rfl hBnow.1 rfl rfl rfl (by decide) ⟨Nat.zero_le _, Nat.zero_le _⟩ (Nat.le_of_ble_eq_true rfl) dX8_holder_93 ?_
      obtain rfl := Option.some.inj hF
      exact ab_iret C R0 rfl dX8_holder_96 ⟨rfl, rfl, rfl⟩
    replace hF := (if_neg c9).symm.trans hF
    rcases Classical.em (x2 = (4 : Int32)) with c11 | c11
    · replace hF := (if_pos c11).symm.trans hF
      refine ab_tableIn (off := 83) C 97 dX8_holder_14 (by rw [c11]; decide) (by rw [c11]; decide) (by rw [c11]; rfl) (by decide) ?_
      refine ab_aload_n C 0 rfl rfl dX8_holder_97 ?_
      refine ab_g8 (v := .ref 7) C lf_X8_19 hBxo rfl dX8_holder_98 ?_
      refine ab_iload_n C 1 rfl rfl dX8_holder_101 ?_
      obtain ⟨v12, hxv12, hF⟩ := Option.bind_eq_some_iff.mp hF
      refine ab_cVR (v := .int v12) (st := []) C lm_X8_127 (X2_speechOf_ok (xl X) hBnow (r := v12) hxv12) [.int x1] rfl hBnow.1 rfl rfl rfl (by decide) ⟨Nat.zero_le _, Nat.zero_le _⟩ (Nat.le_of_ble_eq_true rfl) dX8_holder_102 ?_
      refine ab_cSR (v := .int (J6_bitCount_0f7a4 v12)) (st := []) C lm_X8_131 (J6_bitCount_0f7a4_ok (xl X) (r := (J6_bitCount_0f7a4 v12)) rfl) rfl rfl (by decide) ⟨Nat.zero_le _, Nat.zero_le _⟩ (Nat.le_of_ble_eq_true rfl) dX8_holder_105 ?_
      obtain rfl := Option.some.inj hF
      exact ab_iret C R0 rfl dX8_holder_108 ⟨rfl, rfl, rfl⟩
    replace hF := (if_neg c11).symm.trans hF
    rcases Classical.em (x2 = (5 : Int32)) with c13 | c13
    · replace hF := (if_pos c13).symm.trans hF
      refine ab_tableIn (off := 95) C 109 dX8_holder_14 (by rw [c13]; decide) (by rw [c13]; decide) (by rw [c13]; rfl) (by decide) ?_
      refine ab_aload_n C 0 rfl rfl dX8_holder_109 ?_
      refine ab_g8 (v := .ref 7) C lf_X8_19 hBxo rfl dX8_holder_110 ?_
      refine ab_iload_n C 1 rfl rfl dX8_holder_113 ?_
      obtain ⟨v14, hxv14, hF⟩ := Option.bind_eq_some_iff.mp hF
      refine ab_cVR (v := .int v14) (st := []) C lm_X8_135 (X2_wordsOf_ok (xl X) hBnow (r := v14) hxv14) [.int x1] rfl hBnow.1 rfl rfl rfl (by decide) ⟨Nat.zero_le _, Nat.zero_le _⟩ (Nat.le_of_ble_eq_true rfl) dX8_holder_114 ?_
      obtain rfl := Option.some.inj hF
      exact ab_iret C R0 rfl dX8_holder_117 ⟨rfl, rfl, rfl⟩
    replace hF := (if_neg c13).symm.trans hF
    refine ab_tableOut C 118 dX8_holder_14 (by have zc2 := lv_neT (a := 0) c2 (by decide); have zc4 := lv_neT (a := 1) c4 (by decide); have zc6 := lv_neT (a := 2) c6 (by decide); have zc9 := lv_neT (a := 3) c9 (by decide); have zc11 := lv_neT (a := 4) c11 (by decide); have zc13 := lv_neT (a := 5) c13 (by decide); omega) (by decide) ?_
    refine ab_iconst (v := (-1 : Int32)) C dX8_holder_118 (by decide) ?_
    obtain rfl := Option.some.inj hF
    exact ab_iret C R0 rfl dX8_holder_119 ⟨rfl, rfl, rfl⟩
  · replace hF := (if_pos c1).symm.trans hF
    refine ab_iconst (v := (-1 : Int32)) C dX8_holder_11 (by decide) ?_
    obtain rfl := Option.some.inj hF
    exact ab_iret C R0 rfl dX8_holder_12 ⟨rfl, rfl, rfl⟩
theorem dX8_cell_0 : decode cX8_cell 0 = .ok (.aload_n 0, 1) := by decide +kernel
theorem dX8_cell_1 : decode cX8_cell 1 = .ok (.getfield 19, 3) := by decide +kernel
theorem dX8_cell_4 : decode cX8_cell 4 = .ok (.iload_n 1, 1) := by decide +kernel
theorem dX8_cell_5 : decode cX8_cell 5 = .ok (.invokevirtual 138, 3) := by decide +kernel
theorem dX8_cell_8 : decode cX8_cell 8 = .ok (.ifCond .ne 5, 3) := by decide +kernel
theorem dX8_cell_11 : decode cX8_cell 11 = .ok (.iconst (-1), 1) := by decide +kernel
theorem dX8_cell_12 : decode cX8_cell 12 = .ok (.ireturn, 1) := by decide +kernel
theorem dX8_cell_13 : decode cX8_cell 13 = .ok (.iload_n 2, 1) := by decide +kernel
theorem dX8_cell_14 : decode cX8_cell 14 = .ok (.tableswitch 51 0 2 #[26, 35, 44], 26) := by decide +kernel
theorem dX8_cell_40 : decode cX8_cell 40 = .ok (.aload_n 0, 1) := by decide +kernel
theorem dX8_cell_41 : decode cX8_cell 41 = .ok (.getfield 19, 3) := by decide +kernel
theorem dX8_cell_44 : decode cX8_cell 44 = .ok (.iload_n 1, 1) := by decide +kernel
theorem dX8_cell_45 : decode cX8_cell 45 = .ok (.invokevirtual 141, 3) := by decide +kernel
theorem dX8_cell_48 : decode cX8_cell 48 = .ok (.ireturn, 1) := by decide +kernel
theorem dX8_cell_49 : decode cX8_cell 49 = .ok (.aload_n 0, 1) := by decide +kernel
theorem dX8_cell_50 : decode cX8_cell 50 = .ok (.getfield 19, 3) := by decide +kernel
theorem dX8_cell_53 : decode cX8_cell 53 = .ok (.iload_n 1, 1) := by decide +kernel
theorem dX8_cell_54 : decode cX8_cell 54 = .ok (.invokevirtual 144, 3) := by decide +kernel
theorem dX8_cell_57 : decode cX8_cell 57 = .ok (.ireturn, 1) := by decide +kernel
theorem dX8_cell_58 : decode cX8_cell 58 = .ok (.lconst 1, 1) := by decide +kernel
theorem dX8_cell_59 : decode cX8_cell 59 = .ok (.iload_n 1, 1) := by decide +kernel
theorem dX8_cell_60 : decode cX8_cell 60 = .ok (.lshl, 1) := by decide +kernel
theorem dX8_cell_61 : decode cX8_cell 61 = .ok (.invokestatic 124, 3) := by decide +kernel
theorem dX8_cell_64 : decode cX8_cell 64 = .ok (.ireturn, 1) := by decide +kernel
theorem dX8_cell_65 : decode cX8_cell 65 = .ok (.iconst (-1), 1) := by decide +kernel
theorem dX8_cell_66 : decode cX8_cell 66 = .ok (.ireturn, 1) := by decide +kernel
def X8_cell (S_now : Rec) (x1 : Int32) (x2 : Int32) : Option (Int32) :=
  (X2_hasCell S_now x1).bind fun v1 =>
  if v1 = 0 then
    some (-1 : Int32)
  else
    if x2 = (0 : Int32) then
      (X2_soundAt S_now x1).bind fun v4 =>
      some v4
    else if x2 = (1 : Int32) then
      (X2_holderAt S_now x1).bind fun v6 =>
      some v6
    else if x2 = (2 : Int32) then
      (X8_priceOf ((1 : Int64) <<< (x1.toInt64 &&& 63))).bind fun v8 =>
      some v8
    else 
    some (-1 : Int32)
set_option maxRecDepth 100000 in
set_option maxHeartbeats 4000000 in
theorem X8_cell_ok (l : Launch) {h : aH} {nx : Nat} {S_now : Rec} {x1 : Int32} {x2 : Int32} (hBxo : X8_at h) (hBnow : X2_at h 7 S_now) {r : Int32} (hF : X8_cell S_now x1 x2 = some r) : aOk l 3 0 0 yX8_cell cX8_cell 3 (some .int) [.ref 4, .int x1, .int x2] h nx (aRd (.int r) h nx) := by
  refine aOk.of (by decide +kernel) (Nat.le_of_ble_eq_true rfl) (fun X G hX C R0 _ => ?_)
  subst hX
  show aV X G 3 0 [(0, .ref 4), (1, .int x1), (2, .int x2)] [] h nx 0 0
  rw [X8_cell] at hF
  refine ab_aload_n C 0 rfl rfl dX8_cell_0 ?_
  refine ab_g8 (v := .ref 7) C lf_X8_19 hBxo rfl dX8_cell_1 ?_
  refine ab_iload_n C 1 rfl rfl dX8_cell_4 ?_
  obtain ⟨v1, hxv1, hF⟩ := Option.bind_eq_some_iff.mp hF
  refine ab_cVR (v := .int v1) (st := []) C lm_X8_138 (X2_hasCell_ok (xl X) hBnow (r := v1) hxv1) [.int x1] rfl hBnow.1 rfl rfl rfl (by decide) ⟨Nat.zero_le _, Nat.zero_le _⟩ (Nat.le_of_ble_eq_true rfl) dX8_cell_5 ?_
  refine ab_if_ne C 13 dX8_cell_8 (by decide) (fun c2 => ?_) (fun c2 => ?_)
  · replace hF := (if_neg c2).symm.trans hF
    refine ab_iload_n C 2 rfl rfl dX8_cell_13 ?_
    rcases Classical.em (x2 = (0 : Int32)) with c3 | c3
    · replace hF := (if_pos c3).symm.trans hF
      refine ab_tableIn (off := 26) C 40 dX8_cell_14 (by rw [c3]; decide) (by rw [c3]; decide) (by rw [c3]; rfl) (by decide) ?_
      refine ab_aload_n C 0 rfl rfl dX8_cell_40 ?_
      refine ab_g8 (v := .ref 7) C lf_X8_19 hBxo rfl dX8_cell_41 ?_
      refine ab_iload_n C 1 rfl rfl dX8_cell_44 ?_
      obtain ⟨v4, hxv4, hF⟩ := Option.bind_eq_some_iff.mp hF
      refine ab_cVR (v := .int v4) (st := []) C lm_X8_141 (X2_soundAt_ok (xl X) hBnow (r := v4) hxv4) [.int x1] rfl hBnow.1 rfl rfl rfl (by decide) ⟨Nat.zero_le _, Nat.zero_le _⟩ (Nat.le_of_ble_eq_true rfl) dX8_cell_45 ?_
      obtain rfl := Option.some.inj hF
      exact ab_iret C R0 rfl dX8_cell_48 ⟨rfl, rfl, rfl⟩
    replace hF := (if_neg c3).symm.trans hF
    rcases Classical.em (x2 = (1 : Int32)) with c5 | c5
    · replace hF := (if_pos c5).symm.trans hF
      refine ab_tableIn (off := 35) C 49 dX8_cell_14 (by rw [c5]; decide) (by rw [c5]; decide) (by rw [c5]; rfl) (by decide) ?_
      refine ab_aload_n C 0 rfl rfl dX8_cell_49 ?_
      refine ab_g8 (v := .ref 7) C lf_X8_19 hBxo rfl dX8_cell_50 ?_
      refine ab_iload_n C 1 rfl rfl dX8_cell_53 ?_
      obtain ⟨v6, hxv6, hF⟩ := Option.bind_eq_some_iff.mp hF
      refine ab_cVR (v := .int v6) (st := []) C lm_X8_144 (X2_holderAt_ok (xl X) hBnow (r := v6) hxv6) [.int x1] rfl hBnow.1 rfl rfl rfl (by decide) ⟨Nat.zero_le _, Nat.zero_le _⟩ (Nat.le_of_ble_eq_true rfl) dX8_cell_54 ?_
      obtain rfl := Option.some.inj hF
      exact ab_iret C R0 rfl dX8_cell_57 ⟨rfl, rfl, rfl⟩
    replace hF := (if_neg c5).symm.trans hF
    rcases Classical.em (x2 = (2 : Int32)) with c7 | c7
    · replace hF := (if_pos c7).symm.trans hF
      refine ab_tableIn (off := 44) C 58 dX8_cell_14 (by rw [c7]; decide) (by rw [c7]; decide) (by rw [c7]; rfl) (by decide) ?_
      refine ab_lconst (v := (1 : Int64)) C dX8_cell_58 (by decide) ?_
      refine ab_iload_n C 1 rfl rfl dX8_cell_59 ?_
      refine ab_lshl C dX8_cell_60 ?_
      obtain ⟨v8, hxv8, hF⟩ := Option.bind_eq_some_iff.mp hF
      refine ab_cSR (v := .int v8) (st := []) C lm_X8_124 (X8_priceOf_ok (xl X) (r := v8) hxv8) rfl rfl (by decide) ⟨Nat.zero_le _, Nat.zero_le _⟩ (Nat.le_of_ble_eq_true rfl) dX8_cell_61 ?_
      obtain rfl := Option.some.inj hF
      exact ab_iret C R0 rfl dX8_cell_64 ⟨rfl, rfl, rfl⟩
    replace hF := (if_neg c7).symm.trans hF
    refine ab_tableOut C 65 dX8_cell_14 (by have zc3 := lv_neT (a := 0) c3 (by decide); have zc5 := lv_neT (a := 1) c5 (by decide); have zc7 := lv_neT (a := 2) c7 (by decide); omega) (by decide) ?_
    refine ab_iconst (v := (-1 : Int32)) C dX8_cell_65 (by decide) ?_
    obtain rfl := Option.some.inj hF
    exact ab_iret C R0 rfl dX8_cell_66 ⟨rfl, rfl, rfl⟩
  · replace hF := (if_pos c2).symm.trans hF
    refine ab_iconst (v := (-1 : Int32)) C dX8_cell_11 (by decide) ?_
    obtain rfl := Option.some.inj hF
    exact ab_iret C R0 rfl dX8_cell_12 ⟨rfl, rfl, rfl⟩
theorem dX8_word_0 : decode cX8_word 0 = .ok (.aload_n 0, 1) := by decide +kernel
theorem dX8_word_1 : decode cX8_word 1 = .ok (.getfield 19, 3) := by decide +kernel
theorem dX8_word_4 : decode cX8_word 4 = .ok (.iload_n 1, 1) := by decide +kernel
theorem dX8_word_5 : decode cX8_word 5 = .ok (.invokevirtual 147, 3) := by decide +kernel
theorem dX8_word_8 : decode cX8_word 8 = .ok (.ifCond .ne 5, 3) := by decide +kernel
theorem dX8_word_11 : decode cX8_word 11 = .ok (.iconst (-1), 1) := by decide +kernel
theorem dX8_word_12 : decode cX8_word 12 = .ok (.ireturn, 1) := by decide +kernel
theorem dX8_word_13 : decode cX8_word 13 = .ok (.iload_n 2, 1) := by decide +kernel
theorem dX8_word_14 : decode cX8_word 14 = .ok (.tableswitch 55 0 2 #[26, 36, 46], 26) := by decide +kernel
theorem dX8_word_40 : decode cX8_word 40 = .ok (.aload_n 0, 1) := by decide +kernel
theorem dX8_word_41 : decode cX8_word 41 = .ok (.getfield 19, 3) := by decide +kernel
theorem dX8_word_44 : decode cX8_word 44 = .ok (.getfield 150, 3) := by decide +kernel
theorem dX8_word_47 : decode cX8_word 47 = .ok (.iload_n 1, 1) := by decide +kernel
theorem dX8_word_48 : decode cX8_word 48 = .ok (.iaload, 1) := by decide +kernel
theorem dX8_word_49 : decode cX8_word 49 = .ok (.ireturn, 1) := by decide +kernel
theorem dX8_word_50 : decode cX8_word 50 = .ok (.aload_n 0, 1) := by decide +kernel
theorem dX8_word_51 : decode cX8_word 51 = .ok (.getfield 19, 3) := by decide +kernel
theorem dX8_word_54 : decode cX8_word 54 = .ok (.getfield 153, 3) := by decide +kernel
theorem dX8_word_57 : decode cX8_word 57 = .ok (.iload_n 1, 1) := by decide +kernel
theorem dX8_word_58 : decode cX8_word 58 = .ok (.iaload, 1) := by decide +kernel
theorem dX8_word_59 : decode cX8_word 59 = .ok (.ireturn, 1) := by decide +kernel
theorem dX8_word_60 : decode cX8_word 60 = .ok (.aload_n 0, 1) := by decide +kernel
theorem dX8_word_61 : decode cX8_word 61 = .ok (.getfield 19, 3) := by decide +kernel
theorem dX8_word_64 : decode cX8_word 64 = .ok (.iload_n 1, 1) := by decide +kernel
theorem dX8_word_65 : decode cX8_word 65 = .ok (.invokevirtual 156, 3) := by decide +kernel
theorem dX8_word_68 : decode cX8_word 68 = .ok (.ireturn, 1) := by decide +kernel
theorem dX8_word_69 : decode cX8_word 69 = .ok (.iconst (-1), 1) := by decide +kernel
theorem dX8_word_70 : decode cX8_word 70 = .ok (.ireturn, 1) := by decide +kernel
def X8_word (S_now : Rec) (x1 : Int32) (x2 : Int32) : Option (Int32) :=
  if (X2_hasWord S_now x1) = 0 then
    some (-1 : Int32)
  else
    if x2 = (0 : Int32) then
      (rdI (S_now.2.1 5) 4 x1).bind fun v3 =>
      some v3
    else if x2 = (1 : Int32) then
      (rdI (S_now.2.1 6) 4 x1).bind fun v5 =>
      some v5
    else if x2 = (2 : Int32) then
      (X2_speakersOf S_now x1).bind fun v7 =>
      some v7
    else 
    some (-1 : Int32)
set_option maxRecDepth 100000 in
set_option maxHeartbeats 4000000 in
theorem X8_word_ok (l : Launch) {h : aH} {nx : Nat} {S_now : Rec} {x1 : Int32} {x2 : Int32} (hBxo : X8_at h) (hBnow : X2_at h 7 S_now) {r : Int32} (hF : X8_word S_now x1 x2 = some r) : aOk l 6 0 0 yX8_word cX8_word 3 (some .int) [.ref 4, .int x1, .int x2] h nx (aRd (.int r) h nx) := by
  refine aOk.of (by decide +kernel) (Nat.le_of_ble_eq_true rfl) (fun X G hX C R0 _ => ?_)
  subst hX
  show aV X G 3 0 [(0, .ref 4), (1, .int x1), (2, .int x2)] [] h nx 0 0
  rw [X8_word] at hF
  refine ab_aload_n C 0 rfl rfl dX8_word_0 ?_
  refine ab_g8 (v := .ref 7) C lf_X8_19 hBxo rfl dX8_word_1 ?_
  refine ab_iload_n C 1 rfl rfl dX8_word_4 ?_
  refine ab_cVR (v := .int (X2_hasWord S_now x1)) (st := []) C lm_X8_147 (X2_hasWord_ok (xl X) hBnow (r := (X2_hasWord S_now x1)) rfl) [.int x1] rfl hBnow.1 rfl rfl rfl (by decide) ⟨Nat.zero_le _, Nat.zero_le _⟩ (Nat.le_of_ble_eq_true rfl) dX8_word_5 ?_
  refine ab_if_ne C 13 dX8_word_8 (by decide) (fun c1 => ?_) (fun c1 => ?_)
  · replace hF := (if_neg c1).symm.trans hF
    refine ab_iload_n C 2 rfl rfl dX8_word_13 ?_
    rcases Classical.em (x2 = (0 : Int32)) with c2 | c2
    · replace hF := (if_pos c2).symm.trans hF
      refine ab_tableIn (off := 26) C 40 dX8_word_14 (by rw [c2]; decide) (by rw [c2]; decide) (by rw [c2]; rfl) (by decide) ?_
      refine ab_aload_n C 0 rfl rfl dX8_word_40 ?_
      refine ab_g8 (v := .ref 7) C lf_X8_19 hBxo rfl dX8_word_41 ?_
      refine ab_g2 (v := .ref (7 + 2)) C lf_X8_150 hBnow.1 rfl dX8_word_44 ?_
      refine ab_iload_n C 1 rfl rfl dX8_word_47 ?_
      obtain ⟨v3, hxv3, hF⟩ := Option.bind_eq_some_iff.mp hF
      refine ab_iald C (X2_r5 hBnow) hxv3 dX8_word_48 ?_
      obtain rfl := Option.some.inj hF
      exact ab_iret C R0 rfl dX8_word_49 ⟨rfl, rfl, rfl⟩
    replace hF := (if_neg c2).symm.trans hF
    rcases Classical.em (x2 = (1 : Int32)) with c4 | c4
    · replace hF := (if_pos c4).symm.trans hF
      refine ab_tableIn (off := 36) C 50 dX8_word_14 (by rw [c4]; decide) (by rw [c4]; decide) (by rw [c4]; rfl) (by decide) ?_
      refine ab_aload_n C 0 rfl rfl dX8_word_50 ?_
      refine ab_g8 (v := .ref 7) C lf_X8_19 hBxo rfl dX8_word_51 ?_
      refine ab_g2 (v := .ref (7 + 3)) C lf_X8_153 hBnow.1 rfl dX8_word_54 ?_
      refine ab_iload_n C 1 rfl rfl dX8_word_57 ?_
      obtain ⟨v5, hxv5, hF⟩ := Option.bind_eq_some_iff.mp hF
      refine ab_iald C (X2_r6 hBnow) hxv5 dX8_word_58 ?_
      obtain rfl := Option.some.inj hF
      exact ab_iret C R0 rfl dX8_word_59 ⟨rfl, rfl, rfl⟩
    replace hF := (if_neg c4).symm.trans hF
    rcases Classical.em (x2 = (2 : Int32)) with c6 | c6
    · replace hF := (if_pos c6).symm.trans hF
      refine ab_tableIn (off := 46) C 60 dX8_word_14 (by rw [c6]; decide) (by rw [c6]; decide) (by rw [c6]; rfl) (by decide) ?_
      refine ab_aload_n C 0 rfl rfl dX8_word_60 ?_
      refine ab_g8 (v := .ref 7) C lf_X8_19 hBxo rfl dX8_word_61 ?_
      refine ab_iload_n C 1 rfl rfl dX8_word_64 ?_
      obtain ⟨v7, hxv7, hF⟩ := Option.bind_eq_some_iff.mp hF
      refine ab_cVR (v := .int v7) (st := []) C lm_X8_156 (X2_speakersOf_ok (xl X) hBnow (r := v7) hxv7) [.int x1] rfl hBnow.1 rfl rfl rfl (by decide) ⟨Nat.zero_le _, Nat.zero_le _⟩ (Nat.le_of_ble_eq_true rfl) dX8_word_65 ?_
      obtain rfl := Option.some.inj hF
      exact ab_iret C R0 rfl dX8_word_68 ⟨rfl, rfl, rfl⟩
    replace hF := (if_neg c6).symm.trans hF
    refine ab_tableOut C 69 dX8_word_14 (by have zc2 := lv_neT (a := 0) c2 (by decide); have zc4 := lv_neT (a := 1) c4 (by decide); have zc6 := lv_neT (a := 2) c6 (by decide); omega) (by decide) ?_
    refine ab_iconst (v := (-1 : Int32)) C dX8_word_69 (by decide) ?_
    obtain rfl := Option.some.inj hF
    exact ab_iret C R0 rfl dX8_word_70 ⟨rfl, rfl, rfl⟩
  · replace hF := (if_pos c1).symm.trans hF
    refine ab_iconst (v := (-1 : Int32)) C dX8_word_11 (by decide) ?_
    obtain rfl := Option.some.inj hF
    exact ab_iret C R0 rfl dX8_word_12 ⟨rfl, rfl, rfl⟩
theorem dX8_isOfKind_0 : decode cX8_isOfKind 0 = .ok (.iload_n 0, 1) := by decide +kernel
theorem dX8_isOfKind_1 : decode cX8_isOfKind 1 = .ok (.istore_n 2, 1) := by decide +kernel
theorem dX8_isOfKind_2 : decode cX8_isOfKind 2 = .ok (.bipush 6, 2) := by decide +kernel
theorem dX8_isOfKind_4 : decode cX8_isOfKind 4 = .ok (.istore_n 3, 1) := by decide +kernel
theorem dX8_isOfKind_5 : decode cX8_isOfKind 5 = .ok (.iload_n 3, 1) := by decide +kernel
theorem dX8_isOfKind_6 : decode cX8_isOfKind 6 = .ok (.ifCond .le 34, 3) := by decide +kernel
theorem dX8_isOfKind_9 : decode cX8_isOfKind 9 = .ok (.iload_n 2, 1) := by decide +kernel
theorem dX8_isOfKind_10 : decode cX8_isOfKind 10 = .ok (.ifCond .lt 30, 3) := by decide +kernel
theorem dX8_isOfKind_13 : decode cX8_isOfKind 13 = .ok (.iload_n 2, 1) := by decide +kernel
theorem dX8_isOfKind_14 : decode cX8_isOfKind 14 = .ok (.getstatic 360, 3) := by decide +kernel
theorem dX8_isOfKind_17 : decode cX8_isOfKind 17 = .ok (.arraylength, 1) := by decide +kernel
theorem dX8_isOfKind_18 : decode cX8_isOfKind 18 = .ok (.if_icmp .ge 22, 3) := by decide +kernel
theorem dX8_isOfKind_21 : decode cX8_isOfKind 21 = .ok (.iload_n 2, 1) := by decide +kernel
theorem dX8_isOfKind_22 : decode cX8_isOfKind 22 = .ok (.iload_n 1, 1) := by decide +kernel
theorem dX8_isOfKind_23 : decode cX8_isOfKind 23 = .ok (.if_icmp .ne 5, 3) := by decide +kernel
theorem dX8_isOfKind_26 : decode cX8_isOfKind 26 = .ok (.iconst 1, 1) := by decide +kernel
theorem dX8_isOfKind_27 : decode cX8_isOfKind 27 = .ok (.ireturn, 1) := by decide +kernel
theorem dX8_isOfKind_28 : decode cX8_isOfKind 28 = .ok (.getstatic 360, 3) := by decide +kernel
theorem dX8_isOfKind_31 : decode cX8_isOfKind 31 = .ok (.iload_n 2, 1) := by decide +kernel
theorem dX8_isOfKind_32 : decode cX8_isOfKind 32 = .ok (.iaload, 1) := by decide +kernel
theorem dX8_isOfKind_33 : decode cX8_isOfKind 33 = .ok (.istore_n 2, 1) := by decide +kernel
theorem dX8_isOfKind_34 : decode cX8_isOfKind 34 = .ok (.iinc 3 (-1), 3) := by decide +kernel
theorem dX8_isOfKind_37 : decode cX8_isOfKind 37 = .ok (.goto (-32), 3) := by decide +kernel
theorem dX8_isOfKind_40 : decode cX8_isOfKind 40 = .ok (.iconst 0, 1) := by decide +kernel
theorem dX8_isOfKind_41 : decode cX8_isOfKind 41 = .ok (.ireturn, 1) := by decide +kernel
def X8_isOfKind_L5 (x1 : Int32) : Nat → Int32 → Int32 → Option ((Int32) ⊕ (Unit))
  | 0, _, _ => none
  | n5 + 1, v1, v2 => if v2 ≤ 0 then
      some (.inr ())
    else
      if v1 < 0 then
        some (.inr ())
      else
        if (6 : Int32) ≤ v1 then
          some (.inr ())
        else
          if v1 = x1 then
            some (.inl (1 : Int32))
          else
            (rdI a_kinds 6 v1).bind fun v7 =>
            aLet (v2 + (-1 : Int32)) fun v8 =>
            X8_isOfKind_L5 x1 n5 v7 v8
def X8_isOfKind (x0 : Int32) (x1 : Int32) : Option (Int32) :=
  (X8_isOfKind_L5 x1 aFu x0 (6 : Int32)).bind fun e9 =>
  aCs e9 (fun t11 => some t11) (fun s10 =>
    some (0 : Int32))
set_option maxRecDepth 100000 in
set_option maxHeartbeats 4000000 in
theorem X8_isOfKind_ok (l : Launch) {h : aH} {nx : Nat} {x0 : Int32} {x1 : Int32} {r : Int32} (hF : X8_isOfKind x0 x1 = some r) : aOk l 0 0 0 yX8_isOfKind cX8_isOfKind 4 (some .boolean) [.int x0, .int x1] h nx (aRd (.int r) h nx) := by
  refine aOk.of (by decide +kernel) (Nat.le_of_ble_eq_true rfl) (fun X G hX C R0 _ => ?_)
  subst hX
  show aV X G 4 0 [(0, .int x0), (1, .int x1)] [] h nx 0 0
  rw [X8_isOfKind] at hF
  refine ab_iload_n C 0 rfl rfl dX8_isOfKind_0 ?_
  refine ab_istore_n (lv' := [(2, .int x0), (0, .int x0), (1, .int x1)]) C dX8_isOfKind_1 rfl (by decide) rfl ?_
  refine ab_bipush (v := (6 : Int32)) C dX8_isOfKind_2 (by decide) ?_
  refine ab_istore_n (lv' := [(3, .int (6 : Int32)), (2, .int x0), (0, .int x0), (1, .int x1)]) C dX8_isOfKind_4 rfl (by decide) rfl ?_
  have L5 : ∀ (n5 : Nat) (v1 : Int32) (v2 : Int32), ∀ (res5 : (Int32) ⊕ (Unit)), X8_isOfKind_L5 x1 n5 v1 v2 = some res5 → (∀ (s : Unit), res5 = .inr s → aV X G 4 40 [] [] h nx 0 0) → (∀ (t : Int32), res5 = .inl t → aRd (.int r) h nx (some (.int t)) h nx) → aV X G 4 5 [(1, .int x1), (2, .int v1), (3, .int v2)] [] h nx 0 0 := by
    intro n5
    induction n5 with
    | zero => intro v1 v2 res5 hF KX5 KR5; cases (show (none : Option ((Int32) ⊕ (Unit))) = some res5 from hF)
    | succ n5 ih5 =>
      intro v1 v2 res5 hF KX5 KR5
      rw [X8_isOfKind_L5] at hF
      refine ab_iload_n C 2 rfl rfl dX8_isOfKind_5 ?_
      refine ab_if_le C 40 dX8_isOfKind_6 (by decide) (fun c3 => ?_) (fun c3 => ?_)
      · replace hF := (if_pos c3).symm.trans hF
        obtain rfl := Option.some.inj hF
        refine aV.sub (lv' := []) [] rfl ?_
        exact KX5 () rfl
      · replace hF := (if_neg c3).symm.trans hF
        refine ab_iload_n C 1 rfl rfl dX8_isOfKind_9 ?_
        refine ab_if_lt C 40 dX8_isOfKind_10 (by decide) (fun c4 => ?_) (fun c4 => ?_)
        · replace hF := (if_pos c4).symm.trans hF
          obtain rfl := Option.some.inj hF
          refine aV.sub (lv' := []) [] rfl ?_
          exact KX5 () rfl
        · replace hF := (if_neg c4).symm.trans hF
          refine ab_iload_n C 1 rfl rfl dX8_isOfKind_13 ?_
          refine ab_kinds C (a_mem 567 (by decide +kernel) (by decide +kernel)) rfl dX8_isOfKind_14 ?_
          refine ab_kindlen C dX8_isOfKind_17 ?_
          refine ab_icmp_ge C 40 dX8_isOfKind_18 (by decide) (fun c5 => ?_) (fun c5 => ?_)
          · replace hF := (if_pos c5).symm.trans hF
            obtain rfl := Option.some.inj hF
            refine aV.sub (lv' := []) [] rfl ?_
            exact KX5 () rfl
          · replace hF := (if_neg c5).symm.trans hF
            refine ab_iload_n C 1 rfl rfl dX8_isOfKind_21 ?_
            refine ab_iload_n C 0 rfl rfl dX8_isOfKind_22 ?_
            refine ab_icmp_ne C 28 dX8_isOfKind_23 (by decide) (fun c6 => ?_) (fun c6 => ?_)
            · replace hF := (if_neg c6).symm.trans hF
              refine ab_kinds C (a_mem 567 (by decide +kernel) (by decide +kernel)) rfl dX8_isOfKind_28 ?_
              refine ab_iload_n C 1 rfl rfl dX8_isOfKind_31 ?_
              obtain ⟨v7, hxv7, hF⟩ := Option.bind_eq_some_iff.mp hF
              refine ab_kindF C hxv7 dX8_isOfKind_32 ?_
              refine ab_istore_n (lv' := [(2, .int v7), (1, .int x1), (3, .int v2)]) C dX8_isOfKind_33 rfl (by decide) rfl ?_
              obtain ⟨v8, qv8⟩ : ∃ y : Int32, y = (v2 + (-1 : Int32)) := ⟨_, rfl⟩
              replace hF := aLet_e hF v8 qv8
              refine ab_iinc (lv' := [(3, .int v8), (2, .int v7), (1, .int x1)]) C 2 rfl dX8_isOfKind_34 (by rw [qv8]; rfl) (by decide) rfl ?_
              refine ab_goto C 5 dX8_isOfKind_37 (by decide) ?_
              refine aV.sub (lv' := [(1, .int x1), (2, .int v7), (3, .int v8)]) [2, 1, 0] rfl ?_
              exact ih5 v7 v8 res5 hF KX5 KR5
            · replace hF := (if_pos c6).symm.trans hF
              refine ab_iconst (v := (1 : Int32)) C dX8_isOfKind_26 (by decide) ?_
              obtain rfl := Option.some.inj hF
              exact ab_iret C R0 rfl dX8_isOfKind_27 (KR5 (1 : Int32) rfl)
  refine aV.sub (lv' := [(1, .int x1), (2, .int x0), (3, .int (6 : Int32))]) [3, 1, 0] rfl ?_
  obtain ⟨e9, he9, hF⟩ := Option.bind_eq_some_iff.mp hF
  refine L5 aFu x0 (6 : Int32) e9 he9 (fun s10 eqs10 => ?_) (fun t11 eqt11 => ?_)
  · subst eqs10
    replace hF := aCs_r hF
    refine ab_iconst (v := (0 : Int32)) C dX8_isOfKind_40 (by decide) ?_
    obtain rfl := Option.some.inj hF
    exact ab_iret C R0 rfl dX8_isOfKind_41 ⟨rfl, rfl, rfl⟩
  · subst eqt11
    replace hF := aCs_l hF
    obtain rfl := Option.some.inj hF
    exact ⟨rfl, rfl, rfl⟩
theorem dX8_as_0 : decode cX8_as 0 = .ok (.aload_n 0, 1) := by decide +kernel
theorem dX8_as_1 : decode cX8_as 1 = .ok (.getfield 19, 3) := by decide +kernel
theorem dX8_as_4 : decode cX8_as 4 = .ok (.iload_n 1, 1) := by decide +kernel
theorem dX8_as_5 : decode cX8_as 5 = .ok (.invokevirtual 107, 3) := by decide +kernel
theorem dX8_as_8 : decode cX8_as 8 = .ok (.ifCond .eq 12, 3) := by decide +kernel
theorem dX8_as_11 : decode cX8_as 11 = .ok (.iload_n 2, 1) := by decide +kernel
theorem dX8_as_12 : decode cX8_as 12 = .ok (.iconst 0, 1) := by decide +kernel
theorem dX8_as_13 : decode cX8_as 13 = .ok (.iconst 5, 1) := by decide +kernel
theorem dX8_as_14 : decode cX8_as 14 = .ok (.invokestatic 74, 3) := by decide +kernel
theorem dX8_as_17 : decode cX8_as 17 = .ok (.ifCond .ne 5, 3) := by decide +kernel
theorem dX8_as_20 : decode cX8_as 20 = .ok (.iconst (-1), 1) := by decide +kernel
theorem dX8_as_21 : decode cX8_as 21 = .ok (.ireturn, 1) := by decide +kernel
theorem dX8_as_22 : decode cX8_as 22 = .ok (.aload_n 0, 1) := by decide +kernel
theorem dX8_as_23 : decode cX8_as 23 = .ok (.getfield 19, 3) := by decide +kernel
theorem dX8_as_26 : decode cX8_as 26 = .ok (.getfield 110, 3) := by decide +kernel
theorem dX8_as_29 : decode cX8_as 29 = .ok (.iload_n 1, 1) := by decide +kernel
theorem dX8_as_30 : decode cX8_as 30 = .ok (.iaload, 1) := by decide +kernel
theorem dX8_as_31 : decode cX8_as 31 = .ok (.iload_n 2, 1) := by decide +kernel
theorem dX8_as_32 : decode cX8_as 32 = .ok (.invokestatic 159, 3) := by decide +kernel
theorem dX8_as_35 : decode cX8_as 35 = .ok (.ifCond .eq 7, 3) := by decide +kernel
theorem dX8_as_38 : decode cX8_as 38 = .ok (.iload_n 1, 1) := by decide +kernel
theorem dX8_as_39 : decode cX8_as 39 = .ok (.goto 5, 3) := by decide +kernel
theorem dX8_as_42 : decode cX8_as 42 = .ok (.bipush (-12), 2) := by decide +kernel
theorem dX8_as_44 : decode cX8_as 44 = .ok (.ireturn, 1) := by decide +kernel
def X8_as (S_now : Rec) (x1 : Int32) (x2 : Int32) : Option (Int32) :=
  if (X2_hasHolder S_now x1) = 0 then
    some (-1 : Int32)
  else
    if (X8_within x2 (0 : Int32) (5 : Int32)) = 0 then
      some (-1 : Int32)
    else
      (rdI (S_now.2.1 1) 6 x1).bind fun v3 =>
      (X8_isOfKind v3 x2).bind fun v4 =>
      if v4 = 0 then
        some (-12 : Int32)
      else
        some x1
set_option maxRecDepth 100000 in
set_option maxHeartbeats 4000000 in
theorem X8_as_ok (l : Launch) {h : aH} {nx : Nat} {S_now : Rec} {x1 : Int32} {x2 : Int32} (hBxo : X8_at h) (hBnow : X2_at h 7 S_now) {r : Int32} (hF : X8_as S_now x1 x2 = some r) : aOk l 1 0 0 yX8_as cX8_as 3 (some .int) [.ref 4, .int x1, .int x2] h nx (aRd (.int r) h nx) := by
  refine aOk.of (by decide +kernel) (Nat.le_of_ble_eq_true rfl) (fun X G hX C R0 _ => ?_)
  subst hX
  show aV X G 3 0 [(0, .ref 4), (1, .int x1), (2, .int x2)] [] h nx 0 0
  rw [X8_as] at hF
  refine ab_aload_n C 0 rfl rfl dX8_as_0 ?_
  refine ab_g8 (v := .ref 7) C lf_X8_19 hBxo rfl dX8_as_1 ?_
  refine ab_iload_n C 1 rfl rfl dX8_as_4 ?_
  refine ab_cVR (v := .int (X2_hasHolder S_now x1)) (st := []) C lm_X8_107 (X2_hasHolder_ok (xl X) hBnow (r := (X2_hasHolder S_now x1)) rfl) [.int x1] rfl hBnow.1 rfl rfl rfl (by decide) ⟨Nat.zero_le _, Nat.zero_le _⟩ (Nat.le_of_ble_eq_true rfl) dX8_as_5 ?_
  refine ab_if_eq C 20 dX8_as_8 (by decide) (fun c1 => ?_) (fun c1 => ?_)
  · replace hF := (if_pos c1).symm.trans hF
    refine ab_iconst (v := (-1 : Int32)) C dX8_as_20 (by decide) ?_
    obtain rfl := Option.some.inj hF
    exact ab_iret C R0 rfl dX8_as_21 ⟨rfl, rfl, rfl⟩
  · replace hF := (if_neg c1).symm.trans hF
    refine ab_iload_n C 2 rfl rfl dX8_as_11 ?_
    refine ab_iconst (v := (0 : Int32)) C dX8_as_12 (by decide) ?_
    refine ab_iconst (v := (5 : Int32)) C dX8_as_13 (by decide) ?_
    refine ab_cSR (v := .int (X8_within x2 (0 : Int32) (5 : Int32))) (st := []) C lm_X8_74 (X8_within_ok (xl X) (r := (X8_within x2 (0 : Int32) (5 : Int32))) rfl) rfl rfl (by decide) ⟨Nat.zero_le _, Nat.zero_le _⟩ (Nat.le_of_ble_eq_true rfl) dX8_as_14 ?_
    refine ab_if_ne C 22 dX8_as_17 (by decide) (fun c2 => ?_) (fun c2 => ?_)
    · replace hF := (if_neg c2).symm.trans hF
      refine ab_aload_n C 0 rfl rfl dX8_as_22 ?_
      refine ab_g8 (v := .ref 7) C lf_X8_19 hBxo rfl dX8_as_23 ?_
      refine ab_g2 (v := .ref (7 + 1)) C lf_X8_110 hBnow.1 rfl dX8_as_26 ?_
      refine ab_iload_n C 1 rfl rfl dX8_as_29 ?_
      obtain ⟨v3, hxv3, hF⟩ := Option.bind_eq_some_iff.mp hF
      refine ab_iald C (X2_r1 hBnow) hxv3 dX8_as_30 ?_
      refine ab_iload_n C 2 rfl rfl dX8_as_31 ?_
      obtain ⟨v4, hxv4, hF⟩ := Option.bind_eq_some_iff.mp hF
      refine ab_cSR (v := .int v4) (st := []) C lm_X8_159 (X8_isOfKind_ok (xl X) (r := v4) hxv4) rfl rfl (by decide) ⟨Nat.zero_le _, Nat.zero_le _⟩ (Nat.le_of_ble_eq_true rfl) dX8_as_32 ?_
      refine ab_if_eq C 42 dX8_as_35 (by decide) (fun c5 => ?_) (fun c5 => ?_)
      · replace hF := (if_pos c5).symm.trans hF
        refine ab_bipush (v := (-12 : Int32)) C dX8_as_42 (by decide) ?_
        obtain rfl := Option.some.inj hF
        exact ab_iret C R0 rfl dX8_as_44 ⟨rfl, rfl, rfl⟩
      · replace hF := (if_neg c5).symm.trans hF
        refine ab_iload_n C 1 rfl rfl dX8_as_38 ?_
        refine ab_goto C 44 dX8_as_39 (by decide) ?_
        obtain rfl := Option.some.inj hF
        exact ab_iret C R0 rfl dX8_as_44 ⟨rfl, rfl, rfl⟩
    · replace hF := (if_pos c2).symm.trans hF
      refine ab_iconst (v := (-1 : Int32)) C dX8_as_20 (by decide) ?_
      obtain rfl := Option.some.inj hF
      exact ab_iret C R0 rfl dX8_as_21 ⟨rfl, rfl, rfl⟩
theorem dX8_behind_0 : decode cX8_behind 0 = .ok (.aload_n 0, 1) := by decide +kernel
theorem dX8_behind_1 : decode cX8_behind 1 = .ok (.getfield 19, 3) := by decide +kernel
theorem dX8_behind_4 : decode cX8_behind 4 = .ok (.iload_n 1, 1) := by decide +kernel
theorem dX8_behind_5 : decode cX8_behind 5 = .ok (.invokevirtual 107, 3) := by decide +kernel
theorem dX8_behind_8 : decode cX8_behind 8 = .ok (.ifCond .eq 13, 3) := by decide +kernel
theorem dX8_behind_11 : decode cX8_behind 11 = .ok (.iload_n 2, 1) := by decide +kernel
theorem dX8_behind_12 : decode cX8_behind 12 = .ok (.iconst 0, 1) := by decide +kernel
theorem dX8_behind_13 : decode cX8_behind 13 = .ok (.bipush 60, 2) := by decide +kernel
theorem dX8_behind_15 : decode cX8_behind 15 = .ok (.invokestatic 74, 3) := by decide +kernel
theorem dX8_behind_18 : decode cX8_behind 18 = .ok (.ifCond .ne 5, 3) := by decide +kernel
theorem dX8_behind_21 : decode cX8_behind 21 = .ok (.iconst (-1), 1) := by decide +kernel
theorem dX8_behind_22 : decode cX8_behind 22 = .ok (.ireturn, 1) := by decide +kernel
theorem dX8_behind_23 : decode cX8_behind 23 = .ok (.aload_n 0, 1) := by decide +kernel
theorem dX8_behind_24 : decode cX8_behind 24 = .ok (.getfield 40, 3) := by decide +kernel
theorem dX8_behind_27 : decode cX8_behind 27 = .ok (.aload_n 0, 1) := by decide +kernel
theorem dX8_behind_28 : decode cX8_behind 28 = .ok (.getfield 19, 3) := by decide +kernel
theorem dX8_behind_31 : decode cX8_behind 31 = .ok (.invokevirtual 96, 3) := by decide +kernel
theorem dX8_behind_34 : decode cX8_behind 34 = .ok (.iconst 0, 1) := by decide +kernel
theorem dX8_behind_35 : decode cX8_behind 35 = .ok (.istore_n 3, 1) := by decide +kernel
theorem dX8_behind_36 : decode cX8_behind 36 = .ok (.iload_n 3, 1) := by decide +kernel
theorem dX8_behind_37 : decode cX8_behind 37 = .ok (.iload_n 2, 1) := by decide +kernel
theorem dX8_behind_38 : decode cX8_behind 38 = .ok (.if_icmp .ge 17, 3) := by decide +kernel
theorem dX8_behind_41 : decode cX8_behind 41 = .ok (.aload_n 0, 1) := by decide +kernel
theorem dX8_behind_42 : decode cX8_behind 42 = .ok (.getfield 40, 3) := by decide +kernel
theorem dX8_behind_45 : decode cX8_behind 45 = .ok (.invokevirtual 180, 3) := by decide +kernel
theorem dX8_behind_48 : decode cX8_behind 48 = .ok (.pop, 1) := by decide +kernel
theorem dX8_behind_49 : decode cX8_behind 49 = .ok (.iinc 3 1, 3) := by decide +kernel
theorem dX8_behind_52 : decode cX8_behind 52 = .ok (.goto (-16), 3) := by decide +kernel
theorem dX8_behind_55 : decode cX8_behind 55 = .ok (.aload_n 0, 1) := by decide +kernel
theorem dX8_behind_56 : decode cX8_behind 56 = .ok (.getfield 40, 3) := by decide +kernel
theorem dX8_behind_59 : decode cX8_behind 59 = .ok (.iload_n 1, 1) := by decide +kernel
theorem dX8_behind_60 : decode cX8_behind 60 = .ok (.invokevirtual 127, 3) := by decide +kernel
theorem dX8_behind_63 : decode cX8_behind 63 = .ok (.ireturn, 1) := by decide +kernel
def X8_behind_L36 (x2 : Int32) : Nat → Int32 → Rec → Option (Rec)
  | 0, _, _ => none
  | n36 + 1, v4, Z5 => if x2 ≤ v4 then
      some Z5
    else
      (X2_passYear Z5).bind fun v8 =>
      aLet (v4 + (1 : Int32)) fun v10 =>
      X8_behind_L36 x2 n36 v10 v8.2
def X8_behind (S_now : Rec) (S_trial : Rec) (x1 : Int32) (x2 : Int32) : Option (Int32 × Rec) :=
  if (X2_hasHolder S_now x1) = 0 then
    some ((-1 : Int32), S_trial)
  else
    if (X8_within x2 (0 : Int32) (60 : Int32)) = 0 then
      some ((-1 : Int32), S_trial)
    else
      (X8_behind_L36 x2 aFu (0 : Int32) (X2_become S_trial S_now)).bind fun e11 =>
      (X2_speechOf e11 x1).bind fun v13 =>
      some (v13, e11)
set_option maxRecDepth 100000 in
set_option maxHeartbeats 4000000 in
theorem X8_behind_ok (l : Launch) {h : aH} {nx : Nat} {S_now : Rec} {S_trial : Rec} {x1 : Int32} {x2 : Int32} (hBxo : X8_at h) (hBnow : X2_at h 7 S_now) (hBtrial : X2_at h 19 S_trial) {r : Int32 × Rec} (hF : X8_behind S_now S_trial x1 x2 = some r) : aOk l 5 0 0 yX8_behind cX8_behind 4 (some .int) [.ref 4, .int x1, .int x2] h nx (aMt (some (.int r.1)) nx (fun h1 => X2_at h1 19 r.2 ∧ (∀ q, (q < 19 ∨ 19 + 8 ≤ q) → h1 q = h q))) := by
  refine aOk.of (by decide +kernel) (Nat.le_of_ble_eq_true rfl) (fun X G hX C R0 _ => ?_)
  subst hX
  show aV X G 4 0 [(0, .ref 4), (1, .int x1), (2, .int x2)] [] h nx 0 0
  have hFr : ∀ q, (q < 19 ∨ 19 + 8 ≤ q) → h q = h q := fun _ _ => rfl
  rw [X8_behind] at hF
  refine ab_aload_n C 0 rfl rfl dX8_behind_0 ?_
  refine ab_g8 (v := .ref 7) C lf_X8_19 hBxo rfl dX8_behind_1 ?_
  refine ab_iload_n C 1 rfl rfl dX8_behind_4 ?_
  refine ab_cVR (v := .int (X2_hasHolder S_now x1)) (st := []) C lm_X8_107 (X2_hasHolder_ok (xl X) hBnow (r := (X2_hasHolder S_now x1)) rfl) [.int x1] rfl hBnow.1 rfl rfl rfl (by decide) ⟨Nat.zero_le _, Nat.zero_le _⟩ (Nat.le_of_ble_eq_true rfl) dX8_behind_5 ?_
  refine ab_if_eq C 21 dX8_behind_8 (by decide) (fun c1 => ?_) (fun c1 => ?_)
  · replace hF := (if_pos c1).symm.trans hF
    refine ab_iconst (v := (-1 : Int32)) C dX8_behind_21 (by decide) ?_
    obtain rfl := Option.some.inj hF
    exact ab_iret C R0 rfl dX8_behind_22 ⟨rfl, rfl, hBtrial, hFr⟩
  · replace hF := (if_neg c1).symm.trans hF
    refine ab_iload_n C 2 rfl rfl dX8_behind_11 ?_
    refine ab_iconst (v := (0 : Int32)) C dX8_behind_12 (by decide) ?_
    refine ab_bipush (v := (60 : Int32)) C dX8_behind_13 (by decide) ?_
    refine ab_cSR (v := .int (X8_within x2 (0 : Int32) (60 : Int32))) (st := []) C lm_X8_74 (X8_within_ok (xl X) (r := (X8_within x2 (0 : Int32) (60 : Int32))) rfl) rfl rfl (by decide) ⟨Nat.zero_le _, Nat.zero_le _⟩ (Nat.le_of_ble_eq_true rfl) dX8_behind_15 ?_
    refine ab_if_ne C 23 dX8_behind_18 (by decide) (fun c2 => ?_) (fun c2 => ?_)
    · replace hF := (if_neg c2).symm.trans hF
      refine ab_aload_n C 0 rfl rfl dX8_behind_23 ?_
      refine ab_g8 (v := .ref 19) C lf_X8_40 hBxo rfl dX8_behind_24 ?_
      refine ab_aload_n C 0 rfl rfl dX8_behind_27 ?_
      refine ab_g8 (v := .ref 7) C lf_X8_19 hBxo rfl dX8_behind_28 ?_
      refine ab_cVN (st := []) C lm_X8_96 (X2_become_ok (xl X) hBtrial hBnow (by omega) (r := (X2_become S_trial S_now)) rfl) [.ref 7] rfl hBtrial.1 rfl rfl rfl (by decide) ⟨Nat.zero_le _, Nat.zero_le _⟩ (Nat.le_of_ble_eq_true rfl) dX8_behind_31 (fun g3 pg3 => ?_)
      obtain ⟨k0, Og3⟩ := pg3
      have hBtrial : X2_at g3 19 (X2_become S_trial S_now) := k0
      have hBxo : X8_at g3 := (Og3 4 (by omega)).trans hBxo
      have hBnow : X2_at g3 7 S_now := X2_off hBnow (fun q i1 i2 => Og3 q (by omega))
      have hFr : ∀ q, (q < 19 ∨ 19 + 8 ≤ q) → g3 q = h q := fun q u0 => (Og3 q (by omega)).trans (hFr q u0)
      refine ab_iconst (v := (0 : Int32)) C dX8_behind_34 (by decide) ?_
      refine ab_istore_n (lv' := [(3, .int (0 : Int32)), (0, .ref 4), (1, .int x1), (2, .int x2)]) C dX8_behind_35 rfl (by decide) rfl ?_
      have L36 : ∀ (n36 : Nat) (v4 : Int32) (Z5 : Rec) (g6 : aH), (X8_at g6) → (X2_at g6 7 S_now) → (X2_at g6 19 Z5) → (∀ q, (q < 19 ∨ 19 + 8 ≤ q) → g6 q = h q) → ∀ (res36 : Rec), X8_behind_L36 x2 n36 v4 Z5 = some res36 → (∀ (q9 : aH), (X8_at q9) → (X2_at q9 7 S_now) → (X2_at q9 19 res36) → (∀ q, (q < 19 ∨ 19 + 8 ≤ q) → q9 q = h q) → aV X G 4 55 [(0, .ref 4), (1, .int x1)] [] q9 nx 0 0) → aV X G 4 36 [(0, .ref 4), (1, .int x1), (2, .int x2), (3, .int v4)] [] g6 nx 0 0 := by
        intro n36
        induction n36 with
        | zero => intro v4 Z5 g6 hBxo hBnow hBtrial hFr res36 hF KX36; cases (show (none : Option (Rec)) = some res36 from hF)
        | succ n36 ih36 =>
          intro v4 Z5 g6 hBxo hBnow hBtrial hFr res36 hF KX36
          rw [X8_behind_L36] at hF
          refine ab_iload_n C 3 rfl rfl dX8_behind_36 ?_
          refine ab_iload_n C 2 rfl rfl dX8_behind_37 ?_
          refine ab_icmp_ge C 55 dX8_behind_38 (by decide) (fun c7 => ?_) (fun c7 => ?_)
          · replace hF := (if_pos c7).symm.trans hF
            obtain rfl := Option.some.inj hF
            refine aV.sub (lv' := [(0, .ref 4), (1, .int x1)]) [0, 1] rfl ?_
            exact KX36 g6 hBxo hBnow hBtrial hFr
          · replace hF := (if_neg c7).symm.trans hF
            refine ab_aload_n C 0 rfl rfl dX8_behind_41 ?_
            refine ab_g8 (v := .ref 19) C lf_X8_40 hBxo rfl dX8_behind_42 ?_
            obtain ⟨v8, hxv8, hF⟩ := Option.bind_eq_some_iff.mp hF
            refine ab_cVM (v := .int v8.1) (st := []) C lm_X8_180 (X2_passYear_ok (xl X) hBtrial (r := v8) hxv8) [] rfl hBtrial.1 rfl rfl rfl (by decide) ⟨Nat.zero_le _, Nat.zero_le _⟩ (Nat.le_of_ble_eq_true rfl) dX8_behind_45 (fun g9 pg9 => ?_)
            obtain ⟨k0, Og9⟩ := pg9
            have hBtrial : X2_at g9 19 v8.2 := k0
            have hBxo : X8_at g9 := (Og9 4 (by omega)).trans hBxo
            have hBnow : X2_at g9 7 S_now := X2_off hBnow (fun q i1 i2 => Og9 q (by omega))
            have hFr : ∀ q, (q < 19 ∨ 19 + 8 ≤ q) → g9 q = h q := fun q u0 => (Og9 q (by omega)).trans (hFr q u0)
            refine ab_pop C rfl dX8_behind_48 ?_
            obtain ⟨v10, qv10⟩ : ∃ y : Int32, y = (v4 + (1 : Int32)) := ⟨_, rfl⟩
            replace hF := aLet_e hF v10 qv10
            refine ab_iinc (lv' := [(3, .int v10), (0, .ref 4), (1, .int x1), (2, .int x2)]) C 3 rfl dX8_behind_49 (by rw [qv10]; rfl) (by decide) rfl ?_
            refine ab_goto C 36 dX8_behind_52 (by decide) ?_
            refine aV.sub (lv' := [(0, .ref 4), (1, .int x1), (2, .int x2), (3, .int v10)]) [1, 2, 3, 0] rfl ?_
            exact ih36 v10 v8.2 g9 hBxo hBnow hBtrial hFr res36 hF KX36
      refine aV.sub (lv' := [(0, .ref 4), (1, .int x1), (2, .int x2), (3, .int (0 : Int32))]) [1, 2, 3, 0] rfl ?_
      obtain ⟨e11, he11, hF⟩ := Option.bind_eq_some_iff.mp hF
      refine L36 aFu (0 : Int32) (X2_become S_trial S_now) g3 hBxo hBnow hBtrial hFr e11 he11 (fun g12 hBxo hBnow hBtrial hFr => ?_)
      refine ab_aload_n C 0 rfl rfl dX8_behind_55 ?_
      refine ab_g8 (v := .ref 19) C lf_X8_40 hBxo rfl dX8_behind_56 ?_
      refine ab_iload_n C 1 rfl rfl dX8_behind_59 ?_
      obtain ⟨v13, hxv13, hF⟩ := Option.bind_eq_some_iff.mp hF
      refine ab_cVR (v := .int v13) (st := []) C lm_X8_127 (X2_speechOf_ok (xl X) hBtrial (r := v13) hxv13) [.int x1] rfl hBtrial.1 rfl rfl rfl (by decide) ⟨Nat.zero_le _, Nat.zero_le _⟩ (Nat.le_of_ble_eq_true rfl) dX8_behind_60 ?_
      obtain rfl := Option.some.inj hF
      exact ab_iret C R0 rfl dX8_behind_63 ⟨rfl, rfl, hBtrial, hFr⟩
    · replace hF := (if_pos c2).symm.trans hF
      refine ab_iconst (v := (-1 : Int32)) C dX8_behind_21 (by decide) ?_
      obtain rfl := Option.some.inj hF
      exact ab_iret C R0 rfl dX8_behind_22 ⟨rfl, rfl, hBtrial, hFr⟩
theorem dX8_first_0 : decode cX8_first 0 = .ok (.aload_n 0, 1) := by decide +kernel
theorem dX8_first_1 : decode cX8_first 1 = .ok (.getfield 19, 3) := by decide +kernel
theorem dX8_first_4 : decode cX8_first 4 = .ok (.iload_n 1, 1) := by decide +kernel
theorem dX8_first_5 : decode cX8_first 5 = .ok (.invokevirtual 107, 3) := by decide +kernel
theorem dX8_first_8 : decode cX8_first 8 = .ok (.ifCond .eq 14, 3) := by decide +kernel
theorem dX8_first_11 : decode cX8_first 11 = .ok (.aload_n 0, 1) := by decide +kernel
theorem dX8_first_12 : decode cX8_first 12 = .ok (.getfield 19, 3) := by decide +kernel
theorem dX8_first_15 : decode cX8_first 15 = .ok (.iload_n 2, 1) := by decide +kernel
theorem dX8_first_16 : decode cX8_first 16 = .ok (.invokevirtual 147, 3) := by decide +kernel
theorem dX8_first_19 : decode cX8_first 19 = .ok (.ifCond .ne 5, 3) := by decide +kernel
theorem dX8_first_22 : decode cX8_first 22 = .ok (.iconst (-1), 1) := by decide +kernel
theorem dX8_first_23 : decode cX8_first 23 = .ok (.ireturn, 1) := by decide +kernel
theorem dX8_first_24 : decode cX8_first 24 = .ok (.aload_n 0, 1) := by decide +kernel
theorem dX8_first_25 : decode cX8_first 25 = .ok (.getfield 40, 3) := by decide +kernel
theorem dX8_first_28 : decode cX8_first 28 = .ok (.aload_n 0, 1) := by decide +kernel
theorem dX8_first_29 : decode cX8_first 29 = .ok (.getfield 19, 3) := by decide +kernel
theorem dX8_first_32 : decode cX8_first 32 = .ok (.invokevirtual 96, 3) := by decide +kernel
theorem dX8_first_35 : decode cX8_first 35 = .ok (.iconst 0, 1) := by decide +kernel
theorem dX8_first_36 : decode cX8_first 36 = .ok (.istore_n 3, 1) := by decide +kernel
theorem dX8_first_37 : decode cX8_first 37 = .ok (.iload_n 3, 1) := by decide +kernel
theorem dX8_first_38 : decode cX8_first 38 = .ok (.bipush 60, 2) := by decide +kernel
theorem dX8_first_40 : decode cX8_first 40 = .ok (.if_icmp .gt 42, 3) := by decide +kernel
theorem dX8_first_43 : decode cX8_first 43 = .ok (.aload_n 0, 1) := by decide +kernel
theorem dX8_first_44 : decode cX8_first 44 = .ok (.getfield 40, 3) := by decide +kernel
theorem dX8_first_47 : decode cX8_first 47 = .ok (.iload_n 1, 1) := by decide +kernel
theorem dX8_first_48 : decode cX8_first 48 = .ok (.invokevirtual 127, 3) := by decide +kernel
theorem dX8_first_51 : decode cX8_first 51 = .ok (.aload_n 0, 1) := by decide +kernel
theorem dX8_first_52 : decode cX8_first 52 = .ok (.getfield 40, 3) := by decide +kernel
theorem dX8_first_55 : decode cX8_first 55 = .ok (.getfield 153, 3) := by decide +kernel
theorem dX8_first_58 : decode cX8_first 58 = .ok (.iload_n 2, 1) := by decide +kernel
theorem dX8_first_59 : decode cX8_first 59 = .ok (.iaload, 1) := by decide +kernel
theorem dX8_first_60 : decode cX8_first 60 = .ok (.invokestatic 187, 3) := by decide +kernel
theorem dX8_first_63 : decode cX8_first 63 = .ok (.ifCond .eq 5, 3) := by decide +kernel
theorem dX8_first_66 : decode cX8_first 66 = .ok (.iload_n 3, 1) := by decide +kernel
theorem dX8_first_67 : decode cX8_first 67 = .ok (.ireturn, 1) := by decide +kernel
theorem dX8_first_68 : decode cX8_first 68 = .ok (.aload_n 0, 1) := by decide +kernel
theorem dX8_first_69 : decode cX8_first 69 = .ok (.getfield 40, 3) := by decide +kernel
theorem dX8_first_72 : decode cX8_first 72 = .ok (.invokevirtual 180, 3) := by decide +kernel
theorem dX8_first_75 : decode cX8_first 75 = .ok (.pop, 1) := by decide +kernel
theorem dX8_first_76 : decode cX8_first 76 = .ok (.iinc 3 1, 3) := by decide +kernel
theorem dX8_first_79 : decode cX8_first 79 = .ok (.goto (-42), 3) := by decide +kernel
theorem dX8_first_82 : decode cX8_first 82 = .ok (.bipush (-4), 2) := by decide +kernel
theorem dX8_first_84 : decode cX8_first 84 = .ok (.ireturn, 1) := by decide +kernel
def X8_first_L37 (x1 : Int32) (x2 : Int32) : Nat → Int32 → Rec → Option ((Int32 × Rec) ⊕ (Rec))
  | 0, _, _ => none
  | n37 + 1, v4, Z5 => if (60 : Int32) < v4 then
      some (.inr Z5)
    else
      (X2_speechOf Z5 x1).bind fun v8 =>
      (rdI (Z5.2.1 6) 4 x2).bind fun v9 =>
      if (X8_covers v8 v9) = 0 then
        (X2_passYear Z5).bind fun v11 =>
        aLet (v4 + (1 : Int32)) fun v13 =>
        X8_first_L37 x1 x2 n37 v13 v11.2
      else
        some (.inl (v4, Z5))
def X8_first (S_now : Rec) (S_trial : Rec) (x1 : Int32) (x2 : Int32) : Option (Int32 × Rec) :=
  if (X2_hasHolder S_now x1) = 0 then
    some ((-1 : Int32), S_trial)
  else
    if (X2_hasWord S_now x2) = 0 then
      some ((-1 : Int32), S_trial)
    else
      (X8_first_L37 x1 x2 aFu (0 : Int32) (X2_become S_trial S_now)).bind fun e14 =>
      aCs e14 (fun t17 => some t17) (fun s16 =>
        some ((-4 : Int32), s16))
set_option maxRecDepth 100000 in
set_option maxHeartbeats 4000000 in
theorem X8_first_ok (l : Launch) {h : aH} {nx : Nat} {S_now : Rec} {S_trial : Rec} {x1 : Int32} {x2 : Int32} (hBxo : X8_at h) (hBnow : X2_at h 7 S_now) (hBtrial : X2_at h 19 S_trial) {r : Int32 × Rec} (hF : X8_first S_now S_trial x1 x2 = some r) : aOk l 5 0 0 yX8_first cX8_first 4 (some .int) [.ref 4, .int x1, .int x2] h nx (aMt (some (.int r.1)) nx (fun h1 => X2_at h1 19 r.2 ∧ (∀ q, (q < 19 ∨ 19 + 8 ≤ q) → h1 q = h q))) := by
  refine aOk.of (by decide +kernel) (Nat.le_of_ble_eq_true rfl) (fun X G hX C R0 _ => ?_)
  subst hX
  show aV X G 4 0 [(0, .ref 4), (1, .int x1), (2, .int x2)] [] h nx 0 0
  have hFr : ∀ q, (q < 19 ∨ 19 + 8 ≤ q) → h q = h q := fun _ _ => rfl
  rw [X8_first] at hF
  refine ab_aload_n C 0 rfl rfl dX8_first_0 ?_
  refine ab_g8 (v := .ref 7) C lf_X8_19 hBxo rfl dX8_first_1 ?_
  refine ab_iload_n C 1 rfl rfl dX8_first_4 ?_
  refine ab_cVR (v := .int (X2_hasHolder S_now x1)) (st := []) C lm_X8_107 (X2_hasHolder_ok (xl X) hBnow (r := (X2_hasHolder S_now x1)) rfl) [.int x1] rfl hBnow.1 rfl rfl rfl (by decide) ⟨Nat.zero_le _, Nat.zero_le _⟩ (Nat.le_of_ble_eq_true rfl) dX8_first_5 ?_
  refine ab_if_eq C 22 dX8_first_8 (by decide) (fun c1 => ?_) (fun c1 => ?_)
  · replace hF := (if_pos c1).symm.trans hF
    refine ab_iconst (v := (-1 : Int32)) C dX8_first_22 (by decide) ?_
    obtain rfl := Option.some.inj hF
    exact ab_iret C R0 rfl dX8_first_23 ⟨rfl, rfl, hBtrial, hFr⟩
  · replace hF := (if_neg c1).symm.trans hF
    refine ab_aload_n C 0 rfl rfl dX8_first_11 ?_
    refine ab_g8 (v := .ref 7) C lf_X8_19 hBxo rfl dX8_first_12 ?_
    refine ab_iload_n C 2 rfl rfl dX8_first_15 ?_
    refine ab_cVR (v := .int (X2_hasWord S_now x2)) (st := []) C lm_X8_147 (X2_hasWord_ok (xl X) hBnow (r := (X2_hasWord S_now x2)) rfl) [.int x2] rfl hBnow.1 rfl rfl rfl (by decide) ⟨Nat.zero_le _, Nat.zero_le _⟩ (Nat.le_of_ble_eq_true rfl) dX8_first_16 ?_
    refine ab_if_ne C 24 dX8_first_19 (by decide) (fun c2 => ?_) (fun c2 => ?_)
    · replace hF := (if_neg c2).symm.trans hF
      refine ab_aload_n C 0 rfl rfl dX8_first_24 ?_
      refine ab_g8 (v := .ref 19) C lf_X8_40 hBxo rfl dX8_first_25 ?_
      refine ab_aload_n C 0 rfl rfl dX8_first_28 ?_
      refine ab_g8 (v := .ref 7) C lf_X8_19 hBxo rfl dX8_first_29 ?_
      refine ab_cVN (st := []) C lm_X8_96 (X2_become_ok (xl X) hBtrial hBnow (by omega) (r := (X2_become S_trial S_now)) rfl) [.ref 7] rfl hBtrial.1 rfl rfl rfl (by decide) ⟨Nat.zero_le _, Nat.zero_le _⟩ (Nat.le_of_ble_eq_true rfl) dX8_first_32 (fun g3 pg3 => ?_)
      obtain ⟨k0, Og3⟩ := pg3
      have hBtrial : X2_at g3 19 (X2_become S_trial S_now) := k0
      have hBxo : X8_at g3 := (Og3 4 (by omega)).trans hBxo
      have hBnow : X2_at g3 7 S_now := X2_off hBnow (fun q i1 i2 => Og3 q (by omega))
      have hFr : ∀ q, (q < 19 ∨ 19 + 8 ≤ q) → g3 q = h q := fun q u0 => (Og3 q (by omega)).trans (hFr q u0)
      refine ab_iconst (v := (0 : Int32)) C dX8_first_35 (by decide) ?_
      refine ab_istore_n (lv' := [(3, .int (0 : Int32)), (0, .ref 4), (1, .int x1), (2, .int x2)]) C dX8_first_36 rfl (by decide) rfl ?_
      have L37 : ∀ (n37 : Nat) (v4 : Int32) (Z5 : Rec) (g6 : aH), (X8_at g6) → (X2_at g6 7 S_now) → (X2_at g6 19 Z5) → (∀ q, (q < 19 ∨ 19 + 8 ≤ q) → g6 q = h q) → ∀ (res37 : (Int32 × Rec) ⊕ (Rec)), X8_first_L37 x1 x2 n37 v4 Z5 = some res37 → (∀ (s : Rec) (q9 : aH), (X8_at q9) → (X2_at q9 7 S_now) → (X2_at q9 19 s) → (∀ q, (q < 19 ∨ 19 + 8 ≤ q) → q9 q = h q) → res37 = .inr s → aV X G 4 82 [] [] q9 nx 0 0) → (∀ (t : Int32 × Rec) (q9 : aH), (X8_at q9) → (X2_at q9 7 S_now) → (X2_at q9 19 t.2) → (∀ q, (q < 19 ∨ 19 + 8 ≤ q) → q9 q = h q) → res37 = .inl t → (aMt (some (.int r.1)) nx (fun h1 => X2_at h1 19 r.2 ∧ (∀ q, (q < 19 ∨ 19 + 8 ≤ q) → h1 q = h q))) (some (.int t.1)) q9 nx) → aV X G 4 37 [(0, .ref 4), (1, .int x1), (2, .int x2), (3, .int v4)] [] g6 nx 0 0 := by
        intro n37
        induction n37 with
        | zero => intro v4 Z5 g6 hBxo hBnow hBtrial hFr res37 hF KX37 KR37; cases (show (none : Option ((Int32 × Rec) ⊕ (Rec))) = some res37 from hF)
        | succ n37 ih37 =>
          intro v4 Z5 g6 hBxo hBnow hBtrial hFr res37 hF KX37 KR37
          rw [X8_first_L37] at hF
          refine ab_iload_n C 3 rfl rfl dX8_first_37 ?_
          refine ab_bipush (v := (60 : Int32)) C dX8_first_38 (by decide) ?_
          refine ab_icmp_gt C 82 dX8_first_40 (by decide) (fun c7 => ?_) (fun c7 => ?_)
          · replace hF := (if_pos c7).symm.trans hF
            obtain rfl := Option.some.inj hF
            refine aV.sub (lv' := []) [] rfl ?_
            exact KX37 Z5 g6 hBxo hBnow hBtrial hFr rfl
          · replace hF := (if_neg c7).symm.trans hF
            refine ab_aload_n C 0 rfl rfl dX8_first_43 ?_
            refine ab_g8 (v := .ref 19) C lf_X8_40 hBxo rfl dX8_first_44 ?_
            refine ab_iload_n C 1 rfl rfl dX8_first_47 ?_
            obtain ⟨v8, hxv8, hF⟩ := Option.bind_eq_some_iff.mp hF
            refine ab_cVR (v := .int v8) (st := []) C lm_X8_127 (X2_speechOf_ok (xl X) hBtrial (r := v8) hxv8) [.int x1] rfl hBtrial.1 rfl rfl rfl (by decide) ⟨Nat.zero_le _, Nat.zero_le _⟩ (Nat.le_of_ble_eq_true rfl) dX8_first_48 ?_
            refine ab_aload_n C 0 rfl rfl dX8_first_51 ?_
            refine ab_g8 (v := .ref 19) C lf_X8_40 hBxo rfl dX8_first_52 ?_
            refine ab_g2 (v := .ref (19 + 3)) C lf_X8_153 hBtrial.1 rfl dX8_first_55 ?_
            refine ab_iload_n C 2 rfl rfl dX8_first_58 ?_
            obtain ⟨v9, hxv9, hF⟩ := Option.bind_eq_some_iff.mp hF
            refine ab_iald C (X2_r6 hBtrial) hxv9 dX8_first_59 ?_
            refine ab_cSR (v := .int (X8_covers v8 v9)) (st := []) C lm_X8_187 (X8_covers_ok (xl X) (r := (X8_covers v8 v9)) rfl) rfl rfl (by decide) ⟨Nat.zero_le _, Nat.zero_le _⟩ (Nat.le_of_ble_eq_true rfl) dX8_first_60 ?_
            refine ab_if_eq C 68 dX8_first_63 (by decide) (fun c10 => ?_) (fun c10 => ?_)
            · replace hF := (if_pos c10).symm.trans hF
              refine ab_aload_n C 0 rfl rfl dX8_first_68 ?_
              refine ab_g8 (v := .ref 19) C lf_X8_40 hBxo rfl dX8_first_69 ?_
              obtain ⟨v11, hxv11, hF⟩ := Option.bind_eq_some_iff.mp hF
              refine ab_cVM (v := .int v11.1) (st := []) C lm_X8_180 (X2_passYear_ok (xl X) hBtrial (r := v11) hxv11) [] rfl hBtrial.1 rfl rfl rfl (by decide) ⟨Nat.zero_le _, Nat.zero_le _⟩ (Nat.le_of_ble_eq_true rfl) dX8_first_72 (fun g12 pg12 => ?_)
              obtain ⟨k0, Og12⟩ := pg12
              have hBtrial : X2_at g12 19 v11.2 := k0
              have hBxo : X8_at g12 := (Og12 4 (by omega)).trans hBxo
              have hBnow : X2_at g12 7 S_now := X2_off hBnow (fun q i1 i2 => Og12 q (by omega))
              have hFr : ∀ q, (q < 19 ∨ 19 + 8 ≤ q) → g12 q = h q := fun q u0 => (Og12 q (by omega)).trans (hFr q u0)
              refine ab_pop C rfl dX8_first_75 ?_
              obtain ⟨v13, qv13⟩ : ∃ y : Int32, y = (v4 + (1 : Int32)) := ⟨_, rfl⟩
              replace hF := aLet_e hF v13 qv13
              refine ab_iinc (lv' := [(3, .int v13), (0, .ref 4), (1, .int x1), (2, .int x2)]) C 3 rfl dX8_first_76 (by rw [qv13]; rfl) (by decide) rfl ?_
              refine ab_goto C 37 dX8_first_79 (by decide) ?_
              refine aV.sub (lv' := [(0, .ref 4), (1, .int x1), (2, .int x2), (3, .int v13)]) [1, 2, 3, 0] rfl ?_
              exact ih37 v13 v11.2 g12 hBxo hBnow hBtrial hFr res37 hF KX37 KR37
            · replace hF := (if_neg c10).symm.trans hF
              refine ab_iload_n C 3 rfl rfl dX8_first_66 ?_
              obtain rfl := Option.some.inj hF
              exact ab_iret C R0 rfl dX8_first_67 (KR37 (v4, Z5) g6 hBxo hBnow hBtrial hFr rfl)
      refine aV.sub (lv' := [(0, .ref 4), (1, .int x1), (2, .int x2), (3, .int (0 : Int32))]) [1, 2, 3, 0] rfl ?_
      obtain ⟨e14, he14, hF⟩ := Option.bind_eq_some_iff.mp hF
      refine L37 aFu (0 : Int32) (X2_become S_trial S_now) g3 hBxo hBnow hBtrial hFr e14 he14 (fun s16 g15 hBxo hBnow hBtrial hFr eqs16 => ?_) (fun t17 g18 hBxo hBnow hBtrial hFr eqt17 => ?_)
      · subst eqs16
        replace hF := aCs_r hF
        refine ab_bipush (v := (-4 : Int32)) C dX8_first_82 (by decide) ?_
        obtain rfl := Option.some.inj hF
        exact ab_iret C R0 rfl dX8_first_84 ⟨rfl, rfl, hBtrial, hFr⟩
      · subst eqt17
        replace hF := aCs_l hF
        obtain rfl := Option.some.inj hF
        exact ⟨rfl, rfl, hBtrial, hFr⟩
    · replace hF := (if_pos c2).symm.trans hF
      refine ab_iconst (v := (-1 : Int32)) C dX8_first_22 (by decide) ?_
      obtain rfl := Option.some.inj hF
      exact ab_iret C R0 rfl dX8_first_23 ⟨rfl, rfl, hBtrial, hFr⟩
theorem dX8_yearThatSoundsSo_0 : decode cX8_yearThatSoundsSo 0 = .ok (.aload_n 0, 1) := by decide +kernel
theorem dX8_yearThatSoundsSo_1 : decode cX8_yearThatSoundsSo 1 = .ok (.getfield 43, 3) := by decide +kernel
theorem dX8_yearThatSoundsSo_4 : decode cX8_yearThatSoundsSo 4 = .ok (.aload_n 0, 1) := by decide +kernel
theorem dX8_yearThatSoundsSo_5 : decode cX8_yearThatSoundsSo 5 = .ok (.getfield 19, 3) := by decide +kernel
theorem dX8_yearThatSoundsSo_8 : decode cX8_yearThatSoundsSo 8 = .ok (.invokevirtual 96, 3) := by decide +kernel
theorem dX8_yearThatSoundsSo_11 : decode cX8_yearThatSoundsSo 11 = .ok (.iconst 0, 1) := by decide +kernel
theorem dX8_yearThatSoundsSo_12 : decode cX8_yearThatSoundsSo 12 = .ok (.istore_n 2, 1) := by decide +kernel
theorem dX8_yearThatSoundsSo_13 : decode cX8_yearThatSoundsSo 13 = .ok (.iload_n 2, 1) := by decide +kernel
theorem dX8_yearThatSoundsSo_14 : decode cX8_yearThatSoundsSo 14 = .ok (.iload_n 1, 1) := by decide +kernel
theorem dX8_yearThatSoundsSo_15 : decode cX8_yearThatSoundsSo 15 = .ok (.if_icmp .ge 33, 3) := by decide +kernel
theorem dX8_yearThatSoundsSo_18 : decode cX8_yearThatSoundsSo 18 = .ok (.aload_n 0, 1) := by decide +kernel
theorem dX8_yearThatSoundsSo_19 : decode cX8_yearThatSoundsSo 19 = .ok (.getfield 43, 3) := by decide +kernel
theorem dX8_yearThatSoundsSo_22 : decode cX8_yearThatSoundsSo 22 = .ok (.aload_n 0, 1) := by decide +kernel
theorem dX8_yearThatSoundsSo_23 : decode cX8_yearThatSoundsSo 23 = .ok (.getfield 40, 3) := by decide +kernel
theorem dX8_yearThatSoundsSo_26 : decode cX8_yearThatSoundsSo 26 = .ok (.invokevirtual 337, 3) := by decide +kernel
theorem dX8_yearThatSoundsSo_29 : decode cX8_yearThatSoundsSo 29 = .ok (.ifCond .eq 5, 3) := by decide +kernel
theorem dX8_yearThatSoundsSo_32 : decode cX8_yearThatSoundsSo 32 = .ok (.iload_n 2, 1) := by decide +kernel
theorem dX8_yearThatSoundsSo_33 : decode cX8_yearThatSoundsSo 33 = .ok (.ireturn, 1) := by decide +kernel
theorem dX8_yearThatSoundsSo_34 : decode cX8_yearThatSoundsSo 34 = .ok (.aload_n 0, 1) := by decide +kernel
theorem dX8_yearThatSoundsSo_35 : decode cX8_yearThatSoundsSo 35 = .ok (.getfield 43, 3) := by decide +kernel
theorem dX8_yearThatSoundsSo_38 : decode cX8_yearThatSoundsSo 38 = .ok (.invokevirtual 180, 3) := by decide +kernel
theorem dX8_yearThatSoundsSo_41 : decode cX8_yearThatSoundsSo 41 = .ok (.pop, 1) := by decide +kernel
theorem dX8_yearThatSoundsSo_42 : decode cX8_yearThatSoundsSo 42 = .ok (.iinc 2 1, 3) := by decide +kernel
theorem dX8_yearThatSoundsSo_45 : decode cX8_yearThatSoundsSo 45 = .ok (.goto (-32), 3) := by decide +kernel
theorem dX8_yearThatSoundsSo_48 : decode cX8_yearThatSoundsSo 48 = .ok (.iconst (-1), 1) := by decide +kernel
theorem dX8_yearThatSoundsSo_49 : decode cX8_yearThatSoundsSo 49 = .ok (.ireturn, 1) := by decide +kernel
def X8_yearThatSoundsSo_L13 (x1 : Int32) (S_trial : Rec) : Nat → Int32 → Rec → Option ((Int32 × Rec) ⊕ (Rec))
  | 0, _, _ => none
  | n13 + 1, v2, Z3 => if x1 ≤ v2 then
      some (.inr Z3)
    else
      (X2_soundsLike Z3 S_trial).bind fun v6 =>
      if v6 = 0 then
        (X2_passYear Z3).bind fun v8 =>
        aLet (v2 + (1 : Int32)) fun v10 =>
        X8_yearThatSoundsSo_L13 x1 S_trial n13 v10 v8.2
      else
        some (.inl (v2, Z3))
def X8_yearThatSoundsSo (S_earlier : Rec) (S_now : Rec) (S_trial : Rec) (x1 : Int32) : Option (Int32 × Rec) :=
  (X8_yearThatSoundsSo_L13 x1 S_trial aFu (0 : Int32) (X2_become S_earlier S_now)).bind fun e11 =>
  aCs e11 (fun t14 => some t14) (fun s13 =>
    some ((-1 : Int32), s13))
set_option maxRecDepth 100000 in
set_option maxHeartbeats 4000000 in
theorem X8_yearThatSoundsSo_ok (l : Launch) {h : aH} {nx : Nat} {S_earlier : Rec} {S_now : Rec} {S_trial : Rec} {x1 : Int32} (hBxo : X8_at h) (hBearlier : X2_at h 27 S_earlier) (hBnow : X2_at h 7 S_now) (hBtrial : X2_at h 19 S_trial) {r : Int32 × Rec} (hF : X8_yearThatSoundsSo S_earlier S_now S_trial x1 = some r) : aOk l 2 0 0 yX8_yearThatSoundsSo cX8_yearThatSoundsSo 3 (some .int) [.ref 4, .int x1] h nx (aMt (some (.int r.1)) nx (fun h1 => X2_at h1 27 r.2 ∧ (∀ q, (q < 27 ∨ 27 + 8 ≤ q) → h1 q = h q))) := by
  refine aOk.of (by decide +kernel) (Nat.le_of_ble_eq_true rfl) (fun X G hX C R0 _ => ?_)
  subst hX
  show aV X G 3 0 [(0, .ref 4), (1, .int x1)] [] h nx 0 0
  have hFr : ∀ q, (q < 27 ∨ 27 + 8 ≤ q) → h q = h q := fun _ _ => rfl
  rw [X8_yearThatSoundsSo] at hF
  refine ab_aload_n C 0 rfl rfl dX8_yearThatSoundsSo_0 ?_
  refine ab_g8 (v := .ref 27) C lf_X8_43 hBxo rfl dX8_yearThatSoundsSo_1 ?_
  refine ab_aload_n C 0 rfl rfl dX8_yearThatSoundsSo_4 ?_
  refine ab_g8 (v := .ref 7) C lf_X8_19 hBxo rfl dX8_yearThatSoundsSo_5 ?_
  refine ab_cVN (st := []) C lm_X8_96 (X2_become_ok (xl X) hBearlier hBnow (by omega) (r := (X2_become S_earlier S_now)) rfl) [.ref 7] rfl hBearlier.1 rfl rfl rfl (by decide) ⟨Nat.zero_le _, Nat.zero_le _⟩ (Nat.le_of_ble_eq_true rfl) dX8_yearThatSoundsSo_8 (fun g1 pg1 => ?_)
  obtain ⟨k0, Og1⟩ := pg1
  have hBearlier : X2_at g1 27 (X2_become S_earlier S_now) := k0
  have hBxo : X8_at g1 := (Og1 4 (by omega)).trans hBxo
  have hBnow : X2_at g1 7 S_now := X2_off hBnow (fun q i1 i2 => Og1 q (by omega))
  have hBtrial : X2_at g1 19 S_trial := X2_off hBtrial (fun q i1 i2 => Og1 q (by omega))
  have hFr : ∀ q, (q < 27 ∨ 27 + 8 ≤ q) → g1 q = h q := fun q u0 => (Og1 q (by omega)).trans (hFr q u0)
  refine ab_iconst (v := (0 : Int32)) C dX8_yearThatSoundsSo_11 (by decide) ?_
  refine ab_istore_n (lv' := [(2, .int (0 : Int32)), (0, .ref 4), (1, .int x1)]) C dX8_yearThatSoundsSo_12 rfl (by decide) rfl ?_
  have L13 : ∀ (n13 : Nat) (v2 : Int32) (Z3 : Rec) (g4 : aH), (X8_at g4) → (X2_at g4 27 Z3) → (X2_at g4 7 S_now) → (X2_at g4 19 S_trial) → (∀ q, (q < 27 ∨ 27 + 8 ≤ q) → g4 q = h q) → ∀ (res13 : (Int32 × Rec) ⊕ (Rec)), X8_yearThatSoundsSo_L13 x1 S_trial n13 v2 Z3 = some res13 → (∀ (s : Rec) (q9 : aH), (X8_at q9) → (X2_at q9 27 s) → (X2_at q9 7 S_now) → (X2_at q9 19 S_trial) → (∀ q, (q < 27 ∨ 27 + 8 ≤ q) → q9 q = h q) → res13 = .inr s → aV X G 3 48 [] [] q9 nx 0 0) → (∀ (t : Int32 × Rec) (q9 : aH), (X8_at q9) → (X2_at q9 27 t.2) → (X2_at q9 7 S_now) → (X2_at q9 19 S_trial) → (∀ q, (q < 27 ∨ 27 + 8 ≤ q) → q9 q = h q) → res13 = .inl t → (aMt (some (.int r.1)) nx (fun h1 => X2_at h1 27 r.2 ∧ (∀ q, (q < 27 ∨ 27 + 8 ≤ q) → h1 q = h q))) (some (.int t.1)) q9 nx) → aV X G 3 13 [(0, .ref 4), (1, .int x1), (2, .int v2)] [] g4 nx 0 0 := by
    intro n13
    induction n13 with
    | zero => intro v2 Z3 g4 hBxo hBearlier hBnow hBtrial hFr res13 hF KX13 KR13; cases (show (none : Option ((Int32 × Rec) ⊕ (Rec))) = some res13 from hF)
    | succ n13 ih13 =>
      intro v2 Z3 g4 hBxo hBearlier hBnow hBtrial hFr res13 hF KX13 KR13
      rw [X8_yearThatSoundsSo_L13] at hF
      refine ab_iload_n C 2 rfl rfl dX8_yearThatSoundsSo_13 ?_
      refine ab_iload_n C 1 rfl rfl dX8_yearThatSoundsSo_14 ?_
      refine ab_icmp_ge C 48 dX8_yearThatSoundsSo_15 (by decide) (fun c5 => ?_) (fun c5 => ?_)
      · replace hF := (if_pos c5).symm.trans hF
        obtain rfl := Option.some.inj hF
        refine aV.sub (lv' := []) [] rfl ?_
        exact KX13 Z3 g4 hBxo hBearlier hBnow hBtrial hFr rfl
      · replace hF := (if_neg c5).symm.trans hF
        refine ab_aload_n C 0 rfl rfl dX8_yearThatSoundsSo_18 ?_
        refine ab_g8 (v := .ref 27) C lf_X8_43 hBxo rfl dX8_yearThatSoundsSo_19 ?_
        refine ab_aload_n C 0 rfl rfl dX8_yearThatSoundsSo_22 ?_
        refine ab_g8 (v := .ref 19) C lf_X8_40 hBxo rfl dX8_yearThatSoundsSo_23 ?_
        obtain ⟨v6, hxv6, hF⟩ := Option.bind_eq_some_iff.mp hF
        refine ab_cVR (v := .int v6) (st := []) C lm_X8_337 (X2_soundsLike_ok (xl X) hBearlier hBtrial (r := v6) hxv6) [.ref 19] rfl hBearlier.1 rfl rfl rfl (by decide) ⟨Nat.zero_le _, Nat.zero_le _⟩ (Nat.le_of_ble_eq_true rfl) dX8_yearThatSoundsSo_26 ?_
        refine ab_if_eq C 34 dX8_yearThatSoundsSo_29 (by decide) (fun c7 => ?_) (fun c7 => ?_)
        · replace hF := (if_pos c7).symm.trans hF
          refine ab_aload_n C 0 rfl rfl dX8_yearThatSoundsSo_34 ?_
          refine ab_g8 (v := .ref 27) C lf_X8_43 hBxo rfl dX8_yearThatSoundsSo_35 ?_
          obtain ⟨v8, hxv8, hF⟩ := Option.bind_eq_some_iff.mp hF
          refine ab_cVM (v := .int v8.1) (st := []) C lm_X8_180 (X2_passYear_ok (xl X) hBearlier (r := v8) hxv8) [] rfl hBearlier.1 rfl rfl rfl (by decide) ⟨Nat.zero_le _, Nat.zero_le _⟩ (Nat.le_of_ble_eq_true rfl) dX8_yearThatSoundsSo_38 (fun g9 pg9 => ?_)
          obtain ⟨k0, Og9⟩ := pg9
          have hBearlier : X2_at g9 27 v8.2 := k0
          have hBxo : X8_at g9 := (Og9 4 (by omega)).trans hBxo
          have hBnow : X2_at g9 7 S_now := X2_off hBnow (fun q i1 i2 => Og9 q (by omega))
          have hBtrial : X2_at g9 19 S_trial := X2_off hBtrial (fun q i1 i2 => Og9 q (by omega))
          have hFr : ∀ q, (q < 27 ∨ 27 + 8 ≤ q) → g9 q = h q := fun q u0 => (Og9 q (by omega)).trans (hFr q u0)
          refine ab_pop C rfl dX8_yearThatSoundsSo_41 ?_
          obtain ⟨v10, qv10⟩ : ∃ y : Int32, y = (v2 + (1 : Int32)) := ⟨_, rfl⟩
          replace hF := aLet_e hF v10 qv10
          refine ab_iinc (lv' := [(2, .int v10), (0, .ref 4), (1, .int x1)]) C 2 rfl dX8_yearThatSoundsSo_42 (by rw [qv10]; rfl) (by decide) rfl ?_
          refine ab_goto C 13 dX8_yearThatSoundsSo_45 (by decide) ?_
          refine aV.sub (lv' := [(0, .ref 4), (1, .int x1), (2, .int v10)]) [1, 2, 0] rfl ?_
          exact ih13 v10 v8.2 g9 hBxo hBearlier hBnow hBtrial hFr res13 hF KX13 KR13
        · replace hF := (if_neg c7).symm.trans hF
          refine ab_iload_n C 2 rfl rfl dX8_yearThatSoundsSo_32 ?_
          obtain rfl := Option.some.inj hF
          exact ab_iret C R0 rfl dX8_yearThatSoundsSo_33 (KR13 (v2, Z3) g4 hBxo hBearlier hBnow hBtrial hFr rfl)
  refine aV.sub (lv' := [(0, .ref 4), (1, .int x1), (2, .int (0 : Int32))]) [1, 2, 0] rfl ?_
  obtain ⟨e11, he11, hF⟩ := Option.bind_eq_some_iff.mp hF
  refine L13 aFu (0 : Int32) (X2_become S_earlier S_now) g1 hBxo hBearlier hBnow hBtrial hFr e11 he11 (fun s13 g12 hBxo hBearlier hBnow hBtrial hFr eqs13 => ?_) (fun t14 g15 hBxo hBearlier hBnow hBtrial hFr eqt14 => ?_)
  · subst eqs13
    replace hF := aCs_r hF
    refine ab_iconst (v := (-1 : Int32)) C dX8_yearThatSoundsSo_48 (by decide) ?_
    obtain rfl := Option.some.inj hF
    exact ab_iret C R0 rfl dX8_yearThatSoundsSo_49 ⟨rfl, rfl, hBearlier, hFr⟩
  · subst eqt14
    replace hF := aCs_l hF
    obtain rfl := Option.some.inj hF
    exact ⟨rfl, rfl, hBearlier, hFr⟩
theorem dX8_round_0 : decode cX8_round 0 = .ok (.iload_n 1, 1) := by decide +kernel
theorem dX8_round_1 : decode cX8_round 1 = .ok (.iconst 0, 1) := by decide +kernel
theorem dX8_round_2 : decode cX8_round 2 = .ok (.iconst 1, 1) := by decide +kernel
theorem dX8_round_3 : decode cX8_round 3 = .ok (.invokestatic 74, 3) := by decide +kernel
theorem dX8_round_6 : decode cX8_round 6 = .ok (.ifCond .ne 5, 3) := by decide +kernel
theorem dX8_round_9 : decode cX8_round 9 = .ok (.iconst (-1), 1) := by decide +kernel
theorem dX8_round_10 : decode cX8_round 10 = .ok (.ireturn, 1) := by decide +kernel
theorem dX8_round_11 : decode cX8_round 11 = .ok (.aload_n 0, 1) := by decide +kernel
theorem dX8_round_12 : decode cX8_round 12 = .ok (.getfield 19, 3) := by decide +kernel
theorem dX8_round_15 : decode cX8_round 15 = .ok (.invokevirtual 173, 3) := by decide +kernel
theorem dX8_round_18 : decode cX8_round 18 = .ok (.ifCond .ne 6, 3) := by decide +kernel
theorem dX8_round_21 : decode cX8_round 21 = .ok (.bipush (-2), 2) := by decide +kernel
theorem dX8_round_23 : decode cX8_round 23 = .ok (.ireturn, 1) := by decide +kernel
theorem dX8_round_24 : decode cX8_round 24 = .ok (.aload_n 0, 1) := by decide +kernel
theorem dX8_round_25 : decode cX8_round 25 = .ok (.getfield 40, 3) := by decide +kernel
theorem dX8_round_28 : decode cX8_round 28 = .ok (.aload_n 0, 1) := by decide +kernel
theorem dX8_round_29 : decode cX8_round 29 = .ok (.getfield 19, 3) := by decide +kernel
theorem dX8_round_32 : decode cX8_round 32 = .ok (.invokevirtual 96, 3) := by decide +kernel
theorem dX8_round_35 : decode cX8_round 35 = .ok (.iconst 1, 1) := by decide +kernel
theorem dX8_round_36 : decode cX8_round 36 = .ok (.istore_n 2, 1) := by decide +kernel
theorem dX8_round_37 : decode cX8_round 37 = .ok (.iload_n 2, 1) := by decide +kernel
theorem dX8_round_38 : decode cX8_round 38 = .ok (.bipush 60, 2) := by decide +kernel
theorem dX8_round_40 : decode cX8_round 40 = .ok (.if_icmp .gt 39, 3) := by decide +kernel
theorem dX8_round_43 : decode cX8_round 43 = .ok (.aload_n 0, 1) := by decide +kernel
theorem dX8_round_44 : decode cX8_round 44 = .ok (.getfield 40, 3) := by decide +kernel
theorem dX8_round_47 : decode cX8_round 47 = .ok (.invokevirtual 180, 3) := by decide +kernel
theorem dX8_round_50 : decode cX8_round 50 = .ok (.pop, 1) := by decide +kernel
theorem dX8_round_51 : decode cX8_round 51 = .ok (.aload_n 0, 1) := by decide +kernel
theorem dX8_round_52 : decode cX8_round 52 = .ok (.iload_n 2, 1) := by decide +kernel
theorem dX8_round_53 : decode cX8_round 53 = .ok (.invokevirtual 190, 3) := by decide +kernel
theorem dX8_round_56 : decode cX8_round 56 = .ok (.istore_n 3, 1) := by decide +kernel
theorem dX8_round_57 : decode cX8_round 57 = .ok (.iload_n 3, 1) := by decide +kernel
theorem dX8_round_58 : decode cX8_round 58 = .ok (.ifCond .lt 15, 3) := by decide +kernel
theorem dX8_round_61 : decode cX8_round 61 = .ok (.iload_n 1, 1) := by decide +kernel
theorem dX8_round_62 : decode cX8_round 62 = .ok (.ifCond .ne 7, 3) := by decide +kernel
theorem dX8_round_65 : decode cX8_round 65 = .ok (.iload_n 2, 1) := by decide +kernel
theorem dX8_round_66 : decode cX8_round 66 = .ok (.goto 6, 3) := by decide +kernel
theorem dX8_round_69 : decode cX8_round 69 = .ok (.iload_n 2, 1) := by decide +kernel
theorem dX8_round_70 : decode cX8_round 70 = .ok (.iload_n 3, 1) := by decide +kernel
theorem dX8_round_71 : decode cX8_round 71 = .ok (.isub, 1) := by decide +kernel
theorem dX8_round_72 : decode cX8_round 72 = .ok (.ireturn, 1) := by decide +kernel
theorem dX8_round_73 : decode cX8_round 73 = .ok (.iinc 2 1, 3) := by decide +kernel
theorem dX8_round_76 : decode cX8_round 76 = .ok (.goto (-39), 3) := by decide +kernel
theorem dX8_round_79 : decode cX8_round 79 = .ok (.bipush (-4), 2) := by decide +kernel
theorem dX8_round_81 : decode cX8_round 81 = .ok (.ireturn, 1) := by decide +kernel
def X8_round_L37 (S_now : Rec) (x1 : Int32) : Nat → Int32 → Rec → Rec → Option ((Int32 × Rec × Rec) ⊕ (Rec × Rec))
  | 0, _, _, _ => none
  | n37 + 1, v4, Z5, Z6 => if (60 : Int32) < v4 then
      some (.inr (Z5, Z6))
    else
      (X2_passYear Z5).bind fun v9 =>
      (X8_yearThatSoundsSo Z6 S_now v9.2 v4).bind fun v11 =>
      if v11.1 < 0 then
        aLet (v4 + (1 : Int32)) fun v14 =>
        X8_round_L37 S_now x1 n37 v14 v9.2 v11.2
      else
        if x1 = 0 then
          some (.inl (v4, v9.2, v11.2))
        else
          some (.inl ((v4 - v11.1), v9.2, v11.2))
def X8_round (S_now : Rec) (S_trial : Rec) (S_earlier : Rec) (x1 : Int32) : Option (Int32 × Rec × Rec) :=
  if (X8_within x1 (0 : Int32) (1 : Int32)) = 0 then
    some ((-1 : Int32), S_trial, S_earlier)
  else
    if (X2_stands S_now) = 0 then
      some ((-2 : Int32), S_trial, S_earlier)
    else
      (X8_round_L37 S_now x1 aFu (1 : Int32) (X2_become S_trial S_now) S_earlier).bind fun e16 =>
      aCs e16 (fun t19 => some t19) (fun s18 =>
        some ((-4 : Int32), s18.1, s18.2))
set_option maxRecDepth 100000 in
set_option maxHeartbeats 4000000 in
theorem X8_round_ok (l : Launch) {h : aH} {nx : Nat} {S_now : Rec} {S_trial : Rec} {S_earlier : Rec} {x1 : Int32} (hBxo : X8_at h) (hBnow : X2_at h 7 S_now) (hBtrial : X2_at h 19 S_trial) (hBearlier : X2_at h 27 S_earlier) {r : Int32 × Rec × Rec} (hF : X8_round S_now S_trial S_earlier x1 = some r) : aOk l 3 0 0 yX8_round cX8_round 4 (some .int) [.ref 4, .int x1] h nx (aMt (some (.int r.1)) nx (fun h1 => X2_at h1 19 r.2.1 ∧ X2_at h1 27 r.2.2 ∧ (∀ q, (q < 19 ∨ 19 + 8 ≤ q) → (q < 27 ∨ 27 + 8 ≤ q) → h1 q = h q))) := by
  refine aOk.of (by decide +kernel) (Nat.le_of_ble_eq_true rfl) (fun X G hX C R0 _ => ?_)
  subst hX
  show aV X G 4 0 [(0, .ref 4), (1, .int x1)] [] h nx 0 0
  have hFr : ∀ q, (q < 19 ∨ 19 + 8 ≤ q) → (q < 27 ∨ 27 + 8 ≤ q) → h q = h q := fun _ _ _ => rfl
  rw [X8_round] at hF
  refine ab_iload_n C 1 rfl rfl dX8_round_0 ?_
  refine ab_iconst (v := (0 : Int32)) C dX8_round_1 (by decide) ?_
  refine ab_iconst (v := (1 : Int32)) C dX8_round_2 (by decide) ?_
  refine ab_cSR (v := .int (X8_within x1 (0 : Int32) (1 : Int32))) (st := []) C lm_X8_74 (X8_within_ok (xl X) (r := (X8_within x1 (0 : Int32) (1 : Int32))) rfl) rfl rfl (by decide) ⟨Nat.zero_le _, Nat.zero_le _⟩ (Nat.le_of_ble_eq_true rfl) dX8_round_3 ?_
  refine ab_if_ne C 11 dX8_round_6 (by decide) (fun c1 => ?_) (fun c1 => ?_)
  · replace hF := (if_neg c1).symm.trans hF
    refine ab_aload_n C 0 rfl rfl dX8_round_11 ?_
    refine ab_g8 (v := .ref 7) C lf_X8_19 hBxo rfl dX8_round_12 ?_
    refine ab_cVR (v := .int (X2_stands S_now)) (st := []) C lm_X8_173 (X2_stands_ok (xl X) hBnow (r := (X2_stands S_now)) rfl) [] rfl hBnow.1 rfl rfl rfl (by decide) ⟨Nat.zero_le _, Nat.zero_le _⟩ (Nat.le_of_ble_eq_true rfl) dX8_round_15 ?_
    refine ab_if_ne C 24 dX8_round_18 (by decide) (fun c2 => ?_) (fun c2 => ?_)
    · replace hF := (if_neg c2).symm.trans hF
      refine ab_aload_n C 0 rfl rfl dX8_round_24 ?_
      refine ab_g8 (v := .ref 19) C lf_X8_40 hBxo rfl dX8_round_25 ?_
      refine ab_aload_n C 0 rfl rfl dX8_round_28 ?_
      refine ab_g8 (v := .ref 7) C lf_X8_19 hBxo rfl dX8_round_29 ?_
      refine ab_cVN (st := []) C lm_X8_96 (X2_become_ok (xl X) hBtrial hBnow (by omega) (r := (X2_become S_trial S_now)) rfl) [.ref 7] rfl hBtrial.1 rfl rfl rfl (by decide) ⟨Nat.zero_le _, Nat.zero_le _⟩ (Nat.le_of_ble_eq_true rfl) dX8_round_32 (fun g3 pg3 => ?_)
      obtain ⟨k0, Og3⟩ := pg3
      have hBtrial : X2_at g3 19 (X2_become S_trial S_now) := k0
      have hBxo : X8_at g3 := (Og3 4 (by omega)).trans hBxo
      have hBnow : X2_at g3 7 S_now := X2_off hBnow (fun q i1 i2 => Og3 q (by omega))
      have hBearlier : X2_at g3 27 S_earlier := X2_off hBearlier (fun q i1 i2 => Og3 q (by omega))
      have hFr : ∀ q, (q < 19 ∨ 19 + 8 ≤ q) → (q < 27 ∨ 27 + 8 ≤ q) → g3 q = h q := fun q u0 u1 => (Og3 q (by omega)).trans (hFr q u0 u1)
      refine ab_iconst (v := (1 : Int32)) C dX8_round_35 (by decide) ?_
      refine ab_istore_n (lv' := [(2, .int (1 : Int32)), (0, .ref 4), (1, .int x1)]) C dX8_round_36 rfl (by decide) rfl ?_
      have L37 : ∀ (n37 : Nat) (v4 : Int32) (Z5 : Rec) (Z6 : Rec) (g7 : aH), (X8_at g7) → (X2_at g7 7 S_now) → (X2_at g7 19 Z5) → (X2_at g7 27 Z6) → (∀ q, (q < 19 ∨ 19 + 8 ≤ q) → (q < 27 ∨ 27 + 8 ≤ q) → g7 q = h q) → ∀ (res37 : (Int32 × Rec × Rec) ⊕ (Rec × Rec)), X8_round_L37 S_now x1 n37 v4 Z5 Z6 = some res37 → (∀ (s : Rec × Rec) (q9 : aH), (X8_at q9) → (X2_at q9 7 S_now) → (X2_at q9 19 s.1) → (X2_at q9 27 s.2) → (∀ q, (q < 19 ∨ 19 + 8 ≤ q) → (q < 27 ∨ 27 + 8 ≤ q) → q9 q = h q) → res37 = .inr s → aV X G 4 79 [] [] q9 nx 0 0) → (∀ (t : Int32 × Rec × Rec) (q9 : aH), (X8_at q9) → (X2_at q9 7 S_now) → (X2_at q9 19 t.2.1) → (X2_at q9 27 t.2.2) → (∀ q, (q < 19 ∨ 19 + 8 ≤ q) → (q < 27 ∨ 27 + 8 ≤ q) → q9 q = h q) → res37 = .inl t → (aMt (some (.int r.1)) nx (fun h1 => X2_at h1 19 r.2.1 ∧ X2_at h1 27 r.2.2 ∧ (∀ q, (q < 19 ∨ 19 + 8 ≤ q) → (q < 27 ∨ 27 + 8 ≤ q) → h1 q = h q))) (some (.int t.1)) q9 nx) → aV X G 4 37 [(0, .ref 4), (1, .int x1), (2, .int v4)] [] g7 nx 0 0 := by
        intro n37
        induction n37 with
        | zero => intro v4 Z5 Z6 g7 hBxo hBnow hBtrial hBearlier hFr res37 hF KX37 KR37; cases (show (none : Option ((Int32 × Rec × Rec) ⊕ (Rec × Rec))) = some res37 from hF)
        | succ n37 ih37 =>
          intro v4 Z5 Z6 g7 hBxo hBnow hBtrial hBearlier hFr res37 hF KX37 KR37
          rw [X8_round_L37] at hF
          refine ab_iload_n C 2 rfl rfl dX8_round_37 ?_
          refine ab_bipush (v := (60 : Int32)) C dX8_round_38 (by decide) ?_
          refine ab_icmp_gt C 79 dX8_round_40 (by decide) (fun c8 => ?_) (fun c8 => ?_)
          · replace hF := (if_pos c8).symm.trans hF
            obtain rfl := Option.some.inj hF
            refine aV.sub (lv' := []) [] rfl ?_
            exact KX37 (Z5, Z6) g7 hBxo hBnow hBtrial hBearlier hFr rfl
          · replace hF := (if_neg c8).symm.trans hF
            refine ab_aload_n C 0 rfl rfl dX8_round_43 ?_
            refine ab_g8 (v := .ref 19) C lf_X8_40 hBxo rfl dX8_round_44 ?_
            obtain ⟨v9, hxv9, hF⟩ := Option.bind_eq_some_iff.mp hF
            refine ab_cVM (v := .int v9.1) (st := []) C lm_X8_180 (X2_passYear_ok (xl X) hBtrial (r := v9) hxv9) [] rfl hBtrial.1 rfl rfl rfl (by decide) ⟨Nat.zero_le _, Nat.zero_le _⟩ (Nat.le_of_ble_eq_true rfl) dX8_round_47 (fun g10 pg10 => ?_)
            obtain ⟨k0, Og10⟩ := pg10
            have hBtrial : X2_at g10 19 v9.2 := k0
            have hBxo : X8_at g10 := (Og10 4 (by omega)).trans hBxo
            have hBnow : X2_at g10 7 S_now := X2_off hBnow (fun q i1 i2 => Og10 q (by omega))
            have hBearlier : X2_at g10 27 Z6 := X2_off hBearlier (fun q i1 i2 => Og10 q (by omega))
            have hFr : ∀ q, (q < 19 ∨ 19 + 8 ≤ q) → (q < 27 ∨ 27 + 8 ≤ q) → g10 q = h q := fun q u0 u1 => (Og10 q (by omega)).trans (hFr q u0 u1)
            refine ab_pop C rfl dX8_round_50 ?_
            refine ab_aload_n C 0 rfl rfl dX8_round_51 ?_
            refine ab_iload_n C 2 rfl rfl dX8_round_52 ?_
            obtain ⟨v11, hxv11, hF⟩ := Option.bind_eq_some_iff.mp hF
            refine ab_cVM (v := .int v11.1) (st := []) C lm_X8_190 (X8_yearThatSoundsSo_ok (xl X) hBxo hBearlier hBnow hBtrial (r := v11) hxv11) [.int v4] rfl hBxo rfl rfl rfl (by decide) ⟨Nat.zero_le _, Nat.zero_le _⟩ (Nat.le_of_ble_eq_true rfl) dX8_round_53 (fun g12 pg12 => ?_)
            obtain ⟨k0, Og12⟩ := pg12
            have hBearlier : X2_at g12 27 v11.2 := k0
            have hBxo : X8_at g12 := (Og12 4 (by omega)).trans hBxo
            have hBnow : X2_at g12 7 S_now := X2_off hBnow (fun q i1 i2 => Og12 q (by omega))
            have hBtrial : X2_at g12 19 v9.2 := X2_off hBtrial (fun q i1 i2 => Og12 q (by omega))
            have hFr : ∀ q, (q < 19 ∨ 19 + 8 ≤ q) → (q < 27 ∨ 27 + 8 ≤ q) → g12 q = h q := fun q u0 u1 => (Og12 q (by omega)).trans (hFr q u0 u1)
            refine ab_istore_n (lv' := [(3, .int v11.1), (0, .ref 4), (1, .int x1), (2, .int v4)]) C dX8_round_56 rfl (by decide) rfl ?_
            refine ab_iload_n C 0 rfl rfl dX8_round_57 ?_
            refine ab_if_lt C 73 dX8_round_58 (by decide) (fun c13 => ?_) (fun c13 => ?_)
            · replace hF := (if_pos c13).symm.trans hF
              obtain ⟨v14, qv14⟩ : ∃ y : Int32, y = (v4 + (1 : Int32)) := ⟨_, rfl⟩
              replace hF := aLet_e hF v14 qv14
              refine ab_iinc (lv' := [(2, .int v14), (3, .int v11.1), (0, .ref 4), (1, .int x1)]) C 3 rfl dX8_round_73 (by rw [qv14]; rfl) (by decide) rfl ?_
              refine ab_goto C 37 dX8_round_76 (by decide) ?_
              refine aV.sub (lv' := [(0, .ref 4), (1, .int x1), (2, .int v14)]) [2, 3, 0] rfl ?_
              exact ih37 v14 v9.2 v11.2 g12 hBxo hBnow hBtrial hBearlier hFr res37 hF KX37 KR37
            · replace hF := (if_neg c13).symm.trans hF
              refine ab_iload_n C 2 rfl rfl dX8_round_61 ?_
              refine ab_if_ne C 69 dX8_round_62 (by decide) (fun c15 => ?_) (fun c15 => ?_)
              · replace hF := (if_neg c15).symm.trans hF
                refine ab_iload_n C 3 rfl rfl dX8_round_69 ?_
                refine ab_iload_n C 0 rfl rfl dX8_round_70 ?_
                refine ab_isub C dX8_round_71 ?_
                obtain rfl := Option.some.inj hF
                exact ab_iret C R0 rfl dX8_round_72 (KR37 ((v4 - v11.1), v9.2, v11.2) g12 hBxo hBnow hBtrial hBearlier hFr rfl)
              · replace hF := (if_pos c15).symm.trans hF
                refine ab_iload_n C 3 rfl rfl dX8_round_65 ?_
                refine ab_goto C 72 dX8_round_66 (by decide) ?_
                obtain rfl := Option.some.inj hF
                exact ab_iret C R0 rfl dX8_round_72 (KR37 (v4, v9.2, v11.2) g12 hBxo hBnow hBtrial hBearlier hFr rfl)
      refine aV.sub (lv' := [(0, .ref 4), (1, .int x1), (2, .int (1 : Int32))]) [1, 2, 0] rfl ?_
      obtain ⟨e16, he16, hF⟩ := Option.bind_eq_some_iff.mp hF
      refine L37 aFu (1 : Int32) (X2_become S_trial S_now) S_earlier g3 hBxo hBnow hBtrial hBearlier hFr e16 he16 (fun s18 g17 hBxo hBnow hBtrial hBearlier hFr eqs18 => ?_) (fun t19 g20 hBxo hBnow hBtrial hBearlier hFr eqt19 => ?_)
      · subst eqs18
        replace hF := aCs_r hF
        refine ab_bipush (v := (-4 : Int32)) C dX8_round_79 (by decide) ?_
        obtain rfl := Option.some.inj hF
        exact ab_iret C R0 rfl dX8_round_81 ⟨rfl, rfl, hBtrial, hBearlier, hFr⟩
      · subst eqt19
        replace hF := aCs_l hF
        obtain rfl := Option.some.inj hF
        exact ⟨rfl, rfl, hBtrial, hBearlier, hFr⟩
    · replace hF := (if_pos c2).symm.trans hF
      refine ab_bipush (v := (-2 : Int32)) C dX8_round_21 (by decide) ?_
      obtain rfl := Option.some.inj hF
      exact ab_iret C R0 rfl dX8_round_23 ⟨rfl, rfl, hBtrial, hBearlier, hFr⟩
  · replace hF := (if_pos c1).symm.trans hF
    refine ab_iconst (v := (-1 : Int32)) C dX8_round_9 (by decide) ?_
    obtain rfl := Option.some.inj hF
    exact ab_iret C R0 rfl dX8_round_10 ⟨rfl, rfl, hBtrial, hBearlier, hFr⟩
theorem dX8_cheapestFor_0 : decode cX8_cheapestFor 0 = .ok (.ldc2_w 197, 3) := by decide +kernel
theorem dX8_cheapestFor_3 : decode cX8_cheapestFor 3 = .ok (.lstore_n 3, 1) := by decide +kernel
theorem dX8_cheapestFor_4 : decode cX8_cheapestFor 4 = .ok (.ldc 229, 2) := by decide +kernel
theorem dX8_cheapestFor_6 : decode cX8_cheapestFor 6 = .ok (.istore 5, 2) := by decide +kernel
theorem dX8_cheapestFor_8 : decode cX8_cheapestFor 8 = .ok (.aload_n 0, 1) := by decide +kernel
theorem dX8_cheapestFor_9 : decode cX8_cheapestFor 9 = .ok (.getfield 19, 3) := by decide +kernel
theorem dX8_cheapestFor_12 : decode cX8_cheapestFor 12 = .ok (.invokevirtual 327, 3) := by decide +kernel
theorem dX8_cheapestFor_15 : decode cX8_cheapestFor 15 = .ok (.aload_n 0, 1) := by decide +kernel
theorem dX8_cheapestFor_16 : decode cX8_cheapestFor 16 = .ok (.getfield 19, 3) := by decide +kernel
theorem dX8_cheapestFor_19 : decode cX8_cheapestFor 19 = .ok (.getfield 114, 3) := by decide +kernel
theorem dX8_cheapestFor_22 : decode cX8_cheapestFor 22 = .ok (.iload_n 1, 1) := by decide +kernel
theorem dX8_cheapestFor_23 : decode cX8_cheapestFor 23 = .ok (.laload, 1) := by decide +kernel
theorem dX8_cheapestFor_24 : decode cX8_cheapestFor 24 = .ok (.ldc2_w 197, 3) := by decide +kernel
theorem dX8_cheapestFor_27 : decode cX8_cheapestFor 27 = .ok (.lxor, 1) := by decide +kernel
theorem dX8_cheapestFor_28 : decode cX8_cheapestFor 28 = .ok (.land, 1) := by decide +kernel
theorem dX8_cheapestFor_29 : decode cX8_cheapestFor 29 = .ok (.lstore 6, 2) := by decide +kernel
theorem dX8_cheapestFor_31 : decode cX8_cheapestFor 31 = .ok (.iconst 0, 1) := by decide +kernel
theorem dX8_cheapestFor_32 : decode cX8_cheapestFor 32 = .ok (.istore 8, 2) := by decide +kernel
theorem dX8_cheapestFor_34 : decode cX8_cheapestFor 34 = .ok (.iload 8, 2) := by decide +kernel
theorem dX8_cheapestFor_36 : decode cX8_cheapestFor 36 = .ok (.iconst 3, 1) := by decide +kernel
theorem dX8_cheapestFor_37 : decode cX8_cheapestFor 37 = .ok (.if_icmp .gt 87, 3) := by decide +kernel
theorem dX8_cheapestFor_40 : decode cX8_cheapestFor 40 = .ok (.aload_n 0, 1) := by decide +kernel
theorem dX8_cheapestFor_41 : decode cX8_cheapestFor 41 = .ok (.getfield 49, 3) := by decide +kernel
theorem dX8_cheapestFor_44 : decode cX8_cheapestFor 44 = .ok (.lload 6, 2) := by decide +kernel
theorem dX8_cheapestFor_46 : decode cX8_cheapestFor 46 = .ok (.iload 8, 2) := by decide +kernel
theorem dX8_cheapestFor_48 : decode cX8_cheapestFor 48 = .ok (.invokevirtual 340, 3) := by decide +kernel
theorem dX8_cheapestFor_51 : decode cX8_cheapestFor 51 = .ok (.istore 9, 2) := by decide +kernel
theorem dX8_cheapestFor_53 : decode cX8_cheapestFor 53 = .ok (.iload 9, 2) := by decide +kernel
theorem dX8_cheapestFor_55 : decode cX8_cheapestFor 55 = .ok (.ifCond .le 63, 3) := by decide +kernel
theorem dX8_cheapestFor_58 : decode cX8_cheapestFor 58 = .ok (.aload_n 0, 1) := by decide +kernel
theorem dX8_cheapestFor_59 : decode cX8_cheapestFor 59 = .ok (.getfield 49, 3) := by decide +kernel
theorem dX8_cheapestFor_62 : decode cX8_cheapestFor 62 = .ok (.invokevirtual 343, 3) := by decide +kernel
theorem dX8_cheapestFor_65 : decode cX8_cheapestFor 65 = .ok (.lstore 10, 2) := by decide +kernel
theorem dX8_cheapestFor_67 : decode cX8_cheapestFor 67 = .ok (.lload 10, 2) := by decide +kernel
theorem dX8_cheapestFor_69 : decode cX8_cheapestFor 69 = .ok (.invokestatic 124, 3) := by decide +kernel
theorem dX8_cheapestFor_72 : decode cX8_cheapestFor 72 = .ok (.istore 12, 2) := by decide +kernel
theorem dX8_cheapestFor_74 : decode cX8_cheapestFor 74 = .ok (.iload 12, 2) := by decide +kernel
theorem dX8_cheapestFor_76 : decode cX8_cheapestFor 76 = .ok (.iload 5, 2) := by decide +kernel
theorem dX8_cheapestFor_78 : decode cX8_cheapestFor 78 = .ok (.if_icmp .ge 27, 3) := by decide +kernel
theorem dX8_cheapestFor_81 : decode cX8_cheapestFor 81 = .ok (.aload_n 0, 1) := by decide +kernel
theorem dX8_cheapestFor_82 : decode cX8_cheapestFor 82 = .ok (.getfield 19, 3) := by decide +kernel
theorem dX8_cheapestFor_85 : decode cX8_cheapestFor 85 = .ok (.iload_n 1, 1) := by decide +kernel
theorem dX8_cheapestFor_86 : decode cX8_cheapestFor 86 = .ok (.lload 10, 2) := by decide +kernel
theorem dX8_cheapestFor_88 : decode cX8_cheapestFor 88 = .ok (.invokevirtual 346, 3) := by decide +kernel
theorem dX8_cheapestFor_91 : decode cX8_cheapestFor 91 = .ok (.iload_n 2, 1) := by decide +kernel
theorem dX8_cheapestFor_92 : decode cX8_cheapestFor 92 = .ok (.invokestatic 187, 3) := by decide +kernel
theorem dX8_cheapestFor_95 : decode cX8_cheapestFor 95 = .ok (.ifCond .eq 10, 3) := by decide +kernel
theorem dX8_cheapestFor_98 : decode cX8_cheapestFor 98 = .ok (.lload 10, 2) := by decide +kernel
theorem dX8_cheapestFor_100 : decode cX8_cheapestFor 100 = .ok (.lstore_n 3, 1) := by decide +kernel
theorem dX8_cheapestFor_101 : decode cX8_cheapestFor 101 = .ok (.iload 12, 2) := by decide +kernel
theorem dX8_cheapestFor_103 : decode cX8_cheapestFor 103 = .ok (.istore 5, 2) := by decide +kernel
theorem dX8_cheapestFor_105 : decode cX8_cheapestFor 105 = .ok (.aload_n 0, 1) := by decide +kernel
theorem dX8_cheapestFor_106 : decode cX8_cheapestFor 106 = .ok (.getfield 49, 3) := by decide +kernel
theorem dX8_cheapestFor_109 : decode cX8_cheapestFor 109 = .ok (.invokevirtual 350, 3) := by decide +kernel
theorem dX8_cheapestFor_112 : decode cX8_cheapestFor 112 = .ok (.iinc 9 (-1), 3) := by decide +kernel
theorem dX8_cheapestFor_115 : decode cX8_cheapestFor 115 = .ok (.goto (-62), 3) := by decide +kernel
theorem dX8_cheapestFor_118 : decode cX8_cheapestFor 118 = .ok (.iinc 8 1, 3) := by decide +kernel
theorem dX8_cheapestFor_121 : decode cX8_cheapestFor 121 = .ok (.goto (-87), 3) := by decide +kernel
theorem dX8_cheapestFor_124 : decode cX8_cheapestFor 124 = .ok (.lload_n 3, 1) := by decide +kernel
theorem dX8_cheapestFor_125 : decode cX8_cheapestFor 125 = .ok (.lreturn, 1) := by decide +kernel
def X8_cheapestFor_J105 (Z15 : Rec) (v14 : Int32) (k53 : Int64 → Int32 → Int32 → Rec → Option (Int64 × Int32 × Rec)) (v20 : Int64) (v21 : Int32) : Option (Int64 × Int32 × Rec) :=
  (X0_advance Z15).bind fun v22 =>
  aLet (v14 + (-1 : Int32)) fun v24 =>
  k53 v20 v21 v24 v22
def X8_cheapestFor_L53 (S_now : Rec) (x1 : Int32) (x2 : Int32) : Nat → Int64 → Int32 → Int32 → Rec → Option (Int64 × Int32 × Rec)
  | 0, _, _, _, _ => none
  | n53 + 1, v12, v13, v14, Z15 => if v14 ≤ 0 then
      some (v12, v13, Z15)
    else
      (X0_current Z15).bind fun v18 =>
      (X8_priceOf v18).bind fun v19 =>
      if v13 ≤ v19 then
        X8_cheapestFor_J105 Z15 v14 (X8_cheapestFor_L53 S_now x1 x2 n53) v12 v13
      else
        (X2_speechWith S_now x1 v18).bind fun v26 =>
        if (X8_covers v26 x2) = 0 then
          X8_cheapestFor_J105 Z15 v14 (X8_cheapestFor_L53 S_now x1 x2 n53) v12 v13
        else
          X8_cheapestFor_J105 Z15 v14 (X8_cheapestFor_L53 S_now x1 x2 n53) v18 v19
def X8_cheapestFor_L34 (v3 : Int64) (S_now : Rec) (x1 : Int32) (x2 : Int32) : Nat → Int64 → Int32 → Int32 → Rec → Option (Int64 × Rec)
  | 0, _, _, _, _ => none
  | n34 + 1, v4, v5, v6, Z7 => if (3 : Int32) < v6 then
      some (v4, Z7)
    else
      (X0_begin Z7 v3 v6).bind fun v10 =>
      (X8_cheapestFor_L53 S_now x1 x2 aFu v4 v5 v10.1 v10.2).bind fun e28 =>
      aLet (v6 + (1 : Int32)) fun v30 =>
      X8_cheapestFor_L34 v3 S_now x1 x2 n34 e28.1 e28.2.1 v30 e28.2.2
def X8_cheapestFor (S_now : Rec) (S_sets : Rec) (x1 : Int32) (x2 : Int32) : Option (Int64 × Rec) :=
  (X2_everyCell S_now).bind fun v1 =>
  (rdL (S_now.2.2 10) 7 x1).bind fun v2 =>
  aLet (v1 &&& (v2 ^^^ (-1 : Int64))) fun v3 =>
  (X8_cheapestFor_L34 v3 S_now x1 x2 aFu (-1 : Int64) (1000000 : Int32) (0 : Int32) S_sets).bind fun e31 =>
  some (e31.1, e31.2)
set_option maxRecDepth 100000 in
set_option maxHeartbeats 4000000 in
theorem X8_cheapestFor_ok (l : Launch) {h : aH} {nx : Nat} {S_now : Rec} {S_sets : Rec} {x1 : Int32} {x2 : Int32} (hBxo : X8_at h) (hBnow : X2_at h 7 S_now) (hBsets : X0_at h 35 S_sets) {r : Int64 × Rec} (hF : X8_cheapestFor S_now S_sets x1 x2 = some r) : aOk l 4 0 0 yX8_cheapestFor cX8_cheapestFor 13 (some .long) [.ref 4, .int x1, .int x2] h nx (aMt (some (.long r.1)) nx (fun h1 => X0_at h1 35 r.2 ∧ (∀ q, (q < 35 ∨ 35 + 3 ≤ q) → h1 q = h q))) := by
  refine aOk.of (by decide +kernel) (Nat.le_of_ble_eq_true rfl) (fun X G hX C R0 _ => ?_)
  subst hX
  show aV X G 13 0 [(0, .ref 4), (1, .int x1), (2, .int x2)] [] h nx 0 0
  have hFr : ∀ q, (q < 35 ∨ 35 + 3 ≤ q) → h q = h q := fun _ _ => rfl
  rw [X8_cheapestFor] at hF
  refine ab_ldc2 (v := (-1 : Int64)) C dX8_cheapestFor_0 lq_X8_197 ?_
  refine ab_lstore_n (lv' := [(3, .long (-1 : Int64)), (0, .ref 4), (1, .int x1), (2, .int x2)]) C dX8_cheapestFor_3 rfl ⟨by decide, by decide⟩ rfl ?_
  refine ab_ldc (v := (1000000 : Int32)) C dX8_cheapestFor_4 lq_X8_229 ?_
  refine ab_istore (lv' := [(5, .int (1000000 : Int32)), (3, .long (-1 : Int64)), (0, .ref 4), (1, .int x1), (2, .int x2)]) C dX8_cheapestFor_6 (by decide) rfl ?_
  refine ab_aload_n C 2 rfl rfl dX8_cheapestFor_8 ?_
  refine ab_g8 (v := .ref 7) C lf_X8_19 hBxo rfl dX8_cheapestFor_9 ?_
  obtain ⟨v1, hxv1, hF⟩ := Option.bind_eq_some_iff.mp hF
  refine ab_cVR (v := .long v1) (st := []) C lm_X8_327 (X2_everyCell_ok (xl X) hBnow (r := v1) hxv1) [] rfl hBnow.1 rfl rfl rfl (by decide) ⟨Nat.zero_le _, Nat.zero_le _⟩ (Nat.le_of_ble_eq_true rfl) dX8_cheapestFor_12 ?_
  refine ab_aload_n C 2 rfl rfl dX8_cheapestFor_15 ?_
  refine ab_g8 (v := .ref 7) C lf_X8_19 hBxo rfl dX8_cheapestFor_16 ?_
  refine ab_g2 (v := .ref (7 + 6)) C lf_X8_114 hBnow.1 rfl dX8_cheapestFor_19 ?_
  refine ab_iload_n C 3 rfl rfl dX8_cheapestFor_22 ?_
  obtain ⟨v2, hxv2, hF⟩ := Option.bind_eq_some_iff.mp hF
  refine ab_lald C (X2_r10 hBnow) hxv2 dX8_cheapestFor_23 ?_
  refine ab_ldc2 (v := (-1 : Int64)) C dX8_cheapestFor_24 lq_X8_197 ?_
  refine ab_lxor C dX8_cheapestFor_27 ?_
  refine ab_land C dX8_cheapestFor_28 ?_
  refine ab_topl (fun v3 qv3 => ?_)
  replace hF := aLet_e hF v3 qv3
  refine ab_lstore (lv' := [(6, .long v3), (5, .int (1000000 : Int32)), (3, .long (-1 : Int64)), (0, .ref 4), (1, .int x1), (2, .int x2)]) C dX8_cheapestFor_29 ⟨by decide, by decide⟩ rfl ?_
  refine ab_iconst (v := (0 : Int32)) C dX8_cheapestFor_31 (by decide) ?_
  refine ab_istore (lv' := [(8, .int (0 : Int32)), (6, .long v3), (5, .int (1000000 : Int32)), (3, .long (-1 : Int64)), (0, .ref 4), (1, .int x1), (2, .int x2)]) C dX8_cheapestFor_32 (by decide) rfl ?_
  have L34 : ∀ (n34 : Nat) (v4 : Int64) (v5 : Int32) (v6 : Int32) (Z7 : Rec) (g8 : aH), (X8_at g8) → (X2_at g8 7 S_now) → (X0_at g8 35 Z7) → (∀ q, (q < 35 ∨ 35 + 3 ≤ q) → g8 q = h q) → ∀ (res34 : Int64 × Rec), X8_cheapestFor_L34 v3 S_now x1 x2 n34 v4 v5 v6 Z7 = some res34 → (∀ (q9 : aH), (X8_at q9) → (X2_at q9 7 S_now) → (X0_at q9 35 res34.2) → (∀ q, (q < 35 ∨ 35 + 3 ≤ q) → q9 q = h q) → aV X G 13 124 [(3, .long res34.1)] [] q9 nx 0 0) → aV X G 13 34 [(0, .ref 4), (1, .int x1), (2, .int x2), (3, .long v4), (5, .int v5), (6, .long v3), (8, .int v6)] [] g8 nx 0 0 := by
    intro n34
    induction n34 with
    | zero => intro v4 v5 v6 Z7 g8 hBxo hBnow hBsets hFr res34 hF KX34; cases (show (none : Option (Int64 × Rec)) = some res34 from hF)
    | succ n34 ih34 =>
      intro v4 v5 v6 Z7 g8 hBxo hBnow hBsets hFr res34 hF KX34
      rw [X8_cheapestFor_L34] at hF
      refine ab_iload C 6 rfl dX8_cheapestFor_34 ?_
      refine ab_iconst (v := (3 : Int32)) C dX8_cheapestFor_36 (by decide) ?_
      refine ab_icmp_gt C 124 dX8_cheapestFor_37 (by decide) (fun c9 => ?_) (fun c9 => ?_)
      · replace hF := (if_pos c9).symm.trans hF
        obtain rfl := Option.some.inj hF
        refine aV.sub (lv' := [(3, .long v4)]) [3] rfl ?_
        exact KX34 g8 hBxo hBnow hBsets hFr
      · replace hF := (if_neg c9).symm.trans hF
        refine ab_aload_n C 0 rfl rfl dX8_cheapestFor_40 ?_
        refine ab_g8 (v := .ref 35) C lf_X8_49 hBxo rfl dX8_cheapestFor_41 ?_
        refine ab_lload C 5 rfl dX8_cheapestFor_44 ?_
        refine ab_iload C 6 rfl dX8_cheapestFor_46 ?_
        obtain ⟨v10, hxv10, hF⟩ := Option.bind_eq_some_iff.mp hF
        refine ab_cVM (v := .int v10.1) (st := []) C lm_X8_340 (X0_begin_ok (xl X) hBsets (r := v10) hxv10) [.long v3, .int v6] rfl hBsets.1 rfl rfl rfl (by decide) ⟨Nat.zero_le _, Nat.zero_le _⟩ (Nat.le_of_ble_eq_true rfl) dX8_cheapestFor_48 (fun g11 pg11 => ?_)
        obtain ⟨k0, Og11⟩ := pg11
        have hBsets : X0_at g11 35 v10.2 := k0
        have hBxo : X8_at g11 := (Og11 4 (by omega)).trans hBxo
        have hBnow : X2_at g11 7 S_now := X2_off hBnow (fun q i1 i2 => Og11 q (by omega))
        have hFr : ∀ q, (q < 35 ∨ 35 + 3 ≤ q) → g11 q = h q := fun q u0 => (Og11 q (by omega)).trans (hFr q u0)
        refine ab_istore (lv' := [(9, .int v10.1), (0, .ref 4), (1, .int x1), (2, .int x2), (3, .long v4), (5, .int v5), (6, .long v3), (8, .int v6)]) C dX8_cheapestFor_51 (by decide) rfl ?_
        have L53 : ∀ (n53 : Nat) (v12 : Int64) (v13 : Int32) (v14 : Int32) (Z15 : Rec) (g16 : aH), (X8_at g16) → (X2_at g16 7 S_now) → (X0_at g16 35 Z15) → (∀ q, (q < 35 ∨ 35 + 3 ≤ q) → g16 q = h q) → ∀ (res53 : Int64 × Int32 × Rec), X8_cheapestFor_L53 S_now x1 x2 n53 v12 v13 v14 Z15 = some res53 → (∀ (q9 : aH), (X8_at q9) → (X2_at q9 7 S_now) → (X0_at q9 35 res53.2.2) → (∀ q, (q < 35 ∨ 35 + 3 ≤ q) → q9 q = h q) → aV X G 13 118 [(0, .ref 4), (1, .int x1), (2, .int x2), (3, .long res53.1), (5, .int res53.2.1), (6, .long v3), (8, .int v6)] [] q9 nx 0 0) → aV X G 13 53 [(0, .ref 4), (1, .int x1), (2, .int x2), (3, .long v12), (5, .int v13), (6, .long v3), (8, .int v6), (9, .int v14)] [] g16 nx 0 0 := by
          intro n53
          induction n53 with
          | zero => intro v12 v13 v14 Z15 g16 hBxo hBnow hBsets hFr res53 hF KX53; cases (show (none : Option (Int64 × Int32 × Rec)) = some res53 from hF)
          | succ n53 ih53 =>
            intro v12 v13 v14 Z15 g16 hBxo hBnow hBsets hFr res53 hF KX53
            rw [X8_cheapestFor_L53] at hF
            refine ab_iload C 7 rfl dX8_cheapestFor_53 ?_
            refine ab_if_le C 118 dX8_cheapestFor_55 (by decide) (fun c17 => ?_) (fun c17 => ?_)
            · replace hF := (if_pos c17).symm.trans hF
              obtain rfl := Option.some.inj hF
              refine aV.sub (lv' := [(0, .ref 4), (1, .int x1), (2, .int x2), (3, .long v12), (5, .int v13), (6, .long v3), (8, .int v6)]) [0, 1, 2, 3, 4, 5, 6] rfl ?_
              exact KX53 g16 hBxo hBnow hBsets hFr
            · replace hF := (if_neg c17).symm.trans hF
              refine ab_aload_n C 0 rfl rfl dX8_cheapestFor_58 ?_
              refine ab_g8 (v := .ref 35) C lf_X8_49 hBxo rfl dX8_cheapestFor_59 ?_
              obtain ⟨v18, hxv18, hF⟩ := Option.bind_eq_some_iff.mp hF
              refine ab_cVR (v := .long v18) (st := []) C lm_X8_343 (X0_current_ok (xl X) hBsets (r := v18) hxv18) [] rfl hBsets.1 rfl rfl rfl (by decide) ⟨Nat.zero_le _, Nat.zero_le _⟩ (Nat.le_of_ble_eq_true rfl) dX8_cheapestFor_62 ?_
              refine ab_lstore (lv' := [(10, .long v18), (0, .ref 4), (1, .int x1), (2, .int x2), (3, .long v12), (5, .int v13), (6, .long v3), (8, .int v6), (9, .int v14)]) C dX8_cheapestFor_65 ⟨by decide, by decide⟩ rfl ?_
              refine ab_lload C 0 rfl dX8_cheapestFor_67 ?_
              obtain ⟨v19, hxv19, hF⟩ := Option.bind_eq_some_iff.mp hF
              refine ab_cSR (v := .int v19) (st := []) C lm_X8_124 (X8_priceOf_ok (xl X) (r := v19) hxv19) rfl rfl (by decide) ⟨Nat.zero_le _, Nat.zero_le _⟩ (Nat.le_of_ble_eq_true rfl) dX8_cheapestFor_69 ?_
              refine ab_istore (lv' := [(12, .int v19), (10, .long v18), (0, .ref 4), (1, .int x1), (2, .int x2), (3, .long v12), (5, .int v13), (6, .long v3), (8, .int v6), (9, .int v14)]) C dX8_cheapestFor_72 (by decide) rfl ?_
              refine ab_iload C 0 rfl dX8_cheapestFor_74 ?_
              refine ab_iload C 6 rfl dX8_cheapestFor_76 ?_
              have J105 : ∀ (v20 : Int64) (v21 : Int32), X8_cheapestFor_J105 Z15 v14 (X8_cheapestFor_L53 S_now x1 x2 n53) v20 v21 = some res53 → aV X G 13 105 [(0, .ref 4), (1, .int x1), (2, .int x2), (3, .long v20), (5, .int v21), (6, .long v3), (8, .int v6), (9, .int v14)] [] g16 nx 0 0 := by
                intro v20 v21 hF
                rw [X8_cheapestFor_J105] at hF
                refine ab_aload_n C 0 rfl rfl dX8_cheapestFor_105 ?_
                refine ab_g8 (v := .ref 35) C lf_X8_49 hBxo rfl dX8_cheapestFor_106 ?_
                obtain ⟨v22, hxv22, hF⟩ := Option.bind_eq_some_iff.mp hF
                refine ab_cVN (st := []) C lm_X8_350 (X0_advance_ok (xl X) hBsets (r := v22) hxv22) [] rfl hBsets.1 rfl rfl rfl (by decide) ⟨Nat.zero_le _, Nat.zero_le _⟩ (Nat.le_of_ble_eq_true rfl) dX8_cheapestFor_109 (fun g23 pg23 => ?_)
                obtain ⟨k0, Og23⟩ := pg23
                have hBsets : X0_at g23 35 v22 := k0
                have hBxo : X8_at g23 := (Og23 4 (by omega)).trans hBxo
                have hBnow : X2_at g23 7 S_now := X2_off hBnow (fun q i1 i2 => Og23 q (by omega))
                have hFr : ∀ q, (q < 35 ∨ 35 + 3 ≤ q) → g23 q = h q := fun q u0 => (Og23 q (by omega)).trans (hFr q u0)
                obtain ⟨v24, qv24⟩ : ∃ y : Int32, y = (v14 + (-1 : Int32)) := ⟨_, rfl⟩
                replace hF := aLet_e hF v24 qv24
                refine ab_iinc (lv' := [(9, .int v24), (0, .ref 4), (1, .int x1), (2, .int x2), (3, .long v20), (5, .int v21), (6, .long v3), (8, .int v6)]) C 7 rfl dX8_cheapestFor_112 (by rw [qv24]; rfl) (by decide) rfl ?_
                refine ab_goto C 53 dX8_cheapestFor_115 (by decide) ?_
                refine aV.sub (lv' := [(0, .ref 4), (1, .int x1), (2, .int x2), (3, .long v20), (5, .int v21), (6, .long v3), (8, .int v6), (9, .int v24)]) [1, 2, 3, 4, 5, 6, 7, 0] rfl ?_
                exact ih53 v20 v21 v24 v22 g23 hBxo hBnow hBsets hFr res53 hF KX53
              refine ab_icmp_ge C 105 dX8_cheapestFor_78 (by decide) (fun c25 => ?_) (fun c25 => ?_)
              · replace hF := (if_pos c25).symm.trans hF
                refine aV.sub (lv' := [(0, .ref 4), (1, .int x1), (2, .int x2), (3, .long v12), (5, .int v13), (6, .long v3), (8, .int v6), (9, .int v14)]) [2, 3, 4, 5, 6, 7, 8, 9] rfl ?_
                exact J105 v12 v13 hF
              · replace hF := (if_neg c25).symm.trans hF
                refine ab_aload_n C 2 rfl rfl dX8_cheapestFor_81 ?_
                refine ab_g8 (v := .ref 7) C lf_X8_19 hBxo rfl dX8_cheapestFor_82 ?_
                refine ab_iload_n C 3 rfl rfl dX8_cheapestFor_85 ?_
                refine ab_lload C 1 rfl dX8_cheapestFor_86 ?_
                obtain ⟨v26, hxv26, hF⟩ := Option.bind_eq_some_iff.mp hF
                refine ab_cVR (v := .int v26) (st := []) C lm_X8_346 (X2_speechWith_ok (xl X) hBnow (r := v26) hxv26) [.int x1, .long v18] rfl hBnow.1 rfl rfl rfl (by decide) ⟨Nat.zero_le _, Nat.zero_le _⟩ (Nat.le_of_ble_eq_true rfl) dX8_cheapestFor_88 ?_
                refine ab_iload_n C 4 rfl rfl dX8_cheapestFor_91 ?_
                refine ab_cSR (v := .int (X8_covers v26 x2)) (st := []) C lm_X8_187 (X8_covers_ok (xl X) (r := (X8_covers v26 x2)) rfl) rfl rfl (by decide) ⟨Nat.zero_le _, Nat.zero_le _⟩ (Nat.le_of_ble_eq_true rfl) dX8_cheapestFor_92 ?_
                refine ab_if_eq C 105 dX8_cheapestFor_95 (by decide) (fun c27 => ?_) (fun c27 => ?_)
                · replace hF := (if_pos c27).symm.trans hF
                  refine aV.sub (lv' := [(0, .ref 4), (1, .int x1), (2, .int x2), (3, .long v12), (5, .int v13), (6, .long v3), (8, .int v6), (9, .int v14)]) [2, 3, 4, 5, 6, 7, 8, 9] rfl ?_
                  exact J105 v12 v13 hF
                · replace hF := (if_neg c27).symm.trans hF
                  refine ab_lload C 1 rfl dX8_cheapestFor_98 ?_
                  refine ab_lstore_n (lv' := [(3, .long v18), (12, .int v19), (10, .long v18), (0, .ref 4), (1, .int x1), (2, .int x2), (5, .int v13), (6, .long v3), (8, .int v6), (9, .int v14)]) C dX8_cheapestFor_100 rfl ⟨by decide, by decide⟩ rfl ?_
                  refine ab_iload C 1 rfl dX8_cheapestFor_101 ?_
                  refine ab_istore (lv' := [(5, .int v19), (3, .long v18), (12, .int v19), (10, .long v18), (0, .ref 4), (1, .int x1), (2, .int x2), (6, .long v3), (8, .int v6), (9, .int v14)]) C dX8_cheapestFor_103 (by decide) rfl ?_
                  refine aV.sub (lv' := [(0, .ref 4), (1, .int x1), (2, .int x2), (3, .long v18), (5, .int v19), (6, .long v3), (8, .int v6), (9, .int v14)]) [4, 5, 6, 1, 0, 7, 8, 9] rfl ?_
                  exact J105 v18 v19 hF
        refine aV.sub (lv' := [(0, .ref 4), (1, .int x1), (2, .int x2), (3, .long v4), (5, .int v5), (6, .long v3), (8, .int v6), (9, .int v10.1)]) [1, 2, 3, 4, 5, 6, 7, 0] rfl ?_
        obtain ⟨e28, he28, hF⟩ := Option.bind_eq_some_iff.mp hF
        refine L53 aFu v4 v5 v10.1 v10.2 g11 hBxo hBnow hBsets hFr e28 he28 (fun g29 hBxo hBnow hBsets hFr => ?_)
        obtain ⟨v30, qv30⟩ : ∃ y : Int32, y = (v6 + (1 : Int32)) := ⟨_, rfl⟩
        replace hF := aLet_e hF v30 qv30
        refine ab_iinc (lv' := [(8, .int v30), (0, .ref 4), (1, .int x1), (2, .int x2), (3, .long e28.1), (5, .int e28.2.1), (6, .long v3)]) C 6 rfl dX8_cheapestFor_118 (by rw [qv30]; rfl) (by decide) rfl ?_
        refine ab_goto C 34 dX8_cheapestFor_121 (by decide) ?_
        refine aV.sub (lv' := [(0, .ref 4), (1, .int x1), (2, .int x2), (3, .long e28.1), (5, .int e28.2.1), (6, .long v3), (8, .int v30)]) [1, 2, 3, 4, 5, 6, 0] rfl ?_
        exact ih34 e28.1 e28.2.1 v30 e28.2.2 g29 hBxo hBnow hBsets hFr res34 hF KX34
  refine aV.sub (lv' := [(0, .ref 4), (1, .int x1), (2, .int x2), (3, .long (-1 : Int64)), (5, .int (1000000 : Int32)), (6, .long v3), (8, .int (0 : Int32))]) [4, 5, 6, 3, 2, 1, 0] rfl ?_
  obtain ⟨e31, he31, hF⟩ := Option.bind_eq_some_iff.mp hF
  refine L34 aFu (-1 : Int64) (1000000 : Int32) (0 : Int32) S_sets h hBxo hBnow hBsets hFr e31 he31 (fun g32 hBxo hBnow hBsets hFr => ?_)
  refine ab_lload_n C 0 rfl rfl dX8_cheapestFor_124 ?_
  obtain rfl := Option.some.inj hF
  exact ab_lret C R0 dX8_cheapestFor_125 ⟨rfl, rfl, hBsets, hFr⟩
theorem dX8_cellInSet_0 : decode cX8_cellInSet 0 = .ok (.iload_n 2, 1) := by decide +kernel
theorem dX8_cellInSet_1 : decode cX8_cellInSet 1 = .ok (.ifCond .lt 11, 3) := by decide +kernel
theorem dX8_cellInSet_4 : decode cX8_cellInSet 4 = .ok (.iload_n 2, 1) := by decide +kernel
theorem dX8_cellInSet_5 : decode cX8_cellInSet 5 = .ok (.lload_n 0, 1) := by decide +kernel
theorem dX8_cellInSet_6 : decode cX8_cellInSet 6 = .ok (.invokestatic 118, 3) := by decide +kernel
theorem dX8_cellInSet_9 : decode cX8_cellInSet 9 = .ok (.if_icmp .lt 6, 3) := by decide +kernel
theorem dX8_cellInSet_12 : decode cX8_cellInSet 12 = .ok (.bipush (-4), 2) := by decide +kernel
theorem dX8_cellInSet_14 : decode cX8_cellInSet 14 = .ok (.ireturn, 1) := by decide +kernel
theorem dX8_cellInSet_15 : decode cX8_cellInSet 15 = .ok (.lload_n 0, 1) := by decide +kernel
theorem dX8_cellInSet_16 : decode cX8_cellInSet 16 = .ok (.lstore_n 3, 1) := by decide +kernel
theorem dX8_cellInSet_17 : decode cX8_cellInSet 17 = .ok (.iload_n 2, 1) := by decide +kernel
theorem dX8_cellInSet_18 : decode cX8_cellInSet 18 = .ok (.istore 5, 2) := by decide +kernel
theorem dX8_cellInSet_20 : decode cX8_cellInSet 20 = .ok (.iload 5, 2) := by decide +kernel
theorem dX8_cellInSet_22 : decode cX8_cellInSet 22 = .ok (.ifCond .le 15, 3) := by decide +kernel
theorem dX8_cellInSet_25 : decode cX8_cellInSet 25 = .ok (.lload_n 3, 1) := by decide +kernel
theorem dX8_cellInSet_26 : decode cX8_cellInSet 26 = .ok (.lload_n 3, 1) := by decide +kernel
theorem dX8_cellInSet_27 : decode cX8_cellInSet 27 = .ok (.lconst 1, 1) := by decide +kernel
theorem dX8_cellInSet_28 : decode cX8_cellInSet 28 = .ok (.lsub, 1) := by decide +kernel
theorem dX8_cellInSet_29 : decode cX8_cellInSet 29 = .ok (.land, 1) := by decide +kernel
theorem dX8_cellInSet_30 : decode cX8_cellInSet 30 = .ok (.lstore_n 3, 1) := by decide +kernel
theorem dX8_cellInSet_31 : decode cX8_cellInSet 31 = .ok (.iinc 5 (-1), 3) := by decide +kernel
theorem dX8_cellInSet_34 : decode cX8_cellInSet 34 = .ok (.goto (-14), 3) := by decide +kernel
theorem dX8_cellInSet_37 : decode cX8_cellInSet 37 = .ok (.lload_n 3, 1) := by decide +kernel
theorem dX8_cellInSet_38 : decode cX8_cellInSet 38 = .ok (.invokestatic 363, 3) := by decide +kernel
theorem dX8_cellInSet_41 : decode cX8_cellInSet 41 = .ok (.ireturn, 1) := by decide +kernel
def X8_cellInSet_L20 : Nat → Int64 → Int32 → Option (Int64)
  | 0, _, _ => none
  | n20 + 1, v3, v4 => if v4 ≤ 0 then
      some v3
    else
      aLet (v3 &&& (v3 - (1 : Int64))) fun v6 =>
      aLet (v4 + (-1 : Int32)) fun v7 =>
      X8_cellInSet_L20 n20 v6 v7
def X8_cellInSet (y0 : Int64) (x2 : Int32) : Option (Int32) :=
  if x2 < 0 then
    some (-4 : Int32)
  else
    if x2 < (J13_bitCount_95d88 y0) then
      (X8_cellInSet_L20 aFu y0 x2).bind fun e8 =>
      some (X8_leastCell e8)
    else
      some (-4 : Int32)
set_option maxRecDepth 100000 in
set_option maxHeartbeats 4000000 in
theorem X8_cellInSet_ok (l : Launch) {h : aH} {nx : Nat} {y0 : Int64} {x2 : Int32} {r : Int32} (hF : X8_cellInSet y0 x2 = some r) : aOk l 2 0 0 yX8_cellInSet cX8_cellInSet 6 (some .int) [.long y0, .int x2] h nx (aRd (.int r) h nx) := by
  refine aOk.of (by decide +kernel) (Nat.le_of_ble_eq_true rfl) (fun X G hX C R0 _ => ?_)
  subst hX
  show aV X G 6 0 [(0, .long y0), (2, .int x2)] [] h nx 0 0
  rw [X8_cellInSet] at hF
  refine ab_iload_n C 1 rfl rfl dX8_cellInSet_0 ?_
  refine ab_if_lt C 12 dX8_cellInSet_1 (by decide) (fun c1 => ?_) (fun c1 => ?_)
  · replace hF := (if_pos c1).symm.trans hF
    refine ab_bipush (v := (-4 : Int32)) C dX8_cellInSet_12 (by decide) ?_
    obtain rfl := Option.some.inj hF
    exact ab_iret C R0 rfl dX8_cellInSet_14 ⟨rfl, rfl, rfl⟩
  · replace hF := (if_neg c1).symm.trans hF
    refine ab_iload_n C 1 rfl rfl dX8_cellInSet_4 ?_
    refine ab_lload_n C 0 rfl rfl dX8_cellInSet_5 ?_
    refine ab_cSR (v := .int (J13_bitCount_95d88 y0)) (st := [.int x2]) C lm_X8_118 (J13_bitCount_95d88_ok (xl X) (r := (J13_bitCount_95d88 y0)) rfl) rfl rfl (by decide) ⟨Nat.zero_le _, Nat.zero_le _⟩ (Nat.le_of_ble_eq_true rfl) dX8_cellInSet_6 ?_
    refine ab_icmp_lt C 15 dX8_cellInSet_9 (by decide) (fun c2 => ?_) (fun c2 => ?_)
    · replace hF := (if_pos c2).symm.trans hF
      refine ab_lload_n C 0 rfl rfl dX8_cellInSet_15 ?_
      refine ab_lstore_n (lv' := [(3, .long y0), (0, .long y0), (2, .int x2)]) C dX8_cellInSet_16 rfl ⟨by decide, by decide⟩ rfl ?_
      refine ab_iload_n C 2 rfl rfl dX8_cellInSet_17 ?_
      refine ab_istore (lv' := [(5, .int x2), (3, .long y0), (0, .long y0), (2, .int x2)]) C dX8_cellInSet_18 (by decide) rfl ?_
      have L20 : ∀ (n20 : Nat) (v3 : Int64) (v4 : Int32), ∀ (res20 : Int64), X8_cellInSet_L20 n20 v3 v4 = some res20 → (aV X G 6 37 [(3, .long res20)] [] h nx 0 0) → aV X G 6 20 [(3, .long v3), (5, .int v4)] [] h nx 0 0 := by
        intro n20
        induction n20 with
        | zero => intro v3 v4 res20 hF KX20; cases (show (none : Option (Int64)) = some res20 from hF)
        | succ n20 ih20 =>
          intro v3 v4 res20 hF KX20
          rw [X8_cellInSet_L20] at hF
          refine ab_iload C 1 rfl dX8_cellInSet_20 ?_
          refine ab_if_le C 37 dX8_cellInSet_22 (by decide) (fun c5 => ?_) (fun c5 => ?_)
          · replace hF := (if_pos c5).symm.trans hF
            obtain rfl := Option.some.inj hF
            refine aV.sub (lv' := [(3, .long v3)]) [0] rfl ?_
            exact KX20
          · replace hF := (if_neg c5).symm.trans hF
            refine ab_lload_n C 0 rfl rfl dX8_cellInSet_25 ?_
            refine ab_lload_n C 0 rfl rfl dX8_cellInSet_26 ?_
            refine ab_lconst (v := (1 : Int64)) C dX8_cellInSet_27 (by decide) ?_
            refine ab_lsub C dX8_cellInSet_28 ?_
            refine ab_land C dX8_cellInSet_29 ?_
            refine ab_topl (fun v6 qv6 => ?_)
            replace hF := aLet_e hF v6 qv6
            refine ab_lstore_n (lv' := [(3, .long v6), (5, .int v4)]) C dX8_cellInSet_30 rfl ⟨by decide, by decide⟩ rfl ?_
            obtain ⟨v7, qv7⟩ : ∃ y : Int32, y = (v4 + (-1 : Int32)) := ⟨_, rfl⟩
            replace hF := aLet_e hF v7 qv7
            refine ab_iinc (lv' := [(5, .int v7), (3, .long v6)]) C 1 rfl dX8_cellInSet_31 (by rw [qv7]; rfl) (by decide) rfl ?_
            refine ab_goto C 20 dX8_cellInSet_34 (by decide) ?_
            refine aV.sub (lv' := [(3, .long v6), (5, .int v7)]) [1, 0] rfl ?_
            exact ih20 v6 v7 res20 hF KX20
      refine aV.sub (lv' := [(3, .long y0), (5, .int x2)]) [1, 0] rfl ?_
      obtain ⟨e8, he8, hF⟩ := Option.bind_eq_some_iff.mp hF
      refine L20 aFu y0 x2 e8 he8 ?_
      refine ab_lload_n C 0 rfl rfl dX8_cellInSet_37 ?_
      refine ab_cSR (v := .int (X8_leastCell e8)) (st := []) C lm_X8_363 (X8_leastCell_ok (xl X) (r := (X8_leastCell e8)) rfl) rfl rfl (by decide) ⟨Nat.zero_le _, Nat.zero_le _⟩ (Nat.le_of_ble_eq_true rfl) dX8_cellInSet_38 ?_
      obtain rfl := Option.some.inj hF
      exact ab_iret C R0 rfl dX8_cellInSet_41 ⟨rfl, rfl, rfl⟩
    · replace hF := (if_neg c2).symm.trans hF
      refine ab_bipush (v := (-4 : Int32)) C dX8_cellInSet_12 (by decide) ?_
      obtain rfl := Option.some.inj hF
      exact ab_iret C R0 rfl dX8_cellInSet_14 ⟨rfl, rfl, rfl⟩
theorem dX8_buys_0 : decode cX8_buys 0 = .ok (.aload_n 0, 1) := by decide +kernel
theorem dX8_buys_1 : decode cX8_buys 1 = .ok (.getfield 19, 3) := by decide +kernel
theorem dX8_buys_4 : decode cX8_buys 4 = .ok (.iload_n 1, 1) := by decide +kernel
theorem dX8_buys_5 : decode cX8_buys 5 = .ok (.invokevirtual 107, 3) := by decide +kernel
theorem dX8_buys_8 : decode cX8_buys 8 = .ok (.ifCond .eq 19, 3) := by decide +kernel
theorem dX8_buys_11 : decode cX8_buys 11 = .ok (.aload_n 0, 1) := by decide +kernel
theorem dX8_buys_12 : decode cX8_buys 12 = .ok (.getfield 19, 3) := by decide +kernel
theorem dX8_buys_15 : decode cX8_buys 15 = .ok (.iload_n 2, 1) := by decide +kernel
theorem dX8_buys_16 : decode cX8_buys 16 = .ok (.invokevirtual 147, 3) := by decide +kernel
theorem dX8_buys_19 : decode cX8_buys 19 = .ok (.ifCond .eq 8, 3) := by decide +kernel
theorem dX8_buys_22 : decode cX8_buys 22 = .ok (.iload_n 3, 1) := by decide +kernel
theorem dX8_buys_23 : decode cX8_buys 23 = .ok (.iconst (-1), 1) := by decide +kernel
theorem dX8_buys_24 : decode cX8_buys 24 = .ok (.if_icmp .ge 5, 3) := by decide +kernel
theorem dX8_buys_27 : decode cX8_buys 27 = .ok (.iconst (-1), 1) := by decide +kernel
theorem dX8_buys_28 : decode cX8_buys 28 = .ok (.ireturn, 1) := by decide +kernel
theorem dX8_buys_29 : decode cX8_buys 29 = .ok (.aload_n 0, 1) := by decide +kernel
theorem dX8_buys_30 : decode cX8_buys 30 = .ok (.iload_n 1, 1) := by decide +kernel
theorem dX8_buys_31 : decode cX8_buys 31 = .ok (.aload_n 0, 1) := by decide +kernel
theorem dX8_buys_32 : decode cX8_buys 32 = .ok (.getfield 19, 3) := by decide +kernel
theorem dX8_buys_35 : decode cX8_buys 35 = .ok (.getfield 153, 3) := by decide +kernel
theorem dX8_buys_38 : decode cX8_buys 38 = .ok (.iload_n 2, 1) := by decide +kernel
theorem dX8_buys_39 : decode cX8_buys 39 = .ok (.iaload, 1) := by decide +kernel
theorem dX8_buys_40 : decode cX8_buys 40 = .ok (.invokevirtual 193, 3) := by decide +kernel
theorem dX8_buys_43 : decode cX8_buys 43 = .ok (.lstore 4, 2) := by decide +kernel
theorem dX8_buys_45 : decode cX8_buys 45 = .ok (.lload 4, 2) := by decide +kernel
theorem dX8_buys_47 : decode cX8_buys 47 = .ok (.ldc2_w 197, 3) := by decide +kernel
theorem dX8_buys_50 : decode cX8_buys 50 = .ok (.lcmp, 1) := by decide +kernel
theorem dX8_buys_51 : decode cX8_buys 51 = .ok (.ifCond .ne 6, 3) := by decide +kernel
theorem dX8_buys_54 : decode cX8_buys 54 = .ok (.bipush (-4), 2) := by decide +kernel
theorem dX8_buys_56 : decode cX8_buys 56 = .ok (.ireturn, 1) := by decide +kernel
theorem dX8_buys_57 : decode cX8_buys 57 = .ok (.iload_n 3, 1) := by decide +kernel
theorem dX8_buys_58 : decode cX8_buys 58 = .ok (.iconst (-1), 1) := by decide +kernel
theorem dX8_buys_59 : decode cX8_buys 59 = .ok (.if_icmp .ne 11, 3) := by decide +kernel
theorem dX8_buys_62 : decode cX8_buys 62 = .ok (.lload 4, 2) := by decide +kernel
theorem dX8_buys_64 : decode cX8_buys 64 = .ok (.invokestatic 124, 3) := by decide +kernel
theorem dX8_buys_67 : decode cX8_buys 67 = .ok (.goto 9, 3) := by decide +kernel
theorem dX8_buys_70 : decode cX8_buys 70 = .ok (.lload 4, 2) := by decide +kernel
theorem dX8_buys_72 : decode cX8_buys 72 = .ok (.iload_n 3, 1) := by decide +kernel
theorem dX8_buys_73 : decode cX8_buys 73 = .ok (.invokestatic 199, 3) := by decide +kernel
theorem dX8_buys_76 : decode cX8_buys 76 = .ok (.ireturn, 1) := by decide +kernel
def X8_buys (S_now : Rec) (S_sets : Rec) (x1 : Int32) (x2 : Int32) (x3 : Int32) : Option (Int32 × Rec) :=
  if (X2_hasHolder S_now x1) = 0 then
    some ((-1 : Int32), S_sets)
  else
    if (X2_hasWord S_now x2) = 0 then
      some ((-1 : Int32), S_sets)
    else
      if (-1 : Int32) ≤ x3 then
        (rdI (S_now.2.1 6) 4 x2).bind fun v4 =>
        (X8_cheapestFor S_now S_sets x1 v4).bind fun v5 =>
        if (lg_cmp v5.1 (-1 : Int64)) = 0 then
          some ((-4 : Int32), v5.2)
        else
          if x3 = (-1 : Int32) then
            (X8_priceOf v5.1).bind fun v10 =>
            some (v10, v5.2)
          else
            (X8_cellInSet v5.1 x3).bind fun v9 =>
            some (v9, v5.2)
      else
        some ((-1 : Int32), S_sets)
set_option maxRecDepth 100000 in
set_option maxHeartbeats 4000000 in
theorem X8_buys_ok (l : Launch) {h : aH} {nx : Nat} {S_now : Rec} {S_sets : Rec} {x1 : Int32} {x2 : Int32} {x3 : Int32} (hBxo : X8_at h) (hBnow : X2_at h 7 S_now) (hBsets : X0_at h 35 S_sets) {r : Int32 × Rec} (hF : X8_buys S_now S_sets x1 x2 x3 = some r) : aOk l 5 0 0 yX8_buys cX8_buys 6 (some .int) [.ref 4, .int x1, .int x2, .int x3] h nx (aMt (some (.int r.1)) nx (fun h1 => X0_at h1 35 r.2 ∧ (∀ q, (q < 35 ∨ 35 + 3 ≤ q) → h1 q = h q))) := by
  refine aOk.of (by decide +kernel) (Nat.le_of_ble_eq_true rfl) (fun X G hX C R0 _ => ?_)
  subst hX
  show aV X G 6 0 [(0, .ref 4), (1, .int x1), (2, .int x2), (3, .int x3)] [] h nx 0 0
  have hFr : ∀ q, (q < 35 ∨ 35 + 3 ≤ q) → h q = h q := fun _ _ => rfl
  rw [X8_buys] at hF
  refine ab_aload_n C 0 rfl rfl dX8_buys_0 ?_
  refine ab_g8 (v := .ref 7) C lf_X8_19 hBxo rfl dX8_buys_1 ?_
  refine ab_iload_n C 1 rfl rfl dX8_buys_4 ?_
  refine ab_cVR (v := .int (X2_hasHolder S_now x1)) (st := []) C lm_X8_107 (X2_hasHolder_ok (xl X) hBnow (r := (X2_hasHolder S_now x1)) rfl) [.int x1] rfl hBnow.1 rfl rfl rfl (by decide) ⟨Nat.zero_le _, Nat.zero_le _⟩ (Nat.le_of_ble_eq_true rfl) dX8_buys_5 ?_
  refine ab_if_eq C 27 dX8_buys_8 (by decide) (fun c1 => ?_) (fun c1 => ?_)
  · replace hF := (if_pos c1).symm.trans hF
    refine ab_iconst (v := (-1 : Int32)) C dX8_buys_27 (by decide) ?_
    obtain rfl := Option.some.inj hF
    exact ab_iret C R0 rfl dX8_buys_28 ⟨rfl, rfl, hBsets, hFr⟩
  · replace hF := (if_neg c1).symm.trans hF
    refine ab_aload_n C 0 rfl rfl dX8_buys_11 ?_
    refine ab_g8 (v := .ref 7) C lf_X8_19 hBxo rfl dX8_buys_12 ?_
    refine ab_iload_n C 2 rfl rfl dX8_buys_15 ?_
    refine ab_cVR (v := .int (X2_hasWord S_now x2)) (st := []) C lm_X8_147 (X2_hasWord_ok (xl X) hBnow (r := (X2_hasWord S_now x2)) rfl) [.int x2] rfl hBnow.1 rfl rfl rfl (by decide) ⟨Nat.zero_le _, Nat.zero_le _⟩ (Nat.le_of_ble_eq_true rfl) dX8_buys_16 ?_
    refine ab_if_eq C 27 dX8_buys_19 (by decide) (fun c2 => ?_) (fun c2 => ?_)
    · replace hF := (if_pos c2).symm.trans hF
      refine ab_iconst (v := (-1 : Int32)) C dX8_buys_27 (by decide) ?_
      obtain rfl := Option.some.inj hF
      exact ab_iret C R0 rfl dX8_buys_28 ⟨rfl, rfl, hBsets, hFr⟩
    · replace hF := (if_neg c2).symm.trans hF
      refine ab_iload_n C 3 rfl rfl dX8_buys_22 ?_
      refine ab_iconst (v := (-1 : Int32)) C dX8_buys_23 (by decide) ?_
      refine ab_icmp_ge C 29 dX8_buys_24 (by decide) (fun c3 => ?_) (fun c3 => ?_)
      · replace hF := (if_pos c3).symm.trans hF
        refine ab_aload_n C 0 rfl rfl dX8_buys_29 ?_
        refine ab_iload_n C 1 rfl rfl dX8_buys_30 ?_
        refine ab_aload_n C 0 rfl rfl dX8_buys_31 ?_
        refine ab_g8 (v := .ref 7) C lf_X8_19 hBxo rfl dX8_buys_32 ?_
        refine ab_g2 (v := .ref (7 + 3)) C lf_X8_153 hBnow.1 rfl dX8_buys_35 ?_
        refine ab_iload_n C 2 rfl rfl dX8_buys_38 ?_
        obtain ⟨v4, hxv4, hF⟩ := Option.bind_eq_some_iff.mp hF
        refine ab_iald C (X2_r6 hBnow) hxv4 dX8_buys_39 ?_
        obtain ⟨v5, hxv5, hF⟩ := Option.bind_eq_some_iff.mp hF
        refine ab_cVM (v := .long v5.1) (st := []) C lm_X8_193 (X8_cheapestFor_ok (xl X) hBxo hBnow hBsets (r := v5) hxv5) [.int x1, .int v4] rfl hBxo rfl rfl rfl (by decide) ⟨Nat.zero_le _, Nat.zero_le _⟩ (Nat.le_of_ble_eq_true rfl) dX8_buys_40 (fun g6 pg6 => ?_)
        obtain ⟨k0, Og6⟩ := pg6
        have hBsets : X0_at g6 35 v5.2 := k0
        have hBxo : X8_at g6 := (Og6 4 (by omega)).trans hBxo
        have hBnow : X2_at g6 7 S_now := X2_off hBnow (fun q i1 i2 => Og6 q (by omega))
        have hFr : ∀ q, (q < 35 ∨ 35 + 3 ≤ q) → g6 q = h q := fun q u0 => (Og6 q (by omega)).trans (hFr q u0)
        refine ab_lstore (lv' := [(4, .long v5.1), (0, .ref 4), (1, .int x1), (2, .int x2), (3, .int x3)]) C dX8_buys_43 ⟨by decide, by decide⟩ rfl ?_
        refine ab_lload C 0 rfl dX8_buys_45 ?_
        refine ab_ldc2 (v := (-1 : Int64)) C dX8_buys_47 lq_X8_197 ?_
        refine ab_lcmp C dX8_buys_50 ?_
        refine ab_if_ne C 57 dX8_buys_51 (by decide) (fun c7 => ?_) (fun c7 => ?_)
        · replace hF := (if_neg c7).symm.trans hF
          refine ab_iload_n C 4 rfl rfl dX8_buys_57 ?_
          refine ab_iconst (v := (-1 : Int32)) C dX8_buys_58 (by decide) ?_
          refine ab_icmp_ne C 70 dX8_buys_59 (by decide) (fun c8 => ?_) (fun c8 => ?_)
          · replace hF := (if_neg c8).symm.trans hF
            refine ab_lload C 0 rfl dX8_buys_70 ?_
            refine ab_iload_n C 4 rfl rfl dX8_buys_72 ?_
            obtain ⟨v9, hxv9, hF⟩ := Option.bind_eq_some_iff.mp hF
            refine ab_cSR (v := .int v9) (st := []) C lm_X8_199 (X8_cellInSet_ok (xl X) (r := v9) hxv9) rfl rfl (by decide) ⟨Nat.zero_le _, Nat.zero_le _⟩ (Nat.le_of_ble_eq_true rfl) dX8_buys_73 ?_
            obtain rfl := Option.some.inj hF
            exact ab_iret C R0 rfl dX8_buys_76 ⟨rfl, rfl, hBsets, hFr⟩
          · replace hF := (if_pos c8).symm.trans hF
            refine ab_lload C 0 rfl dX8_buys_62 ?_
            obtain ⟨v10, hxv10, hF⟩ := Option.bind_eq_some_iff.mp hF
            refine ab_cSR (v := .int v10) (st := []) C lm_X8_124 (X8_priceOf_ok (xl X) (r := v10) hxv10) rfl rfl (by decide) ⟨Nat.zero_le _, Nat.zero_le _⟩ (Nat.le_of_ble_eq_true rfl) dX8_buys_64 ?_
            refine ab_goto C 76 dX8_buys_67 (by decide) ?_
            obtain rfl := Option.some.inj hF
            exact ab_iret C R0 rfl dX8_buys_76 ⟨rfl, rfl, hBsets, hFr⟩
        · replace hF := (if_pos c7).symm.trans hF
          refine ab_bipush (v := (-4 : Int32)) C dX8_buys_54 (by decide) ?_
          obtain rfl := Option.some.inj hF
          exact ab_iret C R0 rfl dX8_buys_56 ⟨rfl, rfl, hBsets, hFr⟩
      · replace hF := (if_neg c3).symm.trans hF
        refine ab_iconst (v := (-1 : Int32)) C dX8_buys_27 (by decide) ?_
        obtain rfl := Option.some.inj hF
        exact ab_iret C R0 rfl dX8_buys_28 ⟨rfl, rfl, hBsets, hFr⟩
theorem dX8_partAround_0 : decode cX8_partAround 0 = .ok (.lload_n 0, 1) := by decide +kernel
theorem dX8_partAround_1 : decode cX8_partAround 1 = .ok (.lstore 4, 2) := by decide +kernel
theorem dX8_partAround_3 : decode cX8_partAround 3 = .ok (.bipush 36, 2) := by decide +kernel
theorem dX8_partAround_5 : decode cX8_partAround 5 = .ok (.istore 6, 2) := by decide +kernel
theorem dX8_partAround_7 : decode cX8_partAround 7 = .ok (.iload 6, 2) := by decide +kernel
theorem dX8_partAround_9 : decode cX8_partAround 9 = .ok (.ifCond .le 21, 3) := by decide +kernel
theorem dX8_partAround_12 : decode cX8_partAround 12 = .ok (.lload 4, 2) := by decide +kernel
theorem dX8_partAround_14 : decode cX8_partAround 14 = .ok (.lload 4, 2) := by decide +kernel
theorem dX8_partAround_16 : decode cX8_partAround 16 = .ok (.invokestatic 366, 3) := by decide +kernel
theorem dX8_partAround_19 : decode cX8_partAround 19 = .ok (.lload_n 2, 1) := by decide +kernel
theorem dX8_partAround_20 : decode cX8_partAround 20 = .ok (.land, 1) := by decide +kernel
theorem dX8_partAround_21 : decode cX8_partAround 21 = .ok (.lor, 1) := by decide +kernel
theorem dX8_partAround_22 : decode cX8_partAround 22 = .ok (.lstore 4, 2) := by decide +kernel
theorem dX8_partAround_24 : decode cX8_partAround 24 = .ok (.iinc 6 (-1), 3) := by decide +kernel
theorem dX8_partAround_27 : decode cX8_partAround 27 = .ok (.goto (-20), 3) := by decide +kernel
theorem dX8_partAround_30 : decode cX8_partAround 30 = .ok (.lload 4, 2) := by decide +kernel
theorem dX8_partAround_32 : decode cX8_partAround 32 = .ok (.lreturn, 1) := by decide +kernel
def X8_partAround_L7 (y2 : Int64) : Nat → Int64 → Int32 → Option (Int64)
  | 0, _, _ => none
  | n7 + 1, v1, v2 => if v2 ≤ 0 then
      some v1
    else
      aLet (v1 ||| ((X8_beside v1) &&& y2)) fun v4 =>
      aLet (v2 + (-1 : Int32)) fun v5 =>
      X8_partAround_L7 y2 n7 v4 v5
def X8_partAround (y0 : Int64) (y2 : Int64) : Option (Int64) :=
  (X8_partAround_L7 y2 aFu y0 (36 : Int32)).bind fun e6 =>
  some e6
set_option maxRecDepth 100000 in
set_option maxHeartbeats 4000000 in
theorem X8_partAround_ok (l : Launch) {h : aH} {nx : Nat} {y0 : Int64} {y2 : Int64} {r : Int64} (hF : X8_partAround y0 y2 = some r) : aOk l 1 0 0 yX8_partAround cX8_partAround 7 (some .long) [.long y0, .long y2] h nx (aRd (.long r) h nx) := by
  refine aOk.of (by decide +kernel) (Nat.le_of_ble_eq_true rfl) (fun X G hX C R0 _ => ?_)
  subst hX
  show aV X G 7 0 [(0, .long y0), (2, .long y2)] [] h nx 0 0
  rw [X8_partAround] at hF
  refine ab_lload_n C 0 rfl rfl dX8_partAround_0 ?_
  refine ab_lstore (lv' := [(4, .long y0), (0, .long y0), (2, .long y2)]) C dX8_partAround_1 ⟨by decide, by decide⟩ rfl ?_
  refine ab_bipush (v := (36 : Int32)) C dX8_partAround_3 (by decide) ?_
  refine ab_istore (lv' := [(6, .int (36 : Int32)), (4, .long y0), (0, .long y0), (2, .long y2)]) C dX8_partAround_5 (by decide) rfl ?_
  have L7 : ∀ (n7 : Nat) (v1 : Int64) (v2 : Int32), ∀ (res7 : Int64), X8_partAround_L7 y2 n7 v1 v2 = some res7 → (aV X G 7 30 [(4, .long res7)] [] h nx 0 0) → aV X G 7 7 [(2, .long y2), (4, .long v1), (6, .int v2)] [] h nx 0 0 := by
    intro n7
    induction n7 with
    | zero => intro v1 v2 res7 hF KX7; cases (show (none : Option (Int64)) = some res7 from hF)
    | succ n7 ih7 =>
      intro v1 v2 res7 hF KX7
      rw [X8_partAround_L7] at hF
      refine ab_iload C 2 rfl dX8_partAround_7 ?_
      refine ab_if_le C 30 dX8_partAround_9 (by decide) (fun c3 => ?_) (fun c3 => ?_)
      · replace hF := (if_pos c3).symm.trans hF
        obtain rfl := Option.some.inj hF
        refine aV.sub (lv' := [(4, .long v1)]) [1] rfl ?_
        exact KX7
      · replace hF := (if_neg c3).symm.trans hF
        refine ab_lload C 1 rfl dX8_partAround_12 ?_
        refine ab_lload C 1 rfl dX8_partAround_14 ?_
        refine ab_cSR (v := .long (X8_beside v1)) (st := [.long v1]) C lm_X8_366 (X8_beside_ok (xl X) (r := (X8_beside v1)) rfl) rfl rfl (by decide) ⟨Nat.zero_le _, Nat.zero_le _⟩ (Nat.le_of_ble_eq_true rfl) dX8_partAround_16 ?_
        refine ab_lload_n C 0 rfl rfl dX8_partAround_19 ?_
        refine ab_land C dX8_partAround_20 ?_
        refine ab_lor C dX8_partAround_21 ?_
        refine ab_topl (fun v4 qv4 => ?_)
        replace hF := aLet_e hF v4 qv4
        refine ab_lstore (lv' := [(4, .long v4), (2, .long y2), (6, .int v2)]) C dX8_partAround_22 ⟨by decide, by decide⟩ rfl ?_
        obtain ⟨v5, qv5⟩ : ∃ y : Int32, y = (v2 + (-1 : Int32)) := ⟨_, rfl⟩
        replace hF := aLet_e hF v5 qv5
        refine ab_iinc (lv' := [(6, .int v5), (4, .long v4), (2, .long y2)]) C 2 rfl dX8_partAround_24 (by rw [qv5]; rfl) (by decide) rfl ?_
        refine ab_goto C 7 dX8_partAround_27 (by decide) ?_
        refine aV.sub (lv' := [(2, .long y2), (4, .long v4), (6, .int v5)]) [2, 1, 0] rfl ?_
        exact ih7 v4 v5 res7 hF KX7
  refine aV.sub (lv' := [(2, .long y2), (4, .long y0), (6, .int (36 : Int32))]) [3, 1, 0] rfl ?_
  obtain ⟨e6, he6, hF⟩ := Option.bind_eq_some_iff.mp hF
  refine L7 aFu y0 (36 : Int32) e6 he6 ?_
  refine ab_lload C 0 rfl dX8_partAround_30 ?_
  obtain rfl := Option.some.inj hF
  exact ab_lret C R0 dX8_partAround_32 ⟨rfl, rfl, rfl⟩
theorem dX8_scattered_0 : decode cX8_scattered 0 = .ok (.aload_n 0, 1) := by decide +kernel
theorem dX8_scattered_1 : decode cX8_scattered 1 = .ok (.getfield 19, 3) := by decide +kernel
theorem dX8_scattered_4 : decode cX8_scattered 4 = .ok (.iload_n 1, 1) := by decide +kernel
theorem dX8_scattered_5 : decode cX8_scattered 5 = .ok (.invokevirtual 107, 3) := by decide +kernel
theorem dX8_scattered_8 : decode cX8_scattered 8 = .ok (.ifCond .eq 12, 3) := by decide +kernel
theorem dX8_scattered_11 : decode cX8_scattered 11 = .ok (.iload_n 2, 1) := by decide +kernel
theorem dX8_scattered_12 : decode cX8_scattered 12 = .ok (.iconst 0, 1) := by decide +kernel
theorem dX8_scattered_13 : decode cX8_scattered 13 = .ok (.iconst 1, 1) := by decide +kernel
theorem dX8_scattered_14 : decode cX8_scattered 14 = .ok (.invokestatic 74, 3) := by decide +kernel
theorem dX8_scattered_17 : decode cX8_scattered 17 = .ok (.ifCond .ne 5, 3) := by decide +kernel
theorem dX8_scattered_20 : decode cX8_scattered 20 = .ok (.iconst (-1), 1) := by decide +kernel
theorem dX8_scattered_21 : decode cX8_scattered 21 = .ok (.ireturn, 1) := by decide +kernel
theorem dX8_scattered_22 : decode cX8_scattered 22 = .ok (.aload_n 0, 1) := by decide +kernel
theorem dX8_scattered_23 : decode cX8_scattered 23 = .ok (.getfield 19, 3) := by decide +kernel
theorem dX8_scattered_26 : decode cX8_scattered 26 = .ok (.getfield 114, 3) := by decide +kernel
theorem dX8_scattered_29 : decode cX8_scattered 29 = .ok (.iload_n 1, 1) := by decide +kernel
theorem dX8_scattered_30 : decode cX8_scattered 30 = .ok (.laload, 1) := by decide +kernel
theorem dX8_scattered_31 : decode cX8_scattered 31 = .ok (.lstore_n 3, 1) := by decide +kernel
theorem dX8_scattered_32 : decode cX8_scattered 32 = .ok (.iconst 0, 1) := by decide +kernel
theorem dX8_scattered_33 : decode cX8_scattered 33 = .ok (.istore 5, 2) := by decide +kernel
theorem dX8_scattered_35 : decode cX8_scattered 35 = .ok (.iconst 0, 1) := by decide +kernel
theorem dX8_scattered_36 : decode cX8_scattered 36 = .ok (.istore 6, 2) := by decide +kernel
theorem dX8_scattered_38 : decode cX8_scattered 38 = .ok (.bipush 36, 2) := by decide +kernel
theorem dX8_scattered_40 : decode cX8_scattered 40 = .ok (.istore 7, 2) := by decide +kernel
theorem dX8_scattered_42 : decode cX8_scattered 42 = .ok (.iload 7, 2) := by decide +kernel
theorem dX8_scattered_44 : decode cX8_scattered 44 = .ok (.ifCond .le 49, 3) := by decide +kernel
theorem dX8_scattered_47 : decode cX8_scattered 47 = .ok (.lload_n 3, 1) := by decide +kernel
theorem dX8_scattered_48 : decode cX8_scattered 48 = .ok (.lconst 0, 1) := by decide +kernel
theorem dX8_scattered_49 : decode cX8_scattered 49 = .ok (.lcmp, 1) := by decide +kernel
theorem dX8_scattered_50 : decode cX8_scattered 50 = .ok (.ifCond .eq 43, 3) := by decide +kernel
theorem dX8_scattered_53 : decode cX8_scattered 53 = .ok (.lload_n 3, 1) := by decide +kernel
theorem dX8_scattered_54 : decode cX8_scattered 54 = .ok (.lload_n 3, 1) := by decide +kernel
theorem dX8_scattered_55 : decode cX8_scattered 55 = .ok (.lneg, 1) := by decide +kernel
theorem dX8_scattered_56 : decode cX8_scattered 56 = .ok (.land, 1) := by decide +kernel
theorem dX8_scattered_57 : decode cX8_scattered 57 = .ok (.lload_n 3, 1) := by decide +kernel
theorem dX8_scattered_58 : decode cX8_scattered 58 = .ok (.invokestatic 203, 3) := by decide +kernel
theorem dX8_scattered_61 : decode cX8_scattered 61 = .ok (.lstore 8, 2) := by decide +kernel
theorem dX8_scattered_63 : decode cX8_scattered 63 = .ok (.iinc 5 1, 3) := by decide +kernel
theorem dX8_scattered_66 : decode cX8_scattered 66 = .ok (.iload 6, 2) := by decide +kernel
theorem dX8_scattered_68 : decode cX8_scattered 68 = .ok (.lload 8, 2) := by decide +kernel
theorem dX8_scattered_70 : decode cX8_scattered 70 = .ok (.invokestatic 118, 3) := by decide +kernel
theorem dX8_scattered_73 : decode cX8_scattered 73 = .ok (.invokestatic 207, 3) := by decide +kernel
theorem dX8_scattered_76 : decode cX8_scattered 76 = .ok (.istore 6, 2) := by decide +kernel
theorem dX8_scattered_78 : decode cX8_scattered 78 = .ok (.lload_n 3, 1) := by decide +kernel
theorem dX8_scattered_79 : decode cX8_scattered 79 = .ok (.lload 8, 2) := by decide +kernel
theorem dX8_scattered_81 : decode cX8_scattered 81 = .ok (.ldc2_w 197, 3) := by decide +kernel
theorem dX8_scattered_84 : decode cX8_scattered 84 = .ok (.lxor, 1) := by decide +kernel
theorem dX8_scattered_85 : decode cX8_scattered 85 = .ok (.land, 1) := by decide +kernel
theorem dX8_scattered_86 : decode cX8_scattered 86 = .ok (.lstore_n 3, 1) := by decide +kernel
theorem dX8_scattered_87 : decode cX8_scattered 87 = .ok (.iinc 7 (-1), 3) := by decide +kernel
theorem dX8_scattered_90 : decode cX8_scattered 90 = .ok (.goto (-48), 3) := by decide +kernel
theorem dX8_scattered_93 : decode cX8_scattered 93 = .ok (.iload_n 2, 1) := by decide +kernel
theorem dX8_scattered_94 : decode cX8_scattered 94 = .ok (.ifCond .ne 8, 3) := by decide +kernel
theorem dX8_scattered_97 : decode cX8_scattered 97 = .ok (.iload 5, 2) := by decide +kernel
theorem dX8_scattered_99 : decode cX8_scattered 99 = .ok (.goto 5, 3) := by decide +kernel
theorem dX8_scattered_102 : decode cX8_scattered 102 = .ok (.iload 6, 2) := by decide +kernel
theorem dX8_scattered_104 : decode cX8_scattered 104 = .ok (.ireturn, 1) := by decide +kernel
def X8_scattered_L42 : Nat → Int64 → Int32 → Int32 → Int32 → Option (Int32 × Int32)
  | 0, _, _, _, _ => none
  | n42 + 1, v4, v5, v6, v7 => if v7 ≤ 0 then
      some (v5, v6)
    else
      if (lg_cmp v4 (0 : Int64)) = 0 then
        some (v5, v6)
      else
        (X8_partAround (v4 &&& (-v4)) v4).bind fun v10 =>
        aLet (v5 + (1 : Int32)) fun v11 =>
        aLet (a_max v6 (J13_bitCount_95d88 v10)) fun v12 =>
        aLet (v4 &&& (v10 ^^^ (-1 : Int64))) fun v13 =>
        aLet (v7 + (-1 : Int32)) fun v14 =>
        X8_scattered_L42 n42 v13 v11 v12 v14
def X8_scattered (S_now : Rec) (x1 : Int32) (x2 : Int32) : Option (Int32) :=
  if (X2_hasHolder S_now x1) = 0 then
    some (-1 : Int32)
  else
    if (X8_within x2 (0 : Int32) (1 : Int32)) = 0 then
      some (-1 : Int32)
    else
      (rdL (S_now.2.2 10) 7 x1).bind fun v3 =>
      (X8_scattered_L42 aFu v3 (0 : Int32) (0 : Int32) (36 : Int32)).bind fun e15 =>
      if x2 = 0 then
        some e15.1
      else
        some e15.2
set_option maxRecDepth 100000 in
set_option maxHeartbeats 4000000 in
theorem X8_scattered_ok (l : Launch) {h : aH} {nx : Nat} {S_now : Rec} {x1 : Int32} {x2 : Int32} (hBxo : X8_at h) (hBnow : X2_at h 7 S_now) {r : Int32} (hF : X8_scattered S_now x1 x2 = some r) : aOk l 2 0 0 yX8_scattered cX8_scattered 10 (some .int) [.ref 4, .int x1, .int x2] h nx (aRd (.int r) h nx) := by
  refine aOk.of (by decide +kernel) (Nat.le_of_ble_eq_true rfl) (fun X G hX C R0 _ => ?_)
  subst hX
  show aV X G 10 0 [(0, .ref 4), (1, .int x1), (2, .int x2)] [] h nx 0 0
  rw [X8_scattered] at hF
  refine ab_aload_n C 0 rfl rfl dX8_scattered_0 ?_
  refine ab_g8 (v := .ref 7) C lf_X8_19 hBxo rfl dX8_scattered_1 ?_
  refine ab_iload_n C 1 rfl rfl dX8_scattered_4 ?_
  refine ab_cVR (v := .int (X2_hasHolder S_now x1)) (st := []) C lm_X8_107 (X2_hasHolder_ok (xl X) hBnow (r := (X2_hasHolder S_now x1)) rfl) [.int x1] rfl hBnow.1 rfl rfl rfl (by decide) ⟨Nat.zero_le _, Nat.zero_le _⟩ (Nat.le_of_ble_eq_true rfl) dX8_scattered_5 ?_
  refine ab_if_eq C 20 dX8_scattered_8 (by decide) (fun c1 => ?_) (fun c1 => ?_)
  · replace hF := (if_pos c1).symm.trans hF
    refine ab_iconst (v := (-1 : Int32)) C dX8_scattered_20 (by decide) ?_
    obtain rfl := Option.some.inj hF
    exact ab_iret C R0 rfl dX8_scattered_21 ⟨rfl, rfl, rfl⟩
  · replace hF := (if_neg c1).symm.trans hF
    refine ab_iload_n C 2 rfl rfl dX8_scattered_11 ?_
    refine ab_iconst (v := (0 : Int32)) C dX8_scattered_12 (by decide) ?_
    refine ab_iconst (v := (1 : Int32)) C dX8_scattered_13 (by decide) ?_
    refine ab_cSR (v := .int (X8_within x2 (0 : Int32) (1 : Int32))) (st := []) C lm_X8_74 (X8_within_ok (xl X) (r := (X8_within x2 (0 : Int32) (1 : Int32))) rfl) rfl rfl (by decide) ⟨Nat.zero_le _, Nat.zero_le _⟩ (Nat.le_of_ble_eq_true rfl) dX8_scattered_14 ?_
    refine ab_if_ne C 22 dX8_scattered_17 (by decide) (fun c2 => ?_) (fun c2 => ?_)
    · replace hF := (if_neg c2).symm.trans hF
      refine ab_aload_n C 0 rfl rfl dX8_scattered_22 ?_
      refine ab_g8 (v := .ref 7) C lf_X8_19 hBxo rfl dX8_scattered_23 ?_
      refine ab_g2 (v := .ref (7 + 6)) C lf_X8_114 hBnow.1 rfl dX8_scattered_26 ?_
      refine ab_iload_n C 1 rfl rfl dX8_scattered_29 ?_
      obtain ⟨v3, hxv3, hF⟩ := Option.bind_eq_some_iff.mp hF
      refine ab_lald C (X2_r10 hBnow) hxv3 dX8_scattered_30 ?_
      refine ab_lstore_n (lv' := [(3, .long v3), (0, .ref 4), (1, .int x1), (2, .int x2)]) C dX8_scattered_31 rfl ⟨by decide, by decide⟩ rfl ?_
      refine ab_iconst (v := (0 : Int32)) C dX8_scattered_32 (by decide) ?_
      refine ab_istore (lv' := [(5, .int (0 : Int32)), (3, .long v3), (0, .ref 4), (1, .int x1), (2, .int x2)]) C dX8_scattered_33 (by decide) rfl ?_
      refine ab_iconst (v := (0 : Int32)) C dX8_scattered_35 (by decide) ?_
      refine ab_istore (lv' := [(6, .int (0 : Int32)), (5, .int (0 : Int32)), (3, .long v3), (0, .ref 4), (1, .int x1), (2, .int x2)]) C dX8_scattered_36 (by decide) rfl ?_
      refine ab_bipush (v := (36 : Int32)) C dX8_scattered_38 (by decide) ?_
      refine ab_istore (lv' := [(7, .int (36 : Int32)), (6, .int (0 : Int32)), (5, .int (0 : Int32)), (3, .long v3), (0, .ref 4), (1, .int x1), (2, .int x2)]) C dX8_scattered_40 (by decide) rfl ?_
      have L42 : ∀ (n42 : Nat) (v4 : Int64) (v5 : Int32) (v6 : Int32) (v7 : Int32), ∀ (res42 : Int32 × Int32), X8_scattered_L42 n42 v4 v5 v6 v7 = some res42 → (aV X G 10 93 [(2, .int x2), (5, .int res42.1), (6, .int res42.2)] [] h nx 0 0) → aV X G 10 42 [(2, .int x2), (3, .long v4), (5, .int v5), (6, .int v6), (7, .int v7)] [] h nx 0 0 := by
        intro n42
        induction n42 with
        | zero => intro v4 v5 v6 v7 res42 hF KX42; cases (show (none : Option (Int32 × Int32)) = some res42 from hF)
        | succ n42 ih42 =>
          intro v4 v5 v6 v7 res42 hF KX42
          rw [X8_scattered_L42] at hF
          refine ab_iload C 4 rfl dX8_scattered_42 ?_
          refine ab_if_le C 93 dX8_scattered_44 (by decide) (fun c8 => ?_) (fun c8 => ?_)
          · replace hF := (if_pos c8).symm.trans hF
            obtain rfl := Option.some.inj hF
            refine aV.sub (lv' := [(2, .int x2), (5, .int v5), (6, .int v6)]) [0, 2, 3] rfl ?_
            exact KX42
          · replace hF := (if_neg c8).symm.trans hF
            refine ab_lload_n C 1 rfl rfl dX8_scattered_47 ?_
            refine ab_lconst (v := (0 : Int64)) C dX8_scattered_48 (by decide) ?_
            refine ab_lcmp C dX8_scattered_49 ?_
            refine ab_if_eq C 93 dX8_scattered_50 (by decide) (fun c9 => ?_) (fun c9 => ?_)
            · replace hF := (if_pos c9).symm.trans hF
              obtain rfl := Option.some.inj hF
              refine aV.sub (lv' := [(2, .int x2), (5, .int v5), (6, .int v6)]) [0, 2, 3] rfl ?_
              exact KX42
            · replace hF := (if_neg c9).symm.trans hF
              refine ab_lload_n C 1 rfl rfl dX8_scattered_53 ?_
              refine ab_lload_n C 1 rfl rfl dX8_scattered_54 ?_
              refine ab_lneg C dX8_scattered_55 ?_
              refine ab_land C dX8_scattered_56 ?_
              refine ab_lload_n C 1 rfl rfl dX8_scattered_57 ?_
              obtain ⟨v10, hxv10, hF⟩ := Option.bind_eq_some_iff.mp hF
              refine ab_cSR (v := .long v10) (st := []) C lm_X8_203 (X8_partAround_ok (xl X) (r := v10) hxv10) rfl rfl (by decide) ⟨Nat.zero_le _, Nat.zero_le _⟩ (Nat.le_of_ble_eq_true rfl) dX8_scattered_58 ?_
              refine ab_lstore (lv' := [(8, .long v10), (2, .int x2), (3, .long v4), (5, .int v5), (6, .int v6), (7, .int v7)]) C dX8_scattered_61 ⟨by decide, by decide⟩ rfl ?_
              obtain ⟨v11, qv11⟩ : ∃ y : Int32, y = (v5 + (1 : Int32)) := ⟨_, rfl⟩
              replace hF := aLet_e hF v11 qv11
              refine ab_iinc (lv' := [(5, .int v11), (8, .long v10), (2, .int x2), (3, .long v4), (6, .int v6), (7, .int v7)]) C 3 rfl dX8_scattered_63 (by rw [qv11]; rfl) (by decide) rfl ?_
              refine ab_iload C 4 rfl dX8_scattered_66 ?_
              refine ab_lload C 1 rfl dX8_scattered_68 ?_
              refine ab_cSR (v := .int (J13_bitCount_95d88 v10)) (st := [.int v6]) C lm_X8_118 (J13_bitCount_95d88_ok (xl X) (r := (J13_bitCount_95d88 v10)) rfl) rfl rfl (by decide) ⟨Nat.zero_le _, Nat.zero_le _⟩ (Nat.le_of_ble_eq_true rfl) dX8_scattered_70 ?_
              refine ab_mmax C (own := RX8) (a_mem 680 (by decide +kernel) (by decide +kernel)) (Nat.le_of_ble_eq_true rfl) ⟨Nat.zero_le _, Nat.zero_le _⟩ (Nat.le_of_ble_eq_true rfl) dX8_scattered_73 ?_
              refine ab_topi (fun v12 qv12 => ?_)
              replace hF := aLet_e hF v12 qv12
              refine ab_istore (lv' := [(6, .int v12), (5, .int v11), (8, .long v10), (2, .int x2), (3, .long v4), (7, .int v7)]) C dX8_scattered_76 (by decide) rfl ?_
              refine ab_lload_n C 4 rfl rfl dX8_scattered_78 ?_
              refine ab_lload C 2 rfl dX8_scattered_79 ?_
              refine ab_ldc2 (v := (-1 : Int64)) C dX8_scattered_81 lq_X8_197 ?_
              refine ab_lxor C dX8_scattered_84 ?_
              refine ab_land C dX8_scattered_85 ?_
              refine ab_topl (fun v13 qv13 => ?_)
              replace hF := aLet_e hF v13 qv13
              refine ab_lstore_n (lv' := [(3, .long v13), (6, .int v12), (5, .int v11), (8, .long v10), (2, .int x2), (7, .int v7)]) C dX8_scattered_86 rfl ⟨by decide, by decide⟩ rfl ?_
              obtain ⟨v14, qv14⟩ : ∃ y : Int32, y = (v7 + (-1 : Int32)) := ⟨_, rfl⟩
              replace hF := aLet_e hF v14 qv14
              refine ab_iinc (lv' := [(7, .int v14), (3, .long v13), (6, .int v12), (5, .int v11), (8, .long v10), (2, .int x2)]) C 5 rfl dX8_scattered_87 (by rw [qv14]; rfl) (by decide) rfl ?_
              refine ab_goto C 42 dX8_scattered_90 (by decide) ?_
              refine aV.sub (lv' := [(2, .int x2), (3, .long v13), (5, .int v11), (6, .int v12), (7, .int v14)]) [5, 1, 3, 2, 0] rfl ?_
              exact ih42 v13 v11 v12 v14 res42 hF KX42
      refine aV.sub (lv' := [(2, .int x2), (3, .long v3), (5, .int (0 : Int32)), (6, .int (0 : Int32)), (7, .int (36 : Int32))]) [6, 3, 2, 1, 0] rfl ?_
      obtain ⟨e15, he15, hF⟩ := Option.bind_eq_some_iff.mp hF
      refine L42 aFu v3 (0 : Int32) (0 : Int32) (36 : Int32) e15 he15 ?_
      refine ab_iload_n C 0 rfl rfl dX8_scattered_93 ?_
      refine ab_if_ne C 102 dX8_scattered_94 (by decide) (fun c16 => ?_) (fun c16 => ?_)
      · replace hF := (if_neg c16).symm.trans hF
        refine ab_iload C 2 rfl dX8_scattered_102 ?_
        obtain rfl := Option.some.inj hF
        exact ab_iret C R0 rfl dX8_scattered_104 ⟨rfl, rfl, rfl⟩
      · replace hF := (if_pos c16).symm.trans hF
        refine ab_iload C 1 rfl dX8_scattered_97 ?_
        refine ab_goto C 104 dX8_scattered_99 (by decide) ?_
        obtain rfl := Option.some.inj hF
        exact ab_iret C R0 rfl dX8_scattered_104 ⟨rfl, rfl, rfl⟩
    · replace hF := (if_pos c2).symm.trans hF
      refine ab_iconst (v := (-1 : Int32)) C dX8_scattered_20 (by decide) ?_
      obtain rfl := Option.some.inj hF
      exact ab_iret C R0 rfl dX8_scattered_21 ⟨rfl, rfl, rfl⟩
theorem dX8_talk_0 : decode cX8_talk 0 = .ok (.aload_n 0, 1) := by decide +kernel
theorem dX8_talk_1 : decode cX8_talk 1 = .ok (.getfield 19, 3) := by decide +kernel
theorem dX8_talk_4 : decode cX8_talk 4 = .ok (.iload_n 1, 1) := by decide +kernel
theorem dX8_talk_5 : decode cX8_talk 5 = .ok (.invokevirtual 107, 3) := by decide +kernel
theorem dX8_talk_8 : decode cX8_talk 8 = .ok (.ifCond .eq 12, 3) := by decide +kernel
theorem dX8_talk_11 : decode cX8_talk 11 = .ok (.iload_n 2, 1) := by decide +kernel
theorem dX8_talk_12 : decode cX8_talk 12 = .ok (.iconst 1, 1) := by decide +kernel
theorem dX8_talk_13 : decode cX8_talk 13 = .ok (.iconst 5, 1) := by decide +kernel
theorem dX8_talk_14 : decode cX8_talk 14 = .ok (.invokestatic 74, 3) := by decide +kernel
theorem dX8_talk_17 : decode cX8_talk 17 = .ok (.ifCond .ne 5, 3) := by decide +kernel
theorem dX8_talk_20 : decode cX8_talk 20 = .ok (.iconst (-1), 1) := by decide +kernel
theorem dX8_talk_21 : decode cX8_talk 21 = .ok (.ireturn, 1) := by decide +kernel
theorem dX8_talk_22 : decode cX8_talk 22 = .ok (.aload_n 0, 1) := by decide +kernel
theorem dX8_talk_23 : decode cX8_talk 23 = .ok (.getfield 19, 3) := by decide +kernel
theorem dX8_talk_26 : decode cX8_talk 26 = .ok (.iload_n 1, 1) := by decide +kernel
theorem dX8_talk_27 : decode cX8_talk 27 = .ok (.iload_n 2, 1) := by decide +kernel
theorem dX8_talk_28 : decode cX8_talk 28 = .ok (.invokevirtual 213, 3) := by decide +kernel
theorem dX8_talk_31 : decode cX8_talk 31 = .ok (.ireturn, 1) := by decide +kernel
def X8_talk (S_now : Rec) (x1 : Int32) (x2 : Int32) : Option (Int32) :=
  if (X2_hasHolder S_now x1) = 0 then
    some (-1 : Int32)
  else
    if (X8_within x2 (1 : Int32) (5 : Int32)) = 0 then
      some (-1 : Int32)
    else
      (X2_talkersWith S_now x1 x2).bind fun v3 =>
      some v3
set_option maxRecDepth 100000 in
set_option maxHeartbeats 4000000 in
theorem X8_talk_ok (l : Launch) {h : aH} {nx : Nat} {S_now : Rec} {x1 : Int32} {x2 : Int32} (hBxo : X8_at h) (hBnow : X2_at h 7 S_now) {r : Int32} (hF : X8_talk S_now x1 x2 = some r) : aOk l 6 0 0 yX8_talk cX8_talk 3 (some .int) [.ref 4, .int x1, .int x2] h nx (aRd (.int r) h nx) := by
  refine aOk.of (by decide +kernel) (Nat.le_of_ble_eq_true rfl) (fun X G hX C R0 _ => ?_)
  subst hX
  show aV X G 3 0 [(0, .ref 4), (1, .int x1), (2, .int x2)] [] h nx 0 0
  rw [X8_talk] at hF
  refine ab_aload_n C 0 rfl rfl dX8_talk_0 ?_
  refine ab_g8 (v := .ref 7) C lf_X8_19 hBxo rfl dX8_talk_1 ?_
  refine ab_iload_n C 1 rfl rfl dX8_talk_4 ?_
  refine ab_cVR (v := .int (X2_hasHolder S_now x1)) (st := []) C lm_X8_107 (X2_hasHolder_ok (xl X) hBnow (r := (X2_hasHolder S_now x1)) rfl) [.int x1] rfl hBnow.1 rfl rfl rfl (by decide) ⟨Nat.zero_le _, Nat.zero_le _⟩ (Nat.le_of_ble_eq_true rfl) dX8_talk_5 ?_
  refine ab_if_eq C 20 dX8_talk_8 (by decide) (fun c1 => ?_) (fun c1 => ?_)
  · replace hF := (if_pos c1).symm.trans hF
    refine ab_iconst (v := (-1 : Int32)) C dX8_talk_20 (by decide) ?_
    obtain rfl := Option.some.inj hF
    exact ab_iret C R0 rfl dX8_talk_21 ⟨rfl, rfl, rfl⟩
  · replace hF := (if_neg c1).symm.trans hF
    refine ab_iload_n C 2 rfl rfl dX8_talk_11 ?_
    refine ab_iconst (v := (1 : Int32)) C dX8_talk_12 (by decide) ?_
    refine ab_iconst (v := (5 : Int32)) C dX8_talk_13 (by decide) ?_
    refine ab_cSR (v := .int (X8_within x2 (1 : Int32) (5 : Int32))) (st := []) C lm_X8_74 (X8_within_ok (xl X) (r := (X8_within x2 (1 : Int32) (5 : Int32))) rfl) rfl rfl (by decide) ⟨Nat.zero_le _, Nat.zero_le _⟩ (Nat.le_of_ble_eq_true rfl) dX8_talk_14 ?_
    refine ab_if_ne C 22 dX8_talk_17 (by decide) (fun c2 => ?_) (fun c2 => ?_)
    · replace hF := (if_neg c2).symm.trans hF
      refine ab_aload_n C 0 rfl rfl dX8_talk_22 ?_
      refine ab_g8 (v := .ref 7) C lf_X8_19 hBxo rfl dX8_talk_23 ?_
      refine ab_iload_n C 1 rfl rfl dX8_talk_26 ?_
      refine ab_iload_n C 2 rfl rfl dX8_talk_27 ?_
      obtain ⟨v3, hxv3, hF⟩ := Option.bind_eq_some_iff.mp hF
      refine ab_cVR (v := .int v3) (st := []) C lm_X8_213 (X2_talkersWith_ok (xl X) hBnow (r := v3) hxv3) [.int x1, .int x2] rfl hBnow.1 rfl rfl rfl (by decide) ⟨Nat.zero_le _, Nat.zero_le _⟩ (Nat.le_of_ble_eq_true rfl) dX8_talk_28 ?_
      obtain rfl := Option.some.inj hF
      exact ab_iret C R0 rfl dX8_talk_31 ⟨rfl, rfl, rfl⟩
    · replace hF := (if_pos c2).symm.trans hF
      refine ab_iconst (v := (-1 : Int32)) C dX8_talk_20 (by decide) ?_
      obtain rfl := Option.some.inj hF
      exact ab_iret C R0 rfl dX8_talk_21 ⟨rfl, rfl, rfl⟩
theorem dX8_marry_0 : decode cX8_marry 0 = .ok (.iload_n 1, 1) := by decide +kernel
theorem dX8_marry_1 : decode cX8_marry 1 = .ok (.bipush (-4), 2) := by decide +kernel
theorem dX8_marry_3 : decode cX8_marry 3 = .ok (.if_icmp .eq 14, 3) := by decide +kernel
theorem dX8_marry_6 : decode cX8_marry 6 = .ok (.aload_n 0, 1) := by decide +kernel
theorem dX8_marry_7 : decode cX8_marry 7 = .ok (.getfield 19, 3) := by decide +kernel
theorem dX8_marry_10 : decode cX8_marry 10 = .ok (.iload_n 1, 1) := by decide +kernel
theorem dX8_marry_11 : decode cX8_marry 11 = .ok (.invokevirtual 107, 3) := by decide +kernel
theorem dX8_marry_14 : decode cX8_marry 14 = .ok (.ifCond .eq 12, 3) := by decide +kernel
theorem dX8_marry_17 : decode cX8_marry 17 = .ok (.iload_n 2, 1) := by decide +kernel
theorem dX8_marry_18 : decode cX8_marry 18 = .ok (.iconst 1, 1) := by decide +kernel
theorem dX8_marry_19 : decode cX8_marry 19 = .ok (.iconst 5, 1) := by decide +kernel
theorem dX8_marry_20 : decode cX8_marry 20 = .ok (.invokestatic 74, 3) := by decide +kernel
theorem dX8_marry_23 : decode cX8_marry 23 = .ok (.ifCond .ne 5, 3) := by decide +kernel
theorem dX8_marry_26 : decode cX8_marry 26 = .ok (.iconst (-1), 1) := by decide +kernel
theorem dX8_marry_27 : decode cX8_marry 27 = .ok (.ireturn, 1) := by decide +kernel
theorem dX8_marry_28 : decode cX8_marry 28 = .ok (.aload_n 0, 1) := by decide +kernel
theorem dX8_marry_29 : decode cX8_marry 29 = .ok (.getfield 19, 3) := by decide +kernel
theorem dX8_marry_32 : decode cX8_marry 32 = .ok (.invokevirtual 173, 3) := by decide +kernel
theorem dX8_marry_35 : decode cX8_marry 35 = .ok (.ifCond .ne 6, 3) := by decide +kernel
theorem dX8_marry_38 : decode cX8_marry 38 = .ok (.bipush (-2), 2) := by decide +kernel
theorem dX8_marry_40 : decode cX8_marry 40 = .ok (.ireturn, 1) := by decide +kernel
theorem dX8_marry_41 : decode cX8_marry 41 = .ok (.aload_n 0, 1) := by decide +kernel
theorem dX8_marry_42 : decode cX8_marry 42 = .ok (.getfield 63, 3) := by decide +kernel
theorem dX8_marry_45 : decode cX8_marry 45 = .ok (.aload_n 0, 1) := by decide +kernel
theorem dX8_marry_46 : decode cX8_marry 46 = .ok (.getfield 19, 3) := by decide +kernel
theorem dX8_marry_49 : decode cX8_marry 49 = .ok (.iload_n 2, 1) := by decide +kernel
theorem dX8_marry_50 : decode cX8_marry 50 = .ok (.invokevirtual 216, 3) := by decide +kernel
theorem dX8_marry_53 : decode cX8_marry 53 = .ok (.iload_n 1, 1) := by decide +kernel
theorem dX8_marry_54 : decode cX8_marry 54 = .ok (.bipush (-4), 2) := by decide +kernel
theorem dX8_marry_56 : decode cX8_marry 56 = .ok (.if_icmp .ne 13, 3) := by decide +kernel
theorem dX8_marry_59 : decode cX8_marry 59 = .ok (.aload_n 0, 1) := by decide +kernel
theorem dX8_marry_60 : decode cX8_marry 60 = .ok (.getfield 63, 3) := by decide +kernel
theorem dX8_marry_63 : decode cX8_marry 63 = .ok (.invokevirtual 220, 3) := by decide +kernel
theorem dX8_marry_66 : decode cX8_marry 66 = .ok (.goto 11, 3) := by decide +kernel
theorem dX8_marry_69 : decode cX8_marry 69 = .ok (.aload_n 0, 1) := by decide +kernel
theorem dX8_marry_70 : decode cX8_marry 70 = .ok (.getfield 63, 3) := by decide +kernel
theorem dX8_marry_73 : decode cX8_marry 73 = .ok (.iload_n 1, 1) := by decide +kernel
theorem dX8_marry_74 : decode cX8_marry 74 = .ok (.invokevirtual 223, 3) := by decide +kernel
theorem dX8_marry_77 : decode cX8_marry 77 = .ok (.ireturn, 1) := by decide +kernel
def X8_marry_J17 (x2 : Int32) (S_marriages : Rec) (S_now : Rec) (x1 : Int32) : Option (Int32 × Rec) :=
  if (X8_within x2 (1 : Int32) (5 : Int32)) = 0 then
    some ((-1 : Int32), S_marriages)
  else
    if (X2_stands S_now) = 0 then
      some ((-2 : Int32), S_marriages)
    else
      (X3_arrange S_marriages S_now x2).bind fun v3 =>
      if x1 = (-4 : Int32) then
        some ((X3_pairs v3), v3)
      else
        (X3_mateOf v3 x1).bind fun v6 =>
        some (v6, v3)
def X8_marry (S_now : Rec) (S_marriages : Rec) (x1 : Int32) (x2 : Int32) : Option (Int32 × Rec) :=
  if x1 = (-4 : Int32) then
    X8_marry_J17 x2 S_marriages S_now x1
  else
    if (X2_hasHolder S_now x1) = 0 then
      some ((-1 : Int32), S_marriages)
    else
      X8_marry_J17 x2 S_marriages S_now x1
set_option maxRecDepth 100000 in
set_option maxHeartbeats 4000000 in
theorem X8_marry_ok (l : Launch) {h : aH} {nx : Nat} {S_now : Rec} {S_marriages : Rec} {x1 : Int32} {x2 : Int32} (hBxo : X8_at h) (hBnow : X2_at h 7 S_now) (hBmarriages : X3_at h 40 S_marriages) {r : Int32 × Rec} (hF : X8_marry S_now S_marriages x1 x2 = some r) : aOk l 7 0 0 yX8_marry cX8_marry 3 (some .int) [.ref 4, .int x1, .int x2] h nx (aMt (some (.int r.1)) nx (fun h1 => X3_at h1 40 r.2 ∧ (∀ q, (q < 40 ∨ 40 + 4 ≤ q) → h1 q = h q))) := by
  refine aOk.of (by decide +kernel) (Nat.le_of_ble_eq_true rfl) (fun X G hX C R0 _ => ?_)
  subst hX
  show aV X G 3 0 [(0, .ref 4), (1, .int x1), (2, .int x2)] [] h nx 0 0
  have hFr : ∀ q, (q < 40 ∨ 40 + 4 ≤ q) → h q = h q := fun _ _ => rfl
  rw [X8_marry] at hF
  refine ab_iload_n C 1 rfl rfl dX8_marry_0 ?_
  refine ab_bipush (v := (-4 : Int32)) C dX8_marry_1 (by decide) ?_
  have J17 : X8_marry_J17 x2 S_marriages S_now x1 = some r → aV X G 3 17 [(0, .ref 4), (1, .int x1), (2, .int x2)] [] h nx 0 0 := by
    intro  hF
    rw [X8_marry_J17] at hF
    refine ab_iload_n C 2 rfl rfl dX8_marry_17 ?_
    refine ab_iconst (v := (1 : Int32)) C dX8_marry_18 (by decide) ?_
    refine ab_iconst (v := (5 : Int32)) C dX8_marry_19 (by decide) ?_
    refine ab_cSR (v := .int (X8_within x2 (1 : Int32) (5 : Int32))) (st := []) C lm_X8_74 (X8_within_ok (xl X) (r := (X8_within x2 (1 : Int32) (5 : Int32))) rfl) rfl rfl (by decide) ⟨Nat.zero_le _, Nat.zero_le _⟩ (Nat.le_of_ble_eq_true rfl) dX8_marry_20 ?_
    refine ab_if_ne C 28 dX8_marry_23 (by decide) (fun c1 => ?_) (fun c1 => ?_)
    · replace hF := (if_neg c1).symm.trans hF
      refine ab_aload_n C 0 rfl rfl dX8_marry_28 ?_
      refine ab_g8 (v := .ref 7) C lf_X8_19 hBxo rfl dX8_marry_29 ?_
      refine ab_cVR (v := .int (X2_stands S_now)) (st := []) C lm_X8_173 (X2_stands_ok (xl X) hBnow (r := (X2_stands S_now)) rfl) [] rfl hBnow.1 rfl rfl rfl (by decide) ⟨Nat.zero_le _, Nat.zero_le _⟩ (Nat.le_of_ble_eq_true rfl) dX8_marry_32 ?_
      refine ab_if_ne C 41 dX8_marry_35 (by decide) (fun c2 => ?_) (fun c2 => ?_)
      · replace hF := (if_neg c2).symm.trans hF
        refine ab_aload_n C 0 rfl rfl dX8_marry_41 ?_
        refine ab_g8 (v := .ref 40) C lf_X8_63 hBxo rfl dX8_marry_42 ?_
        refine ab_aload_n C 0 rfl rfl dX8_marry_45 ?_
        refine ab_g8 (v := .ref 7) C lf_X8_19 hBxo rfl dX8_marry_46 ?_
        refine ab_iload_n C 2 rfl rfl dX8_marry_49 ?_
        obtain ⟨v3, hxv3, hF⟩ := Option.bind_eq_some_iff.mp hF
        refine ab_cVN (st := []) C lm_X8_216 (X3_arrange_ok (xl X) hBmarriages hBnow (by omega) (r := v3) hxv3) [.ref 7, .int x2] rfl hBmarriages.1 rfl rfl rfl (by decide) ⟨Nat.zero_le _, Nat.zero_le _⟩ (Nat.le_of_ble_eq_true rfl) dX8_marry_50 (fun g4 pg4 => ?_)
        obtain ⟨k0, Og4⟩ := pg4
        have hBmarriages : X3_at g4 40 v3 := k0
        have hBxo : X8_at g4 := (Og4 4 (by omega)).trans hBxo
        have hBnow : X2_at g4 7 S_now := X2_off hBnow (fun q i1 i2 => Og4 q (by omega))
        have hFr : ∀ q, (q < 40 ∨ 40 + 4 ≤ q) → g4 q = h q := fun q u0 => (Og4 q (by omega)).trans (hFr q u0)
        refine ab_iload_n C 1 rfl rfl dX8_marry_53 ?_
        refine ab_bipush (v := (-4 : Int32)) C dX8_marry_54 (by decide) ?_
        refine ab_icmp_ne C 69 dX8_marry_56 (by decide) (fun c5 => ?_) (fun c5 => ?_)
        · replace hF := (if_neg c5).symm.trans hF
          refine ab_aload_n C 0 rfl rfl dX8_marry_69 ?_
          refine ab_g8 (v := .ref 40) C lf_X8_63 hBxo rfl dX8_marry_70 ?_
          refine ab_iload_n C 1 rfl rfl dX8_marry_73 ?_
          obtain ⟨v6, hxv6, hF⟩ := Option.bind_eq_some_iff.mp hF
          refine ab_cVR (v := .int v6) (st := []) C lm_X8_223 (X3_mateOf_ok (xl X) hBmarriages (r := v6) hxv6) [.int x1] rfl hBmarriages.1 rfl rfl rfl (by decide) ⟨Nat.zero_le _, Nat.zero_le _⟩ (Nat.le_of_ble_eq_true rfl) dX8_marry_74 ?_
          obtain rfl := Option.some.inj hF
          exact ab_iret C R0 rfl dX8_marry_77 ⟨rfl, rfl, hBmarriages, hFr⟩
        · replace hF := (if_pos c5).symm.trans hF
          refine ab_aload_n C 0 rfl rfl dX8_marry_59 ?_
          refine ab_g8 (v := .ref 40) C lf_X8_63 hBxo rfl dX8_marry_60 ?_
          refine ab_cVR (v := .int (X3_pairs v3)) (st := []) C lm_X8_220 (X3_pairs_ok (xl X) hBmarriages (r := (X3_pairs v3)) rfl) [] rfl hBmarriages.1 rfl rfl rfl (by decide) ⟨Nat.zero_le _, Nat.zero_le _⟩ (Nat.le_of_ble_eq_true rfl) dX8_marry_63 ?_
          refine ab_goto C 77 dX8_marry_66 (by decide) ?_
          obtain rfl := Option.some.inj hF
          exact ab_iret C R0 rfl dX8_marry_77 ⟨rfl, rfl, hBmarriages, hFr⟩
      · replace hF := (if_pos c2).symm.trans hF
        refine ab_bipush (v := (-2 : Int32)) C dX8_marry_38 (by decide) ?_
        obtain rfl := Option.some.inj hF
        exact ab_iret C R0 rfl dX8_marry_40 ⟨rfl, rfl, hBmarriages, hFr⟩
    · replace hF := (if_pos c1).symm.trans hF
      refine ab_iconst (v := (-1 : Int32)) C dX8_marry_26 (by decide) ?_
      obtain rfl := Option.some.inj hF
      exact ab_iret C R0 rfl dX8_marry_27 ⟨rfl, rfl, hBmarriages, hFr⟩
  refine ab_icmp_eq C 17 dX8_marry_3 (by decide) (fun c7 => ?_) (fun c7 => ?_)
  · replace hF := (if_pos c7).symm.trans hF
    exact J17 hF
  · replace hF := (if_neg c7).symm.trans hF
    refine ab_aload_n C 0 rfl rfl dX8_marry_6 ?_
    refine ab_g8 (v := .ref 7) C lf_X8_19 hBxo rfl dX8_marry_7 ?_
    refine ab_iload_n C 1 rfl rfl dX8_marry_10 ?_
    refine ab_cVR (v := .int (X2_hasHolder S_now x1)) (st := []) C lm_X8_107 (X2_hasHolder_ok (xl X) hBnow (r := (X2_hasHolder S_now x1)) rfl) [.int x1] rfl hBnow.1 rfl rfl rfl (by decide) ⟨Nat.zero_le _, Nat.zero_le _⟩ (Nat.le_of_ble_eq_true rfl) dX8_marry_11 ?_
    refine ab_if_eq C 26 dX8_marry_14 (by decide) (fun c8 => ?_) (fun c8 => ?_)
    · replace hF := (if_pos c8).symm.trans hF
      refine ab_iconst (v := (-1 : Int32)) C dX8_marry_26 (by decide) ?_
      obtain rfl := Option.some.inj hF
      exact ab_iret C R0 rfl dX8_marry_27 ⟨rfl, rfl, hBmarriages, hFr⟩
    · replace hF := (if_neg c8).symm.trans hF
      exact J17 hF
theorem dX8_areTwo_0 : decode cX8_areTwo 0 = .ok (.aload_n 0, 1) := by decide +kernel
theorem dX8_areTwo_1 : decode cX8_areTwo 1 = .ok (.getfield 19, 3) := by decide +kernel
theorem dX8_areTwo_4 : decode cX8_areTwo 4 = .ok (.iload_n 1, 1) := by decide +kernel
theorem dX8_areTwo_5 : decode cX8_areTwo 5 = .ok (.invokevirtual 107, 3) := by decide +kernel
theorem dX8_areTwo_8 : decode cX8_areTwo 8 = .ok (.ifCond .eq 23, 3) := by decide +kernel
theorem dX8_areTwo_11 : decode cX8_areTwo 11 = .ok (.aload_n 0, 1) := by decide +kernel
theorem dX8_areTwo_12 : decode cX8_areTwo 12 = .ok (.getfield 19, 3) := by decide +kernel
theorem dX8_areTwo_15 : decode cX8_areTwo 15 = .ok (.iload_n 2, 1) := by decide +kernel
theorem dX8_areTwo_16 : decode cX8_areTwo 16 = .ok (.invokevirtual 107, 3) := by decide +kernel
theorem dX8_areTwo_19 : decode cX8_areTwo 19 = .ok (.ifCond .eq 12, 3) := by decide +kernel
theorem dX8_areTwo_22 : decode cX8_areTwo 22 = .ok (.iload_n 1, 1) := by decide +kernel
theorem dX8_areTwo_23 : decode cX8_areTwo 23 = .ok (.iload_n 2, 1) := by decide +kernel
theorem dX8_areTwo_24 : decode cX8_areTwo 24 = .ok (.if_icmp .eq 7, 3) := by decide +kernel
theorem dX8_areTwo_27 : decode cX8_areTwo 27 = .ok (.iconst 1, 1) := by decide +kernel
theorem dX8_areTwo_28 : decode cX8_areTwo 28 = .ok (.goto 4, 3) := by decide +kernel
theorem dX8_areTwo_31 : decode cX8_areTwo 31 = .ok (.iconst 0, 1) := by decide +kernel
theorem dX8_areTwo_32 : decode cX8_areTwo 32 = .ok (.ireturn, 1) := by decide +kernel
def X8_areTwo (S_now : Rec) (x1 : Int32) (x2 : Int32) : Int32 :=
  if (X2_hasHolder S_now x1) = 0 then
    (0 : Int32)
  else
    if (X2_hasHolder S_now x2) = 0 then
      (0 : Int32)
    else
      if x1 = x2 then
        (0 : Int32)
      else
        (1 : Int32)
set_option maxRecDepth 100000 in
set_option maxHeartbeats 4000000 in
theorem X8_areTwo_ok (l : Launch) {h : aH} {nx : Nat} {S_now : Rec} {x1 : Int32} {x2 : Int32} (hBxo : X8_at h) (hBnow : X2_at h 7 S_now) {r : Int32} (hF : X8_areTwo S_now x1 x2 = r) : aOk l 1 0 0 yX8_areTwo cX8_areTwo 3 (some .boolean) [.ref 4, .int x1, .int x2] h nx (aRd (.int r) h nx) := by
  refine aOk.of (by decide +kernel) (Nat.le_of_ble_eq_true rfl) (fun X G hX C R0 _ => ?_)
  subst hX
  show aV X G 3 0 [(0, .ref 4), (1, .int x1), (2, .int x2)] [] h nx 0 0
  rw [X8_areTwo] at hF
  refine ab_aload_n C 0 rfl rfl dX8_areTwo_0 ?_
  refine ab_g8 (v := .ref 7) C lf_X8_19 hBxo rfl dX8_areTwo_1 ?_
  refine ab_iload_n C 1 rfl rfl dX8_areTwo_4 ?_
  refine ab_cVR (v := .int (X2_hasHolder S_now x1)) (st := []) C lm_X8_107 (X2_hasHolder_ok (xl X) hBnow (r := (X2_hasHolder S_now x1)) rfl) [.int x1] rfl hBnow.1 rfl rfl rfl (by decide) ⟨Nat.zero_le _, Nat.zero_le _⟩ (Nat.le_of_ble_eq_true rfl) dX8_areTwo_5 ?_
  refine ab_if_eq C 31 dX8_areTwo_8 (by decide) (fun c1 => ?_) (fun c1 => ?_)
  · replace hF := (if_pos c1).symm.trans hF
    refine ab_iconst (v := (0 : Int32)) C dX8_areTwo_31 (by decide) ?_
    obtain rfl := hF
    exact ab_iret C R0 rfl dX8_areTwo_32 ⟨rfl, rfl, rfl⟩
  · replace hF := (if_neg c1).symm.trans hF
    refine ab_aload_n C 0 rfl rfl dX8_areTwo_11 ?_
    refine ab_g8 (v := .ref 7) C lf_X8_19 hBxo rfl dX8_areTwo_12 ?_
    refine ab_iload_n C 2 rfl rfl dX8_areTwo_15 ?_
    refine ab_cVR (v := .int (X2_hasHolder S_now x2)) (st := []) C lm_X8_107 (X2_hasHolder_ok (xl X) hBnow (r := (X2_hasHolder S_now x2)) rfl) [.int x2] rfl hBnow.1 rfl rfl rfl (by decide) ⟨Nat.zero_le _, Nat.zero_le _⟩ (Nat.le_of_ble_eq_true rfl) dX8_areTwo_16 ?_
    refine ab_if_eq C 31 dX8_areTwo_19 (by decide) (fun c2 => ?_) (fun c2 => ?_)
    · replace hF := (if_pos c2).symm.trans hF
      refine ab_iconst (v := (0 : Int32)) C dX8_areTwo_31 (by decide) ?_
      obtain rfl := hF
      exact ab_iret C R0 rfl dX8_areTwo_32 ⟨rfl, rfl, rfl⟩
    · replace hF := (if_neg c2).symm.trans hF
      refine ab_iload_n C 1 rfl rfl dX8_areTwo_22 ?_
      refine ab_iload_n C 2 rfl rfl dX8_areTwo_23 ?_
      refine ab_icmp_eq C 31 dX8_areTwo_24 (by decide) (fun c3 => ?_) (fun c3 => ?_)
      · replace hF := (if_pos c3).symm.trans hF
        refine ab_iconst (v := (0 : Int32)) C dX8_areTwo_31 (by decide) ?_
        obtain rfl := hF
        exact ab_iret C R0 rfl dX8_areTwo_32 ⟨rfl, rfl, rfl⟩
      · replace hF := (if_neg c3).symm.trans hF
        refine ab_iconst (v := (1 : Int32)) C dX8_areTwo_27 (by decide) ?_
        refine ab_goto C 32 dX8_areTwo_28 (by decide) ?_
        obtain rfl := hF
        exact ab_iret C R0 rfl dX8_areTwo_32 ⟨rfl, rfl, rfl⟩
theorem X8_areTwo_n {S_now : Rec} {x1 : Int32} {x2 : Int32} : narrow .boolean (.int (X8_areTwo S_now x1 x2)) = .int (X8_areTwo S_now x1 x2) := by
  unfold X8_areTwo
  repeat' split
  all_goals first | rfl | exact X9_in_n
theorem dX8_lettersFor_0 : decode cX8_lettersFor 0 = .ok (.lconst 1, 1) := by decide +kernel
theorem dX8_lettersFor_1 : decode cX8_lettersFor 1 = .ok (.lstore_n 2, 1) := by decide +kernel
theorem dX8_lettersFor_2 : decode cX8_lettersFor 2 = .ok (.iconst 0, 1) := by decide +kernel
theorem dX8_lettersFor_3 : decode cX8_lettersFor 3 = .ok (.istore 4, 2) := by decide +kernel
theorem dX8_lettersFor_5 : decode cX8_lettersFor 5 = .ok (.bipush 64, 2) := by decide +kernel
theorem dX8_lettersFor_7 : decode cX8_lettersFor 7 = .ok (.istore 5, 2) := by decide +kernel
theorem dX8_lettersFor_9 : decode cX8_lettersFor 9 = .ok (.iload 5, 2) := by decide +kernel
theorem dX8_lettersFor_11 : decode cX8_lettersFor 11 = .ok (.ifCond .le 24, 3) := by decide +kernel
theorem dX8_lettersFor_14 : decode cX8_lettersFor 14 = .ok (.lload_n 2, 1) := by decide +kernel
theorem dX8_lettersFor_15 : decode cX8_lettersFor 15 = .ok (.iload_n 0, 1) := by decide +kernel
theorem dX8_lettersFor_16 : decode cX8_lettersFor 16 = .ok (.i2l, 1) := by decide +kernel
theorem dX8_lettersFor_17 : decode cX8_lettersFor 17 = .ok (.lcmp, 1) := by decide +kernel
theorem dX8_lettersFor_18 : decode cX8_lettersFor 18 = .ok (.ifCond .ge 17, 3) := by decide +kernel
theorem dX8_lettersFor_21 : decode cX8_lettersFor 21 = .ok (.lload_n 2, 1) := by decide +kernel
theorem dX8_lettersFor_22 : decode cX8_lettersFor 22 = .ok (.iload_n 1, 1) := by decide +kernel
theorem dX8_lettersFor_23 : decode cX8_lettersFor 23 = .ok (.i2l, 1) := by decide +kernel
theorem dX8_lettersFor_24 : decode cX8_lettersFor 24 = .ok (.lmul, 1) := by decide +kernel
theorem dX8_lettersFor_25 : decode cX8_lettersFor 25 = .ok (.lstore_n 2, 1) := by decide +kernel
theorem dX8_lettersFor_26 : decode cX8_lettersFor 26 = .ok (.iinc 4 1, 3) := by decide +kernel
theorem dX8_lettersFor_29 : decode cX8_lettersFor 29 = .ok (.iinc 5 (-1), 3) := by decide +kernel
theorem dX8_lettersFor_32 : decode cX8_lettersFor 32 = .ok (.goto (-23), 3) := by decide +kernel
theorem dX8_lettersFor_35 : decode cX8_lettersFor 35 = .ok (.iload 4, 2) := by decide +kernel
theorem dX8_lettersFor_37 : decode cX8_lettersFor 37 = .ok (.ireturn, 1) := by decide +kernel
def X8_lettersFor_L9 (x0 : Int32) (x1 : Int32) : Nat → Int64 → Int32 → Int32 → Option (Int32)
  | 0, _, _, _ => none
  | n9 + 1, v1, v2, v3 => if v3 ≤ 0 then
      some v2
    else
      if 0 ≤ (lg_cmp v1 (x0.toInt64)) then
        some v2
      else
        aLet (v1 * (x1.toInt64)) fun v6 =>
        aLet (v2 + (1 : Int32)) fun v7 =>
        aLet (v3 + (-1 : Int32)) fun v8 =>
        X8_lettersFor_L9 x0 x1 n9 v6 v7 v8
def X8_lettersFor (x0 : Int32) (x1 : Int32) : Option (Int32) :=
  (X8_lettersFor_L9 x0 x1 aFu (1 : Int64) (0 : Int32) (64 : Int32)).bind fun e9 =>
  some e9
set_option maxRecDepth 100000 in
set_option maxHeartbeats 4000000 in
theorem X8_lettersFor_ok (l : Launch) {h : aH} {nx : Nat} {x0 : Int32} {x1 : Int32} {r : Int32} (hF : X8_lettersFor x0 x1 = some r) : aOk l 0 0 0 yX8_lettersFor cX8_lettersFor 6 (some .int) [.int x0, .int x1] h nx (aRd (.int r) h nx) := by
  refine aOk.of (by decide +kernel) (Nat.le_of_ble_eq_true rfl) (fun X G hX C R0 _ => ?_)
  subst hX
  show aV X G 6 0 [(0, .int x0), (1, .int x1)] [] h nx 0 0
  rw [X8_lettersFor] at hF
  refine ab_lconst (v := (1 : Int64)) C dX8_lettersFor_0 (by decide) ?_
  refine ab_lstore_n (lv' := [(2, .long (1 : Int64)), (0, .int x0), (1, .int x1)]) C dX8_lettersFor_1 rfl ⟨by decide, by decide⟩ rfl ?_
  refine ab_iconst (v := (0 : Int32)) C dX8_lettersFor_2 (by decide) ?_
  refine ab_istore (lv' := [(4, .int (0 : Int32)), (2, .long (1 : Int64)), (0, .int x0), (1, .int x1)]) C dX8_lettersFor_3 (by decide) rfl ?_
  refine ab_bipush (v := (64 : Int32)) C dX8_lettersFor_5 (by decide) ?_
  refine ab_istore (lv' := [(5, .int (64 : Int32)), (4, .int (0 : Int32)), (2, .long (1 : Int64)), (0, .int x0), (1, .int x1)]) C dX8_lettersFor_7 (by decide) rfl ?_
  have L9 : ∀ (n9 : Nat) (v1 : Int64) (v2 : Int32) (v3 : Int32), ∀ (res9 : Int32), X8_lettersFor_L9 x0 x1 n9 v1 v2 v3 = some res9 → (aV X G 6 35 [(4, .int res9)] [] h nx 0 0) → aV X G 6 9 [(0, .int x0), (1, .int x1), (2, .long v1), (4, .int v2), (5, .int v3)] [] h nx 0 0 := by
    intro n9
    induction n9 with
    | zero => intro v1 v2 v3 res9 hF KX9; cases (show (none : Option (Int32)) = some res9 from hF)
    | succ n9 ih9 =>
      intro v1 v2 v3 res9 hF KX9
      rw [X8_lettersFor_L9] at hF
      refine ab_iload C 4 rfl dX8_lettersFor_9 ?_
      refine ab_if_le C 35 dX8_lettersFor_11 (by decide) (fun c4 => ?_) (fun c4 => ?_)
      · replace hF := (if_pos c4).symm.trans hF
        obtain rfl := Option.some.inj hF
        refine aV.sub (lv' := [(4, .int v2)]) [3] rfl ?_
        exact KX9
      · replace hF := (if_neg c4).symm.trans hF
        refine ab_lload_n C 2 rfl rfl dX8_lettersFor_14 ?_
        refine ab_iload_n C 0 rfl rfl dX8_lettersFor_15 ?_
        refine ab_i2l C dX8_lettersFor_16 ?_
        refine ab_lcmp C dX8_lettersFor_17 ?_
        refine ab_if_ge C 35 dX8_lettersFor_18 (by decide) (fun c5 => ?_) (fun c5 => ?_)
        · replace hF := (if_pos c5).symm.trans hF
          obtain rfl := Option.some.inj hF
          refine aV.sub (lv' := [(4, .int v2)]) [3] rfl ?_
          exact KX9
        · replace hF := (if_neg c5).symm.trans hF
          refine ab_lload_n C 2 rfl rfl dX8_lettersFor_21 ?_
          refine ab_iload_n C 1 rfl rfl dX8_lettersFor_22 ?_
          refine ab_i2l C dX8_lettersFor_23 ?_
          refine ab_lmul C dX8_lettersFor_24 ?_
          refine ab_topl (fun v6 qv6 => ?_)
          replace hF := aLet_e hF v6 qv6
          refine ab_lstore_n (lv' := [(2, .long v6), (0, .int x0), (1, .int x1), (4, .int v2), (5, .int v3)]) C dX8_lettersFor_25 rfl ⟨by decide, by decide⟩ rfl ?_
          obtain ⟨v7, qv7⟩ : ∃ y : Int32, y = (v2 + (1 : Int32)) := ⟨_, rfl⟩
          replace hF := aLet_e hF v7 qv7
          refine ab_iinc (lv' := [(4, .int v7), (2, .long v6), (0, .int x0), (1, .int x1), (5, .int v3)]) C 3 rfl dX8_lettersFor_26 (by rw [qv7]; rfl) (by decide) rfl ?_
          obtain ⟨v8, qv8⟩ : ∃ y : Int32, y = (v3 + (-1 : Int32)) := ⟨_, rfl⟩
          replace hF := aLet_e hF v8 qv8
          refine ab_iinc (lv' := [(5, .int v8), (4, .int v7), (2, .long v6), (0, .int x0), (1, .int x1)]) C 4 rfl dX8_lettersFor_29 (by rw [qv8]; rfl) (by decide) rfl ?_
          refine ab_goto C 9 dX8_lettersFor_32 (by decide) ?_
          refine aV.sub (lv' := [(0, .int x0), (1, .int x1), (2, .long v6), (4, .int v7), (5, .int v8)]) [3, 4, 2, 1, 0] rfl ?_
          exact ih9 v6 v7 v8 res9 hF KX9
  refine aV.sub (lv' := [(0, .int x0), (1, .int x1), (2, .long (1 : Int64)), (4, .int (0 : Int32)), (5, .int (64 : Int32))]) [3, 4, 2, 1, 0] rfl ?_
  obtain ⟨e9, he9, hF⟩ := Option.bind_eq_some_iff.mp hF
  refine L9 aFu (1 : Int64) (0 : Int32) (64 : Int32) e9 he9 ?_
  refine ab_iload C 0 rfl dX8_lettersFor_35 ?_
  obtain rfl := Option.some.inj hF
  exact ab_iret C R0 rfl dX8_lettersFor_37 ⟨rfl, rfl, rfl⟩
theorem dX8_letters_0 : decode cX8_letters 0 = .ok (.aload_n 0, 1) := by decide +kernel
theorem dX8_letters_1 : decode cX8_letters 1 = .ok (.iload_n 1, 1) := by decide +kernel
theorem dX8_letters_2 : decode cX8_letters 2 = .ok (.iload_n 2, 1) := by decide +kernel
theorem dX8_letters_3 : decode cX8_letters 3 = .ok (.invokevirtual 226, 3) := by decide +kernel
theorem dX8_letters_6 : decode cX8_letters 6 = .ok (.ifCond .eq 13, 3) := by decide +kernel
theorem dX8_letters_9 : decode cX8_letters 9 = .ok (.iload_n 3, 1) := by decide +kernel
theorem dX8_letters_10 : decode cX8_letters 10 = .ok (.iconst 1, 1) := by decide +kernel
theorem dX8_letters_11 : decode cX8_letters 11 = .ok (.ldc 229, 2) := by decide +kernel
theorem dX8_letters_13 : decode cX8_letters 13 = .ok (.invokestatic 74, 3) := by decide +kernel
theorem dX8_letters_16 : decode cX8_letters 16 = .ok (.ifCond .ne 5, 3) := by decide +kernel
theorem dX8_letters_19 : decode cX8_letters 19 = .ok (.iconst (-1), 1) := by decide +kernel
theorem dX8_letters_20 : decode cX8_letters 20 = .ok (.ireturn, 1) := by decide +kernel
theorem dX8_letters_21 : decode cX8_letters 21 = .ok (.aload_n 0, 1) := by decide +kernel
theorem dX8_letters_22 : decode cX8_letters 22 = .ok (.getfield 19, 3) := by decide +kernel
theorem dX8_letters_25 : decode cX8_letters 25 = .ok (.iload_n 1, 1) := by decide +kernel
theorem dX8_letters_26 : decode cX8_letters 26 = .ok (.invokevirtual 127, 3) := by decide +kernel
theorem dX8_letters_29 : decode cX8_letters 29 = .ok (.aload_n 0, 1) := by decide +kernel
theorem dX8_letters_30 : decode cX8_letters 30 = .ok (.getfield 19, 3) := by decide +kernel
theorem dX8_letters_33 : decode cX8_letters 33 = .ok (.iload_n 2, 1) := by decide +kernel
theorem dX8_letters_34 : decode cX8_letters 34 = .ok (.invokevirtual 127, 3) := by decide +kernel
theorem dX8_letters_37 : decode cX8_letters 37 = .ok (.iand, 1) := by decide +kernel
theorem dX8_letters_38 : decode cX8_letters 38 = .ok (.invokestatic 131, 3) := by decide +kernel
theorem dX8_letters_41 : decode cX8_letters 41 = .ok (.istore 4, 2) := by decide +kernel
theorem dX8_letters_43 : decode cX8_letters 43 = .ok (.iload_n 3, 1) := by decide +kernel
theorem dX8_letters_44 : decode cX8_letters 44 = .ok (.iconst 1, 1) := by decide +kernel
theorem dX8_letters_45 : decode cX8_letters 45 = .ok (.if_icmp .ne 5, 3) := by decide +kernel
theorem dX8_letters_48 : decode cX8_letters 48 = .ok (.iconst 0, 1) := by decide +kernel
theorem dX8_letters_49 : decode cX8_letters 49 = .ok (.ireturn, 1) := by decide +kernel
theorem dX8_letters_50 : decode cX8_letters 50 = .ok (.iload 4, 2) := by decide +kernel
theorem dX8_letters_52 : decode cX8_letters 52 = .ok (.iconst 2, 1) := by decide +kernel
theorem dX8_letters_53 : decode cX8_letters 53 = .ok (.if_icmp .ge 8, 3) := by decide +kernel
theorem dX8_letters_56 : decode cX8_letters 56 = .ok (.bipush (-4), 2) := by decide +kernel
theorem dX8_letters_58 : decode cX8_letters 58 = .ok (.goto 9, 3) := by decide +kernel
theorem dX8_letters_61 : decode cX8_letters 61 = .ok (.iload_n 3, 1) := by decide +kernel
theorem dX8_letters_62 : decode cX8_letters 62 = .ok (.iload 4, 2) := by decide +kernel
theorem dX8_letters_64 : decode cX8_letters 64 = .ok (.invokestatic 230, 3) := by decide +kernel
theorem dX8_letters_67 : decode cX8_letters 67 = .ok (.ireturn, 1) := by decide +kernel
def X8_letters (S_now : Rec) (x1 : Int32) (x2 : Int32) (x3 : Int32) : Option (Int32) :=
  if (X8_areTwo S_now x1 x2) = 0 then
    some (-1 : Int32)
  else
    if (X8_within x3 (1 : Int32) (1000000 : Int32)) = 0 then
      some (-1 : Int32)
    else
      (X2_speechOf S_now x1).bind fun v3 =>
      (X2_speechOf S_now x2).bind fun v4 =>
      aLet (J6_bitCount_0f7a4 (v3 &&& v4)) fun v5 =>
      if x3 = (1 : Int32) then
        some (0 : Int32)
      else
        if (2 : Int32) ≤ v5 then
          (X8_lettersFor x3 v5).bind fun v8 =>
          some v8
        else
          some (-4 : Int32)
set_option maxRecDepth 100000 in
set_option maxHeartbeats 4000000 in
theorem X8_letters_ok (l : Launch) {h : aH} {nx : Nat} {S_now : Rec} {x1 : Int32} {x2 : Int32} {x3 : Int32} (hBxo : X8_at h) (hBnow : X2_at h 7 S_now) {r : Int32} (hF : X8_letters S_now x1 x2 x3 = some r) : aOk l 5 0 0 yX8_letters cX8_letters 5 (some .int) [.ref 4, .int x1, .int x2, .int x3] h nx (aRd (.int r) h nx) := by
  refine aOk.of (by decide +kernel) (Nat.le_of_ble_eq_true rfl) (fun X G hX C R0 _ => ?_)
  subst hX
  show aV X G 5 0 [(0, .ref 4), (1, .int x1), (2, .int x2), (3, .int x3)] [] h nx 0 0
  rw [X8_letters] at hF
  refine ab_aload_n C 0 rfl rfl dX8_letters_0 ?_
  refine ab_iload_n C 1 rfl rfl dX8_letters_1 ?_
  refine ab_iload_n C 2 rfl rfl dX8_letters_2 ?_
  refine ab_cVR (v := .int (X8_areTwo S_now x1 x2)) (st := []) C lm_X8_226 (X8_areTwo_ok (xl X) hBxo hBnow (r := (X8_areTwo S_now x1 x2)) rfl) [.int x1, .int x2] rfl hBxo rfl rfl rfl (by decide) ⟨Nat.zero_le _, Nat.zero_le _⟩ (Nat.le_of_ble_eq_true rfl) dX8_letters_3 ?_
  refine ab_if_eq C 19 dX8_letters_6 (by decide) (fun c1 => ?_) (fun c1 => ?_)
  · replace hF := (if_pos c1).symm.trans hF
    refine ab_iconst (v := (-1 : Int32)) C dX8_letters_19 (by decide) ?_
    obtain rfl := Option.some.inj hF
    exact ab_iret C R0 rfl dX8_letters_20 ⟨rfl, rfl, rfl⟩
  · replace hF := (if_neg c1).symm.trans hF
    refine ab_iload_n C 3 rfl rfl dX8_letters_9 ?_
    refine ab_iconst (v := (1 : Int32)) C dX8_letters_10 (by decide) ?_
    refine ab_ldc (v := (1000000 : Int32)) C dX8_letters_11 lq_X8_229 ?_
    refine ab_cSR (v := .int (X8_within x3 (1 : Int32) (1000000 : Int32))) (st := []) C lm_X8_74 (X8_within_ok (xl X) (r := (X8_within x3 (1 : Int32) (1000000 : Int32))) rfl) rfl rfl (by decide) ⟨Nat.zero_le _, Nat.zero_le _⟩ (Nat.le_of_ble_eq_true rfl) dX8_letters_13 ?_
    refine ab_if_ne C 21 dX8_letters_16 (by decide) (fun c2 => ?_) (fun c2 => ?_)
    · replace hF := (if_neg c2).symm.trans hF
      refine ab_aload_n C 0 rfl rfl dX8_letters_21 ?_
      refine ab_g8 (v := .ref 7) C lf_X8_19 hBxo rfl dX8_letters_22 ?_
      refine ab_iload_n C 1 rfl rfl dX8_letters_25 ?_
      obtain ⟨v3, hxv3, hF⟩ := Option.bind_eq_some_iff.mp hF
      refine ab_cVR (v := .int v3) (st := []) C lm_X8_127 (X2_speechOf_ok (xl X) hBnow (r := v3) hxv3) [.int x1] rfl hBnow.1 rfl rfl rfl (by decide) ⟨Nat.zero_le _, Nat.zero_le _⟩ (Nat.le_of_ble_eq_true rfl) dX8_letters_26 ?_
      refine ab_aload_n C 0 rfl rfl dX8_letters_29 ?_
      refine ab_g8 (v := .ref 7) C lf_X8_19 hBxo rfl dX8_letters_30 ?_
      refine ab_iload_n C 2 rfl rfl dX8_letters_33 ?_
      obtain ⟨v4, hxv4, hF⟩ := Option.bind_eq_some_iff.mp hF
      refine ab_cVR (v := .int v4) (st := [.int v3]) C lm_X8_127 (X2_speechOf_ok (xl X) hBnow (r := v4) hxv4) [.int x2] rfl hBnow.1 rfl rfl rfl (by decide) ⟨Nat.zero_le _, Nat.zero_le _⟩ (Nat.le_of_ble_eq_true rfl) dX8_letters_34 ?_
      refine ab_iand C dX8_letters_37 ?_
      refine ab_cSR (v := .int (J6_bitCount_0f7a4 (v3 &&& v4))) (st := []) C lm_X8_131 (J6_bitCount_0f7a4_ok (xl X) (r := (J6_bitCount_0f7a4 (v3 &&& v4))) rfl) rfl rfl (by decide) ⟨Nat.zero_le _, Nat.zero_le _⟩ (Nat.le_of_ble_eq_true rfl) dX8_letters_38 ?_
      refine ab_topi (fun v5 qv5 => ?_)
      replace hF := aLet_e hF v5 qv5
      refine ab_istore (lv' := [(4, .int v5), (0, .ref 4), (1, .int x1), (2, .int x2), (3, .int x3)]) C dX8_letters_41 (by decide) rfl ?_
      refine ab_iload_n C 4 rfl rfl dX8_letters_43 ?_
      refine ab_iconst (v := (1 : Int32)) C dX8_letters_44 (by decide) ?_
      refine ab_icmp_ne C 50 dX8_letters_45 (by decide) (fun c6 => ?_) (fun c6 => ?_)
      · replace hF := (if_neg c6).symm.trans hF
        refine ab_iload C 0 rfl dX8_letters_50 ?_
        refine ab_iconst (v := (2 : Int32)) C dX8_letters_52 (by decide) ?_
        refine ab_icmp_ge C 61 dX8_letters_53 (by decide) (fun c7 => ?_) (fun c7 => ?_)
        · replace hF := (if_pos c7).symm.trans hF
          refine ab_iload_n C 4 rfl rfl dX8_letters_61 ?_
          refine ab_iload C 0 rfl dX8_letters_62 ?_
          obtain ⟨v8, hxv8, hF⟩ := Option.bind_eq_some_iff.mp hF
          refine ab_cSR (v := .int v8) (st := []) C lm_X8_230 (X8_lettersFor_ok (xl X) (r := v8) hxv8) rfl rfl (by decide) ⟨Nat.zero_le _, Nat.zero_le _⟩ (Nat.le_of_ble_eq_true rfl) dX8_letters_64 ?_
          obtain rfl := Option.some.inj hF
          exact ab_iret C R0 rfl dX8_letters_67 ⟨rfl, rfl, rfl⟩
        · replace hF := (if_neg c7).symm.trans hF
          refine ab_bipush (v := (-4 : Int32)) C dX8_letters_56 (by decide) ?_
          refine ab_goto C 67 dX8_letters_58 (by decide) ?_
          obtain rfl := Option.some.inj hF
          exact ab_iret C R0 rfl dX8_letters_67 ⟨rfl, rfl, rfl⟩
      · replace hF := (if_pos c6).symm.trans hF
        refine ab_iconst (v := (0 : Int32)) C dX8_letters_48 (by decide) ?_
        obtain rfl := Option.some.inj hF
        exact ab_iret C R0 rfl dX8_letters_49 ⟨rfl, rfl, rfl⟩
    · replace hF := (if_pos c2).symm.trans hF
      refine ab_iconst (v := (-1 : Int32)) C dX8_letters_19 (by decide) ?_
      obtain rfl := Option.some.inj hF
      exact ab_iret C R0 rfl dX8_letters_20 ⟨rfl, rfl, rfl⟩
theorem dX8_holdings_0 : decode cX8_holdings 0 = .ok (.aload_n 0, 1) := by decide +kernel
theorem dX8_holdings_1 : decode cX8_holdings 1 = .ok (.getfield 19, 3) := by decide +kernel
theorem dX8_holdings_4 : decode cX8_holdings 4 = .ok (.iload_n 1, 1) := by decide +kernel
theorem dX8_holdings_5 : decode cX8_holdings 5 = .ok (.invokevirtual 107, 3) := by decide +kernel
theorem dX8_holdings_8 : decode cX8_holdings 8 = .ok (.ifCond .eq 12, 3) := by decide +kernel
theorem dX8_holdings_11 : decode cX8_holdings 11 = .ok (.iload_n 2, 1) := by decide +kernel
theorem dX8_holdings_12 : decode cX8_holdings 12 = .ok (.iconst 1, 1) := by decide +kernel
theorem dX8_holdings_13 : decode cX8_holdings 13 = .ok (.iconst 3, 1) := by decide +kernel
theorem dX8_holdings_14 : decode cX8_holdings 14 = .ok (.invokestatic 74, 3) := by decide +kernel
theorem dX8_holdings_17 : decode cX8_holdings 17 = .ok (.ifCond .ne 5, 3) := by decide +kernel
theorem dX8_holdings_20 : decode cX8_holdings 20 = .ok (.iconst (-1), 1) := by decide +kernel
theorem dX8_holdings_21 : decode cX8_holdings 21 = .ok (.ireturn, 1) := by decide +kernel
theorem dX8_holdings_22 : decode cX8_holdings 22 = .ok (.iload_n 3, 1) := by decide +kernel
theorem dX8_holdings_23 : decode cX8_holdings 23 = .ok (.iconst 0, 1) := by decide +kernel
theorem dX8_holdings_24 : decode cX8_holdings 24 = .ok (.bipush 31, 2) := by decide +kernel
theorem dX8_holdings_26 : decode cX8_holdings 26 = .ok (.invokestatic 74, 3) := by decide +kernel
theorem dX8_holdings_29 : decode cX8_holdings 29 = .ok (.ifCond .eq 13, 3) := by decide +kernel
theorem dX8_holdings_32 : decode cX8_holdings 32 = .ok (.iload 4, 2) := by decide +kernel
theorem dX8_holdings_34 : decode cX8_holdings 34 = .ok (.iconst 0, 1) := by decide +kernel
theorem dX8_holdings_35 : decode cX8_holdings 35 = .ok (.iconst 2, 1) := by decide +kernel
theorem dX8_holdings_36 : decode cX8_holdings 36 = .ok (.invokestatic 74, 3) := by decide +kernel
theorem dX8_holdings_39 : decode cX8_holdings 39 = .ok (.ifCond .ne 5, 3) := by decide +kernel
theorem dX8_holdings_42 : decode cX8_holdings 42 = .ok (.iconst (-1), 1) := by decide +kernel
theorem dX8_holdings_43 : decode cX8_holdings 43 = .ok (.ireturn, 1) := by decide +kernel
theorem dX8_holdings_44 : decode cX8_holdings 44 = .ok (.aload_n 0, 1) := by decide +kernel
theorem dX8_holdings_45 : decode cX8_holdings 45 = .ok (.getfield 56, 3) := by decide +kernel
theorem dX8_holdings_48 : decode cX8_holdings 48 = .ok (.aload_n 0, 1) := by decide +kernel
theorem dX8_holdings_49 : decode cX8_holdings 49 = .ok (.getfield 19, 3) := by decide +kernel
theorem dX8_holdings_52 : decode cX8_holdings 52 = .ok (.iload_n 1, 1) := by decide +kernel
theorem dX8_holdings_53 : decode cX8_holdings 53 = .ok (.aload_n 0, 1) := by decide +kernel
theorem dX8_holdings_54 : decode cX8_holdings 54 = .ok (.getfield 49, 3) := by decide +kernel
theorem dX8_holdings_57 : decode cX8_holdings 57 = .ok (.iload_n 2, 1) := by decide +kernel
theorem dX8_holdings_58 : decode cX8_holdings 58 = .ok (.iload_n 3, 1) := by decide +kernel
theorem dX8_holdings_59 : decode cX8_holdings 59 = .ok (.invokevirtual 233, 3) := by decide +kernel
theorem dX8_holdings_62 : decode cX8_holdings 62 = .ok (.iload 4, 2) := by decide +kernel
theorem dX8_holdings_64 : decode cX8_holdings 64 = .ok (.lookupswitch 44 #[(0, 28), (1, 36)], 28) := by decide +kernel
theorem dX8_holdings_92 : decode cX8_holdings 92 = .ok (.aload_n 0, 1) := by decide +kernel
theorem dX8_holdings_93 : decode cX8_holdings 93 = .ok (.getfield 56, 3) := by decide +kernel
theorem dX8_holdings_96 : decode cX8_holdings 96 = .ok (.invokevirtual 237, 3) := by decide +kernel
theorem dX8_holdings_99 : decode cX8_holdings 99 = .ok (.ireturn, 1) := by decide +kernel
theorem dX8_holdings_100 : decode cX8_holdings 100 = .ok (.aload_n 0, 1) := by decide +kernel
theorem dX8_holdings_101 : decode cX8_holdings 101 = .ok (.getfield 56, 3) := by decide +kernel
theorem dX8_holdings_104 : decode cX8_holdings 104 = .ok (.invokevirtual 240, 3) := by decide +kernel
theorem dX8_holdings_107 : decode cX8_holdings 107 = .ok (.ireturn, 1) := by decide +kernel
theorem dX8_holdings_108 : decode cX8_holdings 108 = .ok (.aload_n 0, 1) := by decide +kernel
theorem dX8_holdings_109 : decode cX8_holdings 109 = .ok (.getfield 56, 3) := by decide +kernel
theorem dX8_holdings_112 : decode cX8_holdings 112 = .ok (.aload_n 0, 1) := by decide +kernel
theorem dX8_holdings_113 : decode cX8_holdings 113 = .ok (.getfield 19, 3) := by decide +kernel
theorem dX8_holdings_116 : decode cX8_holdings 116 = .ok (.invokevirtual 243, 3) := by decide +kernel
theorem dX8_holdings_119 : decode cX8_holdings 119 = .ok (.ireturn, 1) := by decide +kernel
def X8_holdings (S_now : Rec) (S_survey : Rec) (S_sets : Rec) (x1 : Int32) (x2 : Int32) (x3 : Int32) (x4 : Int32) : Option (Int32 × Rec × Rec) :=
  if (X2_hasHolder S_now x1) = 0 then
    some ((-1 : Int32), S_survey, S_sets)
  else
    if (X8_within x2 (1 : Int32) (3 : Int32)) = 0 then
      some ((-1 : Int32), S_survey, S_sets)
    else
      if (X8_within x3 (0 : Int32) (31 : Int32)) = 0 then
        some ((-1 : Int32), S_survey, S_sets)
      else
        if (X8_within x4 (0 : Int32) (2 : Int32)) = 0 then
          some ((-1 : Int32), S_survey, S_sets)
        else
          (X6_ask S_survey S_now S_sets x1 x2 x3).bind fun v5 =>
          if x4 = (0 : Int32) then
            some ((X6_fitting v5.1), v5.1, v5.2)
          else if x4 = (1 : Int32) then
            some ((X6_inAll v5.1), v5.1, v5.2)
          else 
          (X6_nextToAsk v5.1 S_now).bind fun v9 =>
          some (v9, v5.1, v5.2)
set_option maxRecDepth 100000 in
set_option maxHeartbeats 4000000 in
theorem X8_holdings_ok (l : Launch) {h : aH} {nx : Nat} {S_now : Rec} {S_survey : Rec} {S_sets : Rec} {x1 : Int32} {x2 : Int32} {x3 : Int32} {x4 : Int32} (hBxo : X8_at h) (hBnow : X2_at h 7 S_now) (hBsurvey : X6_at h 38 S_survey) (hBsets : X0_at h 35 S_sets) {r : Int32 × Rec × Rec} (hF : X8_holdings S_now S_survey S_sets x1 x2 x3 x4 = some r) : aOk l 5 0 0 yX8_holdings cX8_holdings 5 (some .int) [.ref 4, .int x1, .int x2, .int x3, .int x4] h nx (aMt (some (.int r.1)) nx (fun h1 => X6_at h1 38 r.2.1 ∧ X0_at h1 35 r.2.2 ∧ (∀ q, (q < 38 ∨ 38 + 2 ≤ q) → (q < 35 ∨ 35 + 3 ≤ q) → h1 q = h q))) := by
  refine aOk.of (by decide +kernel) (Nat.le_of_ble_eq_true rfl) (fun X G hX C R0 _ => ?_)
  subst hX
  show aV X G 5 0 [(0, .ref 4), (1, .int x1), (2, .int x2), (3, .int x3), (4, .int x4)] [] h nx 0 0
  have hFr : ∀ q, (q < 38 ∨ 38 + 2 ≤ q) → (q < 35 ∨ 35 + 3 ≤ q) → h q = h q := fun _ _ _ => rfl
  rw [X8_holdings] at hF
  refine ab_aload_n C 0 rfl rfl dX8_holdings_0 ?_
  refine ab_g8 (v := .ref 7) C lf_X8_19 hBxo rfl dX8_holdings_1 ?_
  refine ab_iload_n C 1 rfl rfl dX8_holdings_4 ?_
  refine ab_cVR (v := .int (X2_hasHolder S_now x1)) (st := []) C lm_X8_107 (X2_hasHolder_ok (xl X) hBnow (r := (X2_hasHolder S_now x1)) rfl) [.int x1] rfl hBnow.1 rfl rfl rfl (by decide) ⟨Nat.zero_le _, Nat.zero_le _⟩ (Nat.le_of_ble_eq_true rfl) dX8_holdings_5 ?_
  refine ab_if_eq C 20 dX8_holdings_8 (by decide) (fun c1 => ?_) (fun c1 => ?_)
  · replace hF := (if_pos c1).symm.trans hF
    refine ab_iconst (v := (-1 : Int32)) C dX8_holdings_20 (by decide) ?_
    obtain rfl := Option.some.inj hF
    exact ab_iret C R0 rfl dX8_holdings_21 ⟨rfl, rfl, hBsurvey, hBsets, hFr⟩
  · replace hF := (if_neg c1).symm.trans hF
    refine ab_iload_n C 2 rfl rfl dX8_holdings_11 ?_
    refine ab_iconst (v := (1 : Int32)) C dX8_holdings_12 (by decide) ?_
    refine ab_iconst (v := (3 : Int32)) C dX8_holdings_13 (by decide) ?_
    refine ab_cSR (v := .int (X8_within x2 (1 : Int32) (3 : Int32))) (st := []) C lm_X8_74 (X8_within_ok (xl X) (r := (X8_within x2 (1 : Int32) (3 : Int32))) rfl) rfl rfl (by decide) ⟨Nat.zero_le _, Nat.zero_le _⟩ (Nat.le_of_ble_eq_true rfl) dX8_holdings_14 ?_
    refine ab_if_ne C 22 dX8_holdings_17 (by decide) (fun c2 => ?_) (fun c2 => ?_)
    · replace hF := (if_neg c2).symm.trans hF
      refine ab_iload_n C 3 rfl rfl dX8_holdings_22 ?_
      refine ab_iconst (v := (0 : Int32)) C dX8_holdings_23 (by decide) ?_
      refine ab_bipush (v := (31 : Int32)) C dX8_holdings_24 (by decide) ?_
      refine ab_cSR (v := .int (X8_within x3 (0 : Int32) (31 : Int32))) (st := []) C lm_X8_74 (X8_within_ok (xl X) (r := (X8_within x3 (0 : Int32) (31 : Int32))) rfl) rfl rfl (by decide) ⟨Nat.zero_le _, Nat.zero_le _⟩ (Nat.le_of_ble_eq_true rfl) dX8_holdings_26 ?_
      refine ab_if_eq C 42 dX8_holdings_29 (by decide) (fun c3 => ?_) (fun c3 => ?_)
      · replace hF := (if_pos c3).symm.trans hF
        refine ab_iconst (v := (-1 : Int32)) C dX8_holdings_42 (by decide) ?_
        obtain rfl := Option.some.inj hF
        exact ab_iret C R0 rfl dX8_holdings_43 ⟨rfl, rfl, hBsurvey, hBsets, hFr⟩
      · replace hF := (if_neg c3).symm.trans hF
        refine ab_iload C 4 rfl dX8_holdings_32 ?_
        refine ab_iconst (v := (0 : Int32)) C dX8_holdings_34 (by decide) ?_
        refine ab_iconst (v := (2 : Int32)) C dX8_holdings_35 (by decide) ?_
        refine ab_cSR (v := .int (X8_within x4 (0 : Int32) (2 : Int32))) (st := []) C lm_X8_74 (X8_within_ok (xl X) (r := (X8_within x4 (0 : Int32) (2 : Int32))) rfl) rfl rfl (by decide) ⟨Nat.zero_le _, Nat.zero_le _⟩ (Nat.le_of_ble_eq_true rfl) dX8_holdings_36 ?_
        refine ab_if_ne C 44 dX8_holdings_39 (by decide) (fun c4 => ?_) (fun c4 => ?_)
        · replace hF := (if_neg c4).symm.trans hF
          refine ab_aload_n C 0 rfl rfl dX8_holdings_44 ?_
          refine ab_g8 (v := .ref 38) C lf_X8_56 hBxo rfl dX8_holdings_45 ?_
          refine ab_aload_n C 0 rfl rfl dX8_holdings_48 ?_
          refine ab_g8 (v := .ref 7) C lf_X8_19 hBxo rfl dX8_holdings_49 ?_
          refine ab_iload_n C 1 rfl rfl dX8_holdings_52 ?_
          refine ab_aload_n C 0 rfl rfl dX8_holdings_53 ?_
          refine ab_g8 (v := .ref 35) C lf_X8_49 hBxo rfl dX8_holdings_54 ?_
          refine ab_iload_n C 2 rfl rfl dX8_holdings_57 ?_
          refine ab_iload_n C 3 rfl rfl dX8_holdings_58 ?_
          obtain ⟨v5, hxv5, hF⟩ := Option.bind_eq_some_iff.mp hF
          refine ab_cVN (st := []) C lm_X8_233 (X6_ask_ok (xl X) hBsurvey hBnow hBsets (by omega) (by omega) (by omega) (r := v5) hxv5) [.ref 7, .int x1, .ref 35, .int x2, .int x3] rfl hBsurvey.1 rfl rfl rfl (by decide) ⟨Nat.zero_le _, Nat.zero_le _⟩ (Nat.le_of_ble_eq_true rfl) dX8_holdings_59 (fun g6 pg6 => ?_)
          obtain ⟨k0, k1, Og6⟩ := pg6
          have hBsurvey : X6_at g6 38 v5.1 := k0
          have hBsets : X0_at g6 35 v5.2 := k1
          have hBxo : X8_at g6 := (Og6 4 (by omega) (by omega)).trans hBxo
          have hBnow : X2_at g6 7 S_now := X2_off hBnow (fun q i1 i2 => Og6 q (by omega) (by omega))
          have hFr : ∀ q, (q < 38 ∨ 38 + 2 ≤ q) → (q < 35 ∨ 35 + 3 ≤ q) → g6 q = h q := fun q u0 u1 => (Og6 q (by omega) (by omega)).trans (hFr q u0 u1)
          refine ab_iload C 4 rfl dX8_holdings_62 ?_
          rcases Classical.em (x4 = (0 : Int32)) with c7 | c7
          · replace hF := (if_pos c7).symm.trans hF
            refine ab_lookup (off := 28) C 92 dX8_holdings_64 (by decide) (by rw [c7]; rfl) (by decide) ?_
            refine ab_aload_n C 0 rfl rfl dX8_holdings_92 ?_
            refine ab_g8 (v := .ref 38) C lf_X8_56 hBxo rfl dX8_holdings_93 ?_
            refine ab_cVR (v := .int (X6_fitting v5.1)) (st := []) C lm_X8_237 (X6_fitting_ok (xl X) hBsurvey (r := (X6_fitting v5.1)) rfl) [] rfl hBsurvey.1 rfl rfl rfl (by decide) ⟨Nat.zero_le _, Nat.zero_le _⟩ (Nat.le_of_ble_eq_true rfl) dX8_holdings_96 ?_
            obtain rfl := Option.some.inj hF
            exact ab_iret C R0 rfl dX8_holdings_99 ⟨rfl, rfl, hBsurvey, hBsets, hFr⟩
          replace hF := (if_neg c7).symm.trans hF
          rcases Classical.em (x4 = (1 : Int32)) with c8 | c8
          · replace hF := (if_pos c8).symm.trans hF
            refine ab_lookup (off := 36) C 100 dX8_holdings_64 (by decide) (by rw [c8]; rfl) (by decide) ?_
            refine ab_aload_n C 0 rfl rfl dX8_holdings_100 ?_
            refine ab_g8 (v := .ref 38) C lf_X8_56 hBxo rfl dX8_holdings_101 ?_
            refine ab_cVR (v := .int (X6_inAll v5.1)) (st := []) C lm_X8_240 (X6_inAll_ok (xl X) hBsurvey (r := (X6_inAll v5.1)) rfl) [] rfl hBsurvey.1 rfl rfl rfl (by decide) ⟨Nat.zero_le _, Nat.zero_le _⟩ (Nat.le_of_ble_eq_true rfl) dX8_holdings_104 ?_
            obtain rfl := Option.some.inj hF
            exact ab_iret C R0 rfl dX8_holdings_107 ⟨rfl, rfl, hBsurvey, hBsets, hFr⟩
          replace hF := (if_neg c8).symm.trans hF
          refine ab_lookup (off := 44) C 108 dX8_holdings_64 (by decide) (by rw [lv_osw c7 (by decide), lv_osw c8 (by decide)]; rfl) (by decide) ?_
          refine ab_aload_n C 0 rfl rfl dX8_holdings_108 ?_
          refine ab_g8 (v := .ref 38) C lf_X8_56 hBxo rfl dX8_holdings_109 ?_
          refine ab_aload_n C 0 rfl rfl dX8_holdings_112 ?_
          refine ab_g8 (v := .ref 7) C lf_X8_19 hBxo rfl dX8_holdings_113 ?_
          obtain ⟨v9, hxv9, hF⟩ := Option.bind_eq_some_iff.mp hF
          refine ab_cVR (v := .int v9) (st := []) C lm_X8_243 (X6_nextToAsk_ok (xl X) hBsurvey hBnow (r := v9) hxv9) [.ref 7] rfl hBsurvey.1 rfl rfl rfl (by decide) ⟨Nat.zero_le _, Nat.zero_le _⟩ (Nat.le_of_ble_eq_true rfl) dX8_holdings_116 ?_
          obtain rfl := Option.some.inj hF
          exact ab_iret C R0 rfl dX8_holdings_119 ⟨rfl, rfl, hBsurvey, hBsets, hFr⟩
        · replace hF := (if_pos c4).symm.trans hF
          refine ab_iconst (v := (-1 : Int32)) C dX8_holdings_42 (by decide) ?_
          obtain rfl := Option.some.inj hF
          exact ab_iret C R0 rfl dX8_holdings_43 ⟨rfl, rfl, hBsurvey, hBsets, hFr⟩
    · replace hF := (if_pos c2).symm.trans hF
      refine ab_iconst (v := (-1 : Int32)) C dX8_holdings_20 (by decide) ?_
      obtain rfl := Option.some.inj hF
      exact ab_iret C R0 rfl dX8_holdings_21 ⟨rfl, rfl, hBsurvey, hBsets, hFr⟩
theorem dX8_lowestOf_0 : decode cX8_lowestOf 0 = .ok (.lload_n 0, 1) := by decide +kernel
theorem dX8_lowestOf_1 : decode cX8_lowestOf 1 = .ok (.lstore_n 3, 1) := by decide +kernel
theorem dX8_lowestOf_2 : decode cX8_lowestOf 2 = .ok (.iload_n 2, 1) := by decide +kernel
theorem dX8_lowestOf_3 : decode cX8_lowestOf 3 = .ok (.istore 5, 2) := by decide +kernel
theorem dX8_lowestOf_5 : decode cX8_lowestOf 5 = .ok (.iload 5, 2) := by decide +kernel
theorem dX8_lowestOf_7 : decode cX8_lowestOf 7 = .ok (.ifCond .le 15, 3) := by decide +kernel
theorem dX8_lowestOf_10 : decode cX8_lowestOf 10 = .ok (.lload_n 3, 1) := by decide +kernel
theorem dX8_lowestOf_11 : decode cX8_lowestOf 11 = .ok (.lload_n 3, 1) := by decide +kernel
theorem dX8_lowestOf_12 : decode cX8_lowestOf 12 = .ok (.lconst 1, 1) := by decide +kernel
theorem dX8_lowestOf_13 : decode cX8_lowestOf 13 = .ok (.lsub, 1) := by decide +kernel
theorem dX8_lowestOf_14 : decode cX8_lowestOf 14 = .ok (.land, 1) := by decide +kernel
theorem dX8_lowestOf_15 : decode cX8_lowestOf 15 = .ok (.lstore_n 3, 1) := by decide +kernel
theorem dX8_lowestOf_16 : decode cX8_lowestOf 16 = .ok (.iinc 5 (-1), 3) := by decide +kernel
theorem dX8_lowestOf_19 : decode cX8_lowestOf 19 = .ok (.goto (-14), 3) := by decide +kernel
theorem dX8_lowestOf_22 : decode cX8_lowestOf 22 = .ok (.lload_n 0, 1) := by decide +kernel
theorem dX8_lowestOf_23 : decode cX8_lowestOf 23 = .ok (.lload_n 3, 1) := by decide +kernel
theorem dX8_lowestOf_24 : decode cX8_lowestOf 24 = .ok (.ldc2_w 197, 3) := by decide +kernel
theorem dX8_lowestOf_27 : decode cX8_lowestOf 27 = .ok (.lxor, 1) := by decide +kernel
theorem dX8_lowestOf_28 : decode cX8_lowestOf 28 = .ok (.land, 1) := by decide +kernel
theorem dX8_lowestOf_29 : decode cX8_lowestOf 29 = .ok (.lreturn, 1) := by decide +kernel
def X8_lowestOf_L5 : Nat → Int64 → Int32 → Option (Int64)
  | 0, _, _ => none
  | n5 + 1, v1, v2 => if v2 ≤ 0 then
      some v1
    else
      aLet (v1 &&& (v1 - (1 : Int64))) fun v4 =>
      aLet (v2 + (-1 : Int32)) fun v5 =>
      X8_lowestOf_L5 n5 v4 v5
def X8_lowestOf (y0 : Int64) (x2 : Int32) : Option (Int64) :=
  (X8_lowestOf_L5 aFu y0 x2).bind fun e6 =>
  some (y0 &&& (e6 ^^^ (-1 : Int64)))
set_option maxRecDepth 100000 in
set_option maxHeartbeats 4000000 in
theorem X8_lowestOf_ok (l : Launch) {h : aH} {nx : Nat} {y0 : Int64} {x2 : Int32} {r : Int64} (hF : X8_lowestOf y0 x2 = some r) : aOk l 0 0 0 yX8_lowestOf cX8_lowestOf 6 (some .long) [.long y0, .int x2] h nx (aRd (.long r) h nx) := by
  refine aOk.of (by decide +kernel) (Nat.le_of_ble_eq_true rfl) (fun X G hX C R0 _ => ?_)
  subst hX
  show aV X G 6 0 [(0, .long y0), (2, .int x2)] [] h nx 0 0
  rw [X8_lowestOf] at hF
  refine ab_lload_n C 0 rfl rfl dX8_lowestOf_0 ?_
  refine ab_lstore_n (lv' := [(3, .long y0), (0, .long y0), (2, .int x2)]) C dX8_lowestOf_1 rfl ⟨by decide, by decide⟩ rfl ?_
  refine ab_iload_n C 2 rfl rfl dX8_lowestOf_2 ?_
  refine ab_istore (lv' := [(5, .int x2), (3, .long y0), (0, .long y0), (2, .int x2)]) C dX8_lowestOf_3 (by decide) rfl ?_
  have L5 : ∀ (n5 : Nat) (v1 : Int64) (v2 : Int32), ∀ (res5 : Int64), X8_lowestOf_L5 n5 v1 v2 = some res5 → (aV X G 6 22 [(0, .long y0), (3, .long res5)] [] h nx 0 0) → aV X G 6 5 [(0, .long y0), (3, .long v1), (5, .int v2)] [] h nx 0 0 := by
    intro n5
    induction n5 with
    | zero => intro v1 v2 res5 hF KX5; cases (show (none : Option (Int64)) = some res5 from hF)
    | succ n5 ih5 =>
      intro v1 v2 res5 hF KX5
      rw [X8_lowestOf_L5] at hF
      refine ab_iload C 2 rfl dX8_lowestOf_5 ?_
      refine ab_if_le C 22 dX8_lowestOf_7 (by decide) (fun c3 => ?_) (fun c3 => ?_)
      · replace hF := (if_pos c3).symm.trans hF
        obtain rfl := Option.some.inj hF
        refine aV.sub (lv' := [(0, .long y0), (3, .long v1)]) [0, 1] rfl ?_
        exact KX5
      · replace hF := (if_neg c3).symm.trans hF
        refine ab_lload_n C 1 rfl rfl dX8_lowestOf_10 ?_
        refine ab_lload_n C 1 rfl rfl dX8_lowestOf_11 ?_
        refine ab_lconst (v := (1 : Int64)) C dX8_lowestOf_12 (by decide) ?_
        refine ab_lsub C dX8_lowestOf_13 ?_
        refine ab_land C dX8_lowestOf_14 ?_
        refine ab_topl (fun v4 qv4 => ?_)
        replace hF := aLet_e hF v4 qv4
        refine ab_lstore_n (lv' := [(3, .long v4), (0, .long y0), (5, .int v2)]) C dX8_lowestOf_15 rfl ⟨by decide, by decide⟩ rfl ?_
        obtain ⟨v5, qv5⟩ : ∃ y : Int32, y = (v2 + (-1 : Int32)) := ⟨_, rfl⟩
        replace hF := aLet_e hF v5 qv5
        refine ab_iinc (lv' := [(5, .int v5), (3, .long v4), (0, .long y0)]) C 2 rfl dX8_lowestOf_16 (by rw [qv5]; rfl) (by decide) rfl ?_
        refine ab_goto C 5 dX8_lowestOf_19 (by decide) ?_
        refine aV.sub (lv' := [(0, .long y0), (3, .long v4), (5, .int v5)]) [2, 1, 0] rfl ?_
        exact ih5 v4 v5 res5 hF KX5
  refine aV.sub (lv' := [(0, .long y0), (3, .long y0), (5, .int x2)]) [2, 1, 0] rfl ?_
  obtain ⟨e6, he6, hF⟩ := Option.bind_eq_some_iff.mp hF
  refine L5 aFu y0 x2 e6 he6 ?_
  refine ab_lload_n C 0 rfl rfl dX8_lowestOf_22 ?_
  refine ab_lload_n C 1 rfl rfl dX8_lowestOf_23 ?_
  refine ab_ldc2 (v := (-1 : Int64)) C dX8_lowestOf_24 lq_X8_197 ?_
  refine ab_lxor C dX8_lowestOf_27 ?_
  refine ab_land C dX8_lowestOf_28 ?_
  obtain rfl := Option.some.inj hF
  exact ab_lret C R0 dX8_lowestOf_29 ⟨rfl, rfl, rfl⟩
theorem dX8_outcome_0 : decode cX8_outcome 0 = .ok (.iload_n 3, 1) := by decide +kernel
theorem dX8_outcome_1 : decode cX8_outcome 1 = .ok (.ifCond .le 8, 3) := by decide +kernel
theorem dX8_outcome_4 : decode cX8_outcome 4 = .ok (.iload_n 3, 1) := by decide +kernel
theorem dX8_outcome_5 : decode cX8_outcome 5 = .ok (.iconst 4, 1) := by decide +kernel
theorem dX8_outcome_6 : decode cX8_outcome 6 = .ok (.if_icmp .le 14, 3) := by decide +kernel
theorem dX8_outcome_9 : decode cX8_outcome 9 = .ok (.aload_n 0, 1) := by decide +kernel
theorem dX8_outcome_10 : decode cX8_outcome 10 = .ok (.iload_n 1, 1) := by decide +kernel
theorem dX8_outcome_11 : decode cX8_outcome 11 = .ok (.lload 4, 2) := by decide +kernel
theorem dX8_outcome_13 : decode cX8_outcome 13 = .ok (.iload_n 2, 1) := by decide +kernel
theorem dX8_outcome_14 : decode cX8_outcome 14 = .ok (.lload 6, 2) := by decide +kernel
theorem dX8_outcome_16 : decode cX8_outcome 16 = .ok (.invokevirtual 353, 3) := by decide +kernel
theorem dX8_outcome_19 : decode cX8_outcome 19 = .ok (.ireturn, 1) := by decide +kernel
theorem dX8_outcome_20 : decode cX8_outcome 20 = .ok (.iload_n 3, 1) := by decide +kernel
theorem dX8_outcome_21 : decode cX8_outcome 21 = .ok (.iconst 2, 1) := by decide +kernel
theorem dX8_outcome_22 : decode cX8_outcome 22 = .ok (.irem, 1) := by decide +kernel
theorem dX8_outcome_23 : decode cX8_outcome 23 = .ok (.ifCond .ne 7, 3) := by decide +kernel
theorem dX8_outcome_26 : decode cX8_outcome 26 = .ok (.iconst 1, 1) := by decide +kernel
theorem dX8_outcome_27 : decode cX8_outcome 27 = .ok (.goto 4, 3) := by decide +kernel
theorem dX8_outcome_30 : decode cX8_outcome 30 = .ok (.iconst 0, 1) := by decide +kernel
theorem dX8_outcome_31 : decode cX8_outcome 31 = .ok (.istore 10, 2) := by decide +kernel
theorem dX8_outcome_33 : decode cX8_outcome 33 = .ok (.aload_n 0, 1) := by decide +kernel
theorem dX8_outcome_34 : decode cX8_outcome 34 = .ok (.iload_n 1, 1) := by decide +kernel
theorem dX8_outcome_35 : decode cX8_outcome 35 = .ok (.iload_n 2, 1) := by decide +kernel
theorem dX8_outcome_36 : decode cX8_outcome 36 = .ok (.iload_n 3, 1) := by decide +kernel
theorem dX8_outcome_37 : decode cX8_outcome 37 = .ok (.iconst 1, 1) := by decide +kernel
theorem dX8_outcome_38 : decode cX8_outcome 38 = .ok (.isub, 1) := by decide +kernel
theorem dX8_outcome_39 : decode cX8_outcome 39 = .ok (.lload 4, 2) := by decide +kernel
theorem dX8_outcome_41 : decode cX8_outcome 41 = .ok (.lload 6, 2) := by decide +kernel
theorem dX8_outcome_43 : decode cX8_outcome 43 = .ok (.lload 8, 2) := by decide +kernel
theorem dX8_outcome_45 : decode cX8_outcome 45 = .ok (.invokestatic 251, 3) := by decide +kernel
theorem dX8_outcome_48 : decode cX8_outcome 48 = .ok (.istore 11, 2) := by decide +kernel
theorem dX8_outcome_50 : decode cX8_outcome 50 = .ok (.lload 8, 2) := by decide +kernel
theorem dX8_outcome_52 : decode cX8_outcome 52 = .ok (.lstore 12, 2) := by decide +kernel
theorem dX8_outcome_54 : decode cX8_outcome 54 = .ok (.lload 8, 2) := by decide +kernel
theorem dX8_outcome_56 : decode cX8_outcome 56 = .ok (.invokestatic 118, 3) := by decide +kernel
theorem dX8_outcome_59 : decode cX8_outcome 59 = .ok (.istore 14, 2) := by decide +kernel
theorem dX8_outcome_61 : decode cX8_outcome 61 = .ok (.iload 14, 2) := by decide +kernel
theorem dX8_outcome_63 : decode cX8_outcome 63 = .ok (.ifCond .le 112, 3) := by decide +kernel
theorem dX8_outcome_66 : decode cX8_outcome 66 = .ok (.lload 12, 2) := by decide +kernel
theorem dX8_outcome_68 : decode cX8_outcome 68 = .ok (.lload 12, 2) := by decide +kernel
theorem dX8_outcome_70 : decode cX8_outcome 70 = .ok (.lneg, 1) := by decide +kernel
theorem dX8_outcome_71 : decode cX8_outcome 71 = .ok (.land, 1) := by decide +kernel
theorem dX8_outcome_72 : decode cX8_outcome 72 = .ok (.lstore 15, 2) := by decide +kernel
theorem dX8_outcome_74 : decode cX8_outcome 74 = .ok (.lload 12, 2) := by decide +kernel
theorem dX8_outcome_76 : decode cX8_outcome 76 = .ok (.lload 15, 2) := by decide +kernel
theorem dX8_outcome_78 : decode cX8_outcome 78 = .ok (.ldc2_w 197, 3) := by decide +kernel
theorem dX8_outcome_81 : decode cX8_outcome 81 = .ok (.lxor, 1) := by decide +kernel
theorem dX8_outcome_82 : decode cX8_outcome 82 = .ok (.land, 1) := by decide +kernel
theorem dX8_outcome_83 : decode cX8_outcome 83 = .ok (.lstore 12, 2) := by decide +kernel
theorem dX8_outcome_85 : decode cX8_outcome 85 = .ok (.iload 10, 2) := by decide +kernel
theorem dX8_outcome_87 : decode cX8_outcome 87 = .ok (.ifCond .eq 31, 3) := by decide +kernel
theorem dX8_outcome_90 : decode cX8_outcome 90 = .ok (.aload_n 0, 1) := by decide +kernel
theorem dX8_outcome_91 : decode cX8_outcome 91 = .ok (.iload_n 1, 1) := by decide +kernel
theorem dX8_outcome_92 : decode cX8_outcome 92 = .ok (.iload_n 2, 1) := by decide +kernel
theorem dX8_outcome_93 : decode cX8_outcome 93 = .ok (.iload_n 3, 1) := by decide +kernel
theorem dX8_outcome_94 : decode cX8_outcome 94 = .ok (.iconst 1, 1) := by decide +kernel
theorem dX8_outcome_95 : decode cX8_outcome 95 = .ok (.isub, 1) := by decide +kernel
theorem dX8_outcome_96 : decode cX8_outcome 96 = .ok (.lload 4, 2) := by decide +kernel
theorem dX8_outcome_98 : decode cX8_outcome 98 = .ok (.lload 15, 2) := by decide +kernel
theorem dX8_outcome_100 : decode cX8_outcome 100 = .ok (.lor, 1) := by decide +kernel
theorem dX8_outcome_101 : decode cX8_outcome 101 = .ok (.lload 6, 2) := by decide +kernel
theorem dX8_outcome_103 : decode cX8_outcome 103 = .ok (.lload 8, 2) := by decide +kernel
theorem dX8_outcome_105 : decode cX8_outcome 105 = .ok (.lload 15, 2) := by decide +kernel
theorem dX8_outcome_107 : decode cX8_outcome 107 = .ok (.ldc2_w 197, 3) := by decide +kernel
theorem dX8_outcome_110 : decode cX8_outcome 110 = .ok (.lxor, 1) := by decide +kernel
theorem dX8_outcome_111 : decode cX8_outcome 111 = .ok (.land, 1) := by decide +kernel
theorem dX8_outcome_112 : decode cX8_outcome 112 = .ok (.invokestatic 251, 3) := by decide +kernel
theorem dX8_outcome_115 : decode cX8_outcome 115 = .ok (.goto 28, 3) := by decide +kernel
theorem dX8_outcome_118 : decode cX8_outcome 118 = .ok (.aload_n 0, 1) := by decide +kernel
theorem dX8_outcome_119 : decode cX8_outcome 119 = .ok (.iload_n 1, 1) := by decide +kernel
theorem dX8_outcome_120 : decode cX8_outcome 120 = .ok (.iload_n 2, 1) := by decide +kernel
theorem dX8_outcome_121 : decode cX8_outcome 121 = .ok (.iload_n 3, 1) := by decide +kernel
theorem dX8_outcome_122 : decode cX8_outcome 122 = .ok (.iconst 1, 1) := by decide +kernel
theorem dX8_outcome_123 : decode cX8_outcome 123 = .ok (.isub, 1) := by decide +kernel
theorem dX8_outcome_124 : decode cX8_outcome 124 = .ok (.lload 4, 2) := by decide +kernel
theorem dX8_outcome_126 : decode cX8_outcome 126 = .ok (.lload 6, 2) := by decide +kernel
theorem dX8_outcome_128 : decode cX8_outcome 128 = .ok (.lload 15, 2) := by decide +kernel
theorem dX8_outcome_130 : decode cX8_outcome 130 = .ok (.lor, 1) := by decide +kernel
theorem dX8_outcome_131 : decode cX8_outcome 131 = .ok (.lload 8, 2) := by decide +kernel
theorem dX8_outcome_133 : decode cX8_outcome 133 = .ok (.lload 15, 2) := by decide +kernel
theorem dX8_outcome_135 : decode cX8_outcome 135 = .ok (.ldc2_w 197, 3) := by decide +kernel
theorem dX8_outcome_138 : decode cX8_outcome 138 = .ok (.lxor, 1) := by decide +kernel
theorem dX8_outcome_139 : decode cX8_outcome 139 = .ok (.land, 1) := by decide +kernel
theorem dX8_outcome_140 : decode cX8_outcome 140 = .ok (.invokestatic 251, 3) := by decide +kernel
theorem dX8_outcome_143 : decode cX8_outcome 143 = .ok (.istore 17, 2) := by decide +kernel
theorem dX8_outcome_145 : decode cX8_outcome 145 = .ok (.iload 10, 2) := by decide +kernel
theorem dX8_outcome_147 : decode cX8_outcome 147 = .ok (.ifCond .eq 13, 3) := by decide +kernel
theorem dX8_outcome_150 : decode cX8_outcome 150 = .ok (.iload 11, 2) := by decide +kernel
theorem dX8_outcome_152 : decode cX8_outcome 152 = .ok (.iload 17, 2) := by decide +kernel
theorem dX8_outcome_154 : decode cX8_outcome 154 = .ok (.invokestatic 207, 3) := by decide +kernel
theorem dX8_outcome_157 : decode cX8_outcome 157 = .ok (.goto 10, 3) := by decide +kernel
theorem dX8_outcome_160 : decode cX8_outcome 160 = .ok (.iload 11, 2) := by decide +kernel
theorem dX8_outcome_162 : decode cX8_outcome 162 = .ok (.iload 17, 2) := by decide +kernel
theorem dX8_outcome_164 : decode cX8_outcome 164 = .ok (.invokestatic 357, 3) := by decide +kernel
theorem dX8_outcome_167 : decode cX8_outcome 167 = .ok (.istore 11, 2) := by decide +kernel
theorem dX8_outcome_169 : decode cX8_outcome 169 = .ok (.iinc 14 (-1), 3) := by decide +kernel
theorem dX8_outcome_172 : decode cX8_outcome 172 = .ok (.goto (-111), 3) := by decide +kernel
theorem dX8_outcome_175 : decode cX8_outcome 175 = .ok (.iload 11, 2) := by decide +kernel
theorem dX8_outcome_177 : decode cX8_outcome 177 = .ok (.ireturn, 1) := by decide +kernel
def X8_outcome_J9 (S0 : Rec) (x1 : Int32) (y4 : Int64) (x2 : Int32) (y6 : Int64) : Option (Int32) :=
  (X2_lead S0 x1 y4 x2 y6).bind fun v1 =>
  some v1
def X8_outcome_J143 (v4 : Int32) (v7 : Int32) (v9 : Int32) (v12 : Int64) (k61 : Int32 → Int64 → Int32 → Option (Int32)) (v13 : Int32) : Option (Int32) :=
  if v4 = 0 then
    aLet (a_min v7 v13) fun v15 =>
    aLet (v9 + (-1 : Int32)) fun v16 =>
    k61 v15 v12 v16
  else
    aLet (a_max v7 v13) fun v17 =>
    aLet (v9 + (-1 : Int32)) fun v18 =>
    k61 v17 v12 v18
def X8_outcome_L61 (v4 : Int32) (S0 : Rec) (x1 : Int32) (x2 : Int32) (x3 : Int32) (y4 : Int64) (y6 : Int64) (y8 : Int64) (kr : Rec → Int32 → Int32 → Int32 → Int64 → Int64 → Int64 → Option (Int32)) : Nat → Int32 → Int64 → Int32 → Option (Int32)
  | 0, _, _, _ => none
  | n61 + 1, v7, v8, v9 => if v9 ≤ 0 then
      some v7
    else
      aLet (v8 &&& (-v8)) fun v11 =>
      aLet (v8 &&& (v11 ^^^ (-1 : Int64))) fun v12 =>
      if v4 = 0 then
        (kr S0 x1 x2 (x3 - (1 : Int32)) y4 (y6 ||| v11) (y8 &&& (v11 ^^^ (-1 : Int64)))).bind fun v20 =>
        X8_outcome_J143 v4 v7 v9 v12 (X8_outcome_L61 v4 S0 x1 x2 x3 y4 y6 y8 kr n61) v20
      else
        (kr S0 x1 x2 (x3 - (1 : Int32)) (y4 ||| v11) y6 (y8 &&& (v11 ^^^ (-1 : Int64)))).bind fun v21 =>
        X8_outcome_J143 v4 v7 v9 v12 (X8_outcome_L61 v4 S0 x1 x2 x3 y4 y6 y8 kr n61) v21
def X8_outcome_J31 (S0 : Rec) (x1 : Int32) (x2 : Int32) (x3 : Int32) (y4 : Int64) (y6 : Int64) (y8 : Int64) (kr : Rec → Int32 → Int32 → Int32 → Int64 → Int64 → Int64 → Option (Int32)) (v4 : Int32) : Option (Int32) :=
  (kr S0 x1 x2 (x3 - (1 : Int32)) y4 y6 y8).bind fun v5 =>
  aLet (J13_bitCount_95d88 y8) fun v6 =>
  (X8_outcome_L61 v4 S0 x1 x2 x3 y4 y6 y8 kr aFu v5 y8 v6).bind fun e22 =>
  some e22
def X8_outcome : Nat → Rec → Int32 → Int32 → Int32 → Int64 → Int64 → Int64 → Option (Int32)
  | 0, _, _, _, _, _, _, _ => none
  | nr + 1, S0, x1, x2, x3, y4, y6, y8 => if x3 ≤ 0 then
      X8_outcome_J9 S0 x1 y4 x2 y6
    else
      if x3 ≤ (4 : Int32) then
        if (x3 - x3 / (2 : Int32) * (2 : Int32)) = 0 then
          X8_outcome_J31 S0 x1 x2 x3 y4 y6 y8 (X8_outcome nr) (1 : Int32)
        else
          X8_outcome_J31 S0 x1 x2 x3 y4 y6 y8 (X8_outcome nr) (0 : Int32)
      else
        X8_outcome_J9 S0 x1 y4 x2 y6
set_option maxRecDepth 100000 in
set_option maxHeartbeats 4000000 in
theorem X8_outcome_ok (l : Launch) : ∀ (nr : Nat) {h : aH} {nx : Nat} {a0 : Nat} {S0 : Rec} {x1 : Int32} {x2 : Int32} {x3 : Int32} {y4 : Int64} {y6 : Int64} {y8 : Int64} (hB0 : X2_at h a0 S0) {r : Int32} (hF : X8_outcome nr S0 x1 x2 x3 y4 y6 y8 = some r), aOk l (4 + nr) 0 0 yX8_outcome cX8_outcome 18 (some .int) [.ref a0, .int x1, .int x2, .int x3, .long y4, .long y6, .long y8] h nx (aRd (.int r) h nx) := by
  intro nr
  induction nr with
  | zero => intro h nx a0 S0 x1 x2 x3 y4 y6 y8 hB0 r hF; cases (show (none : Option (Int32)) = some r from hF)
  | succ nr ih =>
    intro h nx a0 S0 x1 x2 x3 y4 y6 y8 hB0 r hF
    refine aOk.of (by decide +kernel) (Nat.le_of_ble_eq_true rfl) (fun X G hX C R0 _ => ?_)
    subst hX
    show aV X G 18 0 [(0, .ref a0), (1, .int x1), (2, .int x2), (3, .int x3), (4, .long y4), (6, .long y6), (8, .long y8)] [] h nx 0 0
    rw [X8_outcome] at hF
    refine ab_iload_n C 3 rfl rfl dX8_outcome_0 ?_
    have J9 : X8_outcome_J9 S0 x1 y4 x2 y6 = some r → aV X G 18 9 [(0, .ref a0), (1, .int x1), (2, .int x2), (4, .long y4), (6, .long y6)] [] h nx 0 0 := by
      intro  hF
      rw [X8_outcome_J9] at hF
      refine ab_aload_n C 0 rfl rfl dX8_outcome_9 ?_
      refine ab_iload_n C 1 rfl rfl dX8_outcome_10 ?_
      refine ab_lload C 3 rfl dX8_outcome_11 ?_
      refine ab_iload_n C 2 rfl rfl dX8_outcome_13 ?_
      refine ab_lload C 4 rfl dX8_outcome_14 ?_
      obtain ⟨v1, hxv1, hF⟩ := Option.bind_eq_some_iff.mp hF
      refine ab_cVR (v := .int v1) (st := []) C lm_X8_353 (X2_lead_ok (xl X) hB0 (r := v1) hxv1) [.int x1, .long y4, .int x2, .long y6] rfl hB0.1 rfl rfl rfl (by omega) ⟨Nat.zero_le _, Nat.zero_le _⟩ (Nat.le_of_ble_eq_true rfl) dX8_outcome_16 ?_
      obtain rfl := Option.some.inj hF
      exact ab_iret C R0 rfl dX8_outcome_19 ⟨rfl, rfl, rfl⟩
    refine ab_if_le C 9 dX8_outcome_1 (by decide) (fun c2 => ?_) (fun c2 => ?_)
    · replace hF := (if_pos c2).symm.trans hF
      refine aV.sub (lv' := [(0, .ref a0), (1, .int x1), (2, .int x2), (4, .long y4), (6, .long y6)]) [0, 1, 2, 4, 5] rfl ?_
      exact J9 hF
    · replace hF := (if_neg c2).symm.trans hF
      refine ab_iload_n C 3 rfl rfl dX8_outcome_4 ?_
      refine ab_iconst (v := (4 : Int32)) C dX8_outcome_5 (by decide) ?_
      refine ab_icmp_le C 20 dX8_outcome_6 (by decide) (fun c3 => ?_) (fun c3 => ?_)
      · replace hF := (if_pos c3).symm.trans hF
        refine ab_iload_n C 3 rfl rfl dX8_outcome_20 ?_
        refine ab_iconst (v := (2 : Int32)) C dX8_outcome_21 (by decide) ?_
        refine ab_irem C (by decide) dX8_outcome_22 ?_
        have J31 : ∀ (v4 : Int32), X8_outcome_J31 S0 x1 x2 x3 y4 y6 y8 (X8_outcome nr) v4 = some r → aV X G 18 31 [(0, .ref a0), (1, .int x1), (2, .int x2), (3, .int x3), (4, .long y4), (6, .long y6), (8, .long y8)] [.int v4] h nx 0 0 := by
          intro v4 hF
          rw [X8_outcome_J31] at hF
          refine ab_istore (lv' := [(10, .int v4), (0, .ref a0), (1, .int x1), (2, .int x2), (3, .int x3), (4, .long y4), (6, .long y6), (8, .long y8)]) C dX8_outcome_31 (by decide) rfl ?_
          refine ab_aload_n C 1 rfl rfl dX8_outcome_33 ?_
          refine ab_iload_n C 2 rfl rfl dX8_outcome_34 ?_
          refine ab_iload_n C 3 rfl rfl dX8_outcome_35 ?_
          refine ab_iload_n C 4 rfl rfl dX8_outcome_36 ?_
          refine ab_iconst (v := (1 : Int32)) C dX8_outcome_37 (by decide) ?_
          refine ab_isub C dX8_outcome_38 ?_
          refine ab_lload C 5 rfl dX8_outcome_39 ?_
          refine ab_lload C 6 rfl dX8_outcome_41 ?_
          refine ab_lload C 7 rfl dX8_outcome_43 ?_
          obtain ⟨v5, hxv5, hF⟩ := Option.bind_eq_some_iff.mp hF
          refine ab_cSR (v := .int v5) (st := []) C lm_X8_251 (ih hB0 hxv5) rfl rfl (by omega) ⟨Nat.zero_le _, Nat.zero_le _⟩ (Nat.le_of_ble_eq_true rfl) dX8_outcome_45 ?_
          refine ab_istore (lv' := [(11, .int v5), (10, .int v4), (0, .ref a0), (1, .int x1), (2, .int x2), (3, .int x3), (4, .long y4), (6, .long y6), (8, .long y8)]) C dX8_outcome_48 (by decide) rfl ?_
          refine ab_lload C 8 rfl dX8_outcome_50 ?_
          refine ab_lstore (lv' := [(12, .long y8), (11, .int v5), (10, .int v4), (0, .ref a0), (1, .int x1), (2, .int x2), (3, .int x3), (4, .long y4), (6, .long y6), (8, .long y8)]) C dX8_outcome_52 ⟨by decide, by decide⟩ rfl ?_
          refine ab_lload C 9 rfl dX8_outcome_54 ?_
          refine ab_cSR (v := .int (J13_bitCount_95d88 y8)) (st := []) C lm_X8_118 (J13_bitCount_95d88_ok (xl X) (r := (J13_bitCount_95d88 y8)) rfl) rfl rfl (by omega) ⟨Nat.zero_le _, Nat.zero_le _⟩ (Nat.le_of_ble_eq_true rfl) dX8_outcome_56 ?_
          refine ab_topi (fun v6 qv6 => ?_)
          replace hF := aLet_e hF v6 qv6
          refine ab_istore (lv' := [(14, .int v6), (12, .long y8), (11, .int v5), (10, .int v4), (0, .ref a0), (1, .int x1), (2, .int x2), (3, .int x3), (4, .long y4), (6, .long y6), (8, .long y8)]) C dX8_outcome_59 (by decide) rfl ?_
          have L61 : ∀ (n61 : Nat) (v7 : Int32) (v8 : Int64) (v9 : Int32), ∀ (res61 : Int32), X8_outcome_L61 v4 S0 x1 x2 x3 y4 y6 y8 (X8_outcome nr) n61 v7 v8 v9 = some res61 → (aV X G 18 175 [(11, .int res61)] [] h nx 0 0) → aV X G 18 61 [(0, .ref a0), (1, .int x1), (2, .int x2), (3, .int x3), (4, .long y4), (6, .long y6), (8, .long y8), (10, .int v4), (11, .int v7), (12, .long v8), (14, .int v9)] [] h nx 0 0 := by
            intro n61
            induction n61 with
            | zero => intro v7 v8 v9 res61 hF KX61; cases (show (none : Option (Int32)) = some res61 from hF)
            | succ n61 ih61 =>
              intro v7 v8 v9 res61 hF KX61
              rw [X8_outcome_L61] at hF
              refine ab_iload C 10 rfl dX8_outcome_61 ?_
              refine ab_if_le C 175 dX8_outcome_63 (by decide) (fun c10 => ?_) (fun c10 => ?_)
              · replace hF := (if_pos c10).symm.trans hF
                obtain rfl := Option.some.inj hF
                refine aV.sub (lv' := [(11, .int v7)]) [8] rfl ?_
                exact KX61
              · replace hF := (if_neg c10).symm.trans hF
                refine ab_lload C 9 rfl dX8_outcome_66 ?_
                refine ab_lload C 9 rfl dX8_outcome_68 ?_
                refine ab_lneg C dX8_outcome_70 ?_
                refine ab_land C dX8_outcome_71 ?_
                refine ab_topl (fun v11 qv11 => ?_)
                replace hF := aLet_e hF v11 qv11
                refine ab_lstore (lv' := [(15, .long v11), (0, .ref a0), (1, .int x1), (2, .int x2), (3, .int x3), (4, .long y4), (6, .long y6), (8, .long y8), (10, .int v4), (11, .int v7), (12, .long v8), (14, .int v9)]) C dX8_outcome_72 ⟨by decide, by decide⟩ rfl ?_
                refine ab_lload C 10 rfl dX8_outcome_74 ?_
                refine ab_lload C 0 rfl dX8_outcome_76 ?_
                refine ab_ldc2 (v := (-1 : Int64)) C dX8_outcome_78 lq_X8_197 ?_
                refine ab_lxor C dX8_outcome_81 ?_
                refine ab_land C dX8_outcome_82 ?_
                refine ab_topl (fun v12 qv12 => ?_)
                replace hF := aLet_e hF v12 qv12
                refine ab_lstore (lv' := [(12, .long v12), (15, .long v11), (0, .ref a0), (1, .int x1), (2, .int x2), (3, .int x3), (4, .long y4), (6, .long y6), (8, .long y8), (10, .int v4), (11, .int v7), (14, .int v9)]) C dX8_outcome_83 ⟨by decide, by decide⟩ rfl ?_
                refine ab_iload C 9 rfl dX8_outcome_85 ?_
                have J143 : ∀ (v13 : Int32), X8_outcome_J143 v4 v7 v9 v12 (X8_outcome_L61 v4 S0 x1 x2 x3 y4 y6 y8 (X8_outcome nr) n61) v13 = some res61 → aV X G 18 143 [(0, .ref a0), (1, .int x1), (2, .int x2), (3, .int x3), (4, .long y4), (6, .long y6), (8, .long y8), (10, .int v4), (11, .int v7), (12, .long v12), (14, .int v9)] [.int v13] h nx 0 0 := by
                  intro v13 hF
                  rw [X8_outcome_J143] at hF
                  refine ab_istore (lv' := [(17, .int v13), (0, .ref a0), (1, .int x1), (2, .int x2), (3, .int x3), (4, .long y4), (6, .long y6), (8, .long y8), (10, .int v4), (11, .int v7), (12, .long v12), (14, .int v9)]) C dX8_outcome_143 (by decide) rfl ?_
                  refine ab_iload C 8 rfl dX8_outcome_145 ?_
                  refine ab_if_eq C 160 dX8_outcome_147 (by decide) (fun c14 => ?_) (fun c14 => ?_)
                  · replace hF := (if_pos c14).symm.trans hF
                    refine ab_iload C 9 rfl dX8_outcome_160 ?_
                    refine ab_iload C 0 rfl dX8_outcome_162 ?_
                    refine ab_mmin C (own := RX8) (a_mem 793 (by decide +kernel) (by decide +kernel)) (Nat.le_of_ble_eq_true rfl) ⟨Nat.zero_le _, Nat.zero_le _⟩ (Nat.le_of_ble_eq_true rfl) dX8_outcome_164 ?_
                    refine ab_topi (fun v15 qv15 => ?_)
                    replace hF := aLet_e hF v15 qv15
                    refine ab_istore (lv' := [(11, .int v15), (17, .int v13), (0, .ref a0), (1, .int x1), (2, .int x2), (3, .int x3), (4, .long y4), (6, .long y6), (8, .long y8), (10, .int v4), (12, .long v12), (14, .int v9)]) C dX8_outcome_167 (by decide) rfl ?_
                    obtain ⟨v16, qv16⟩ : ∃ y : Int32, y = (v9 + (-1 : Int32)) := ⟨_, rfl⟩
                    replace hF := aLet_e hF v16 qv16
                    refine ab_iinc (lv' := [(14, .int v16), (11, .int v15), (17, .int v13), (0, .ref a0), (1, .int x1), (2, .int x2), (3, .int x3), (4, .long y4), (6, .long y6), (8, .long y8), (10, .int v4), (12, .long v12)]) C 11 rfl dX8_outcome_169 (by rw [qv16]; rfl) (by decide) rfl ?_
                    refine ab_goto C 61 dX8_outcome_172 (by decide) ?_
                    refine aV.sub (lv' := [(0, .ref a0), (1, .int x1), (2, .int x2), (3, .int x3), (4, .long y4), (6, .long y6), (8, .long y8), (10, .int v4), (11, .int v15), (12, .long v12), (14, .int v16)]) [3, 4, 5, 6, 7, 8, 9, 10, 1, 11, 0] rfl ?_
                    exact ih61 v15 v12 v16 res61 hF KX61
                  · replace hF := (if_neg c14).symm.trans hF
                    refine ab_iload C 9 rfl dX8_outcome_150 ?_
                    refine ab_iload C 0 rfl dX8_outcome_152 ?_
                    refine ab_mmax C (own := RX8) (a_mem 680 (by decide +kernel) (by decide +kernel)) (Nat.le_of_ble_eq_true rfl) ⟨Nat.zero_le _, Nat.zero_le _⟩ (Nat.le_of_ble_eq_true rfl) dX8_outcome_154 ?_
                    refine ab_goto C 167 dX8_outcome_157 (by decide) ?_
                    refine ab_topi (fun v17 qv17 => ?_)
                    replace hF := aLet_e hF v17 qv17
                    refine ab_istore (lv' := [(11, .int v17), (17, .int v13), (0, .ref a0), (1, .int x1), (2, .int x2), (3, .int x3), (4, .long y4), (6, .long y6), (8, .long y8), (10, .int v4), (12, .long v12), (14, .int v9)]) C dX8_outcome_167 (by decide) rfl ?_
                    obtain ⟨v18, qv18⟩ : ∃ y : Int32, y = (v9 + (-1 : Int32)) := ⟨_, rfl⟩
                    replace hF := aLet_e hF v18 qv18
                    refine ab_iinc (lv' := [(14, .int v18), (11, .int v17), (17, .int v13), (0, .ref a0), (1, .int x1), (2, .int x2), (3, .int x3), (4, .long y4), (6, .long y6), (8, .long y8), (10, .int v4), (12, .long v12)]) C 11 rfl dX8_outcome_169 (by rw [qv18]; rfl) (by decide) rfl ?_
                    refine ab_goto C 61 dX8_outcome_172 (by decide) ?_
                    refine aV.sub (lv' := [(0, .ref a0), (1, .int x1), (2, .int x2), (3, .int x3), (4, .long y4), (6, .long y6), (8, .long y8), (10, .int v4), (11, .int v17), (12, .long v12), (14, .int v18)]) [3, 4, 5, 6, 7, 8, 9, 10, 1, 11, 0] rfl ?_
                    exact ih61 v17 v12 v18 res61 hF KX61
                refine ab_if_eq C 118 dX8_outcome_87 (by decide) (fun c19 => ?_) (fun c19 => ?_)
                · replace hF := (if_pos c19).symm.trans hF
                  refine ab_aload_n C 2 rfl rfl dX8_outcome_118 ?_
                  refine ab_iload_n C 3 rfl rfl dX8_outcome_119 ?_
                  refine ab_iload_n C 4 rfl rfl dX8_outcome_120 ?_
                  refine ab_iload_n C 5 rfl rfl dX8_outcome_121 ?_
                  refine ab_iconst (v := (1 : Int32)) C dX8_outcome_122 (by decide) ?_
                  refine ab_isub C dX8_outcome_123 ?_
                  refine ab_lload C 6 rfl dX8_outcome_124 ?_
                  refine ab_lload C 7 rfl dX8_outcome_126 ?_
                  refine ab_lload C 1 rfl dX8_outcome_128 ?_
                  refine ab_lor C dX8_outcome_130 ?_
                  refine ab_lload C 8 rfl dX8_outcome_131 ?_
                  refine ab_lload C 1 rfl dX8_outcome_133 ?_
                  refine ab_ldc2 (v := (-1 : Int64)) C dX8_outcome_135 lq_X8_197 ?_
                  refine ab_lxor C dX8_outcome_138 ?_
                  refine ab_land C dX8_outcome_139 ?_
                  obtain ⟨v20, hxv20, hF⟩ := Option.bind_eq_some_iff.mp hF
                  refine ab_cSR (v := .int v20) (st := []) C lm_X8_251 (ih hB0 hxv20) rfl rfl (by omega) ⟨Nat.zero_le _, Nat.zero_le _⟩ (Nat.le_of_ble_eq_true rfl) dX8_outcome_140 ?_
                  refine aV.sub (lv' := [(0, .ref a0), (1, .int x1), (2, .int x2), (3, .int x3), (4, .long y4), (6, .long y6), (8, .long y8), (10, .int v4), (11, .int v7), (12, .long v12), (14, .int v9)]) [2, 3, 4, 5, 6, 7, 8, 9, 10, 0, 11] rfl ?_
                  exact J143 v20 hF
                · replace hF := (if_neg c19).symm.trans hF
                  refine ab_aload_n C 2 rfl rfl dX8_outcome_90 ?_
                  refine ab_iload_n C 3 rfl rfl dX8_outcome_91 ?_
                  refine ab_iload_n C 4 rfl rfl dX8_outcome_92 ?_
                  refine ab_iload_n C 5 rfl rfl dX8_outcome_93 ?_
                  refine ab_iconst (v := (1 : Int32)) C dX8_outcome_94 (by decide) ?_
                  refine ab_isub C dX8_outcome_95 ?_
                  refine ab_lload C 6 rfl dX8_outcome_96 ?_
                  refine ab_lload C 1 rfl dX8_outcome_98 ?_
                  refine ab_lor C dX8_outcome_100 ?_
                  refine ab_lload C 7 rfl dX8_outcome_101 ?_
                  refine ab_lload C 8 rfl dX8_outcome_103 ?_
                  refine ab_lload C 1 rfl dX8_outcome_105 ?_
                  refine ab_ldc2 (v := (-1 : Int64)) C dX8_outcome_107 lq_X8_197 ?_
                  refine ab_lxor C dX8_outcome_110 ?_
                  refine ab_land C dX8_outcome_111 ?_
                  obtain ⟨v21, hxv21, hF⟩ := Option.bind_eq_some_iff.mp hF
                  refine ab_cSR (v := .int v21) (st := []) C lm_X8_251 (ih hB0 hxv21) rfl rfl (by omega) ⟨Nat.zero_le _, Nat.zero_le _⟩ (Nat.le_of_ble_eq_true rfl) dX8_outcome_112 ?_
                  refine ab_goto C 143 dX8_outcome_115 (by decide) ?_
                  refine aV.sub (lv' := [(0, .ref a0), (1, .int x1), (2, .int x2), (3, .int x3), (4, .long y4), (6, .long y6), (8, .long y8), (10, .int v4), (11, .int v7), (12, .long v12), (14, .int v9)]) [2, 3, 4, 5, 6, 7, 8, 9, 10, 0, 11] rfl ?_
                  exact J143 v21 hF
          refine aV.sub (lv' := [(0, .ref a0), (1, .int x1), (2, .int x2), (3, .int x3), (4, .long y4), (6, .long y6), (8, .long y8), (10, .int v4), (11, .int v5), (12, .long y8), (14, .int v6)]) [4, 5, 6, 7, 8, 9, 10, 3, 2, 1, 0] rfl ?_
          obtain ⟨e22, he22, hF⟩ := Option.bind_eq_some_iff.mp hF
          refine L61 aFu v5 y8 v6 e22 he22 ?_
          refine ab_iload C 0 rfl dX8_outcome_175 ?_
          obtain rfl := Option.some.inj hF
          exact ab_iret C R0 rfl dX8_outcome_177 ⟨rfl, rfl, rfl⟩
        refine ab_if_ne C 30 dX8_outcome_23 (by decide) (fun c23 => ?_) (fun c23 => ?_)
        · replace hF := (if_neg c23).symm.trans hF
          refine ab_iconst (v := (0 : Int32)) C dX8_outcome_30 (by decide) ?_
          exact J31 (0 : Int32) hF
        · replace hF := (if_pos c23).symm.trans hF
          refine ab_iconst (v := (1 : Int32)) C dX8_outcome_26 (by decide) ?_
          refine ab_goto C 31 dX8_outcome_27 (by decide) ?_
          exact J31 (1 : Int32) hF
      · replace hF := (if_neg c3).symm.trans hF
        refine aV.sub (lv' := [(0, .ref a0), (1, .int x1), (2, .int x2), (4, .long y4), (6, .long y6)]) [0, 1, 2, 4, 5] rfl ?_
        exact J9 hF
theorem dX8_take_0 : decode cX8_take 0 = .ok (.aload_n 0, 1) := by decide +kernel
theorem dX8_take_1 : decode cX8_take 1 = .ok (.iload_n 1, 1) := by decide +kernel
theorem dX8_take_2 : decode cX8_take 2 = .ok (.iload_n 2, 1) := by decide +kernel
theorem dX8_take_3 : decode cX8_take 3 = .ok (.invokevirtual 226, 3) := by decide +kernel
theorem dX8_take_6 : decode cX8_take 6 = .ok (.ifCond .eq 12, 3) := by decide +kernel
theorem dX8_take_9 : decode cX8_take 9 = .ok (.iload_n 3, 1) := by decide +kernel
theorem dX8_take_10 : decode cX8_take 10 = .ok (.iconst 0, 1) := by decide +kernel
theorem dX8_take_11 : decode cX8_take 11 = .ok (.iconst 2, 1) := by decide +kernel
theorem dX8_take_12 : decode cX8_take 12 = .ok (.invokestatic 74, 3) := by decide +kernel
theorem dX8_take_15 : decode cX8_take 15 = .ok (.ifCond .ne 5, 3) := by decide +kernel
theorem dX8_take_18 : decode cX8_take 18 = .ok (.iconst (-1), 1) := by decide +kernel
theorem dX8_take_19 : decode cX8_take 19 = .ok (.ireturn, 1) := by decide +kernel
theorem dX8_take_20 : decode cX8_take 20 = .ok (.aload_n 0, 1) := by decide +kernel
theorem dX8_take_21 : decode cX8_take 21 = .ok (.getfield 19, 3) := by decide +kernel
theorem dX8_take_24 : decode cX8_take 24 = .ok (.getfield 114, 3) := by decide +kernel
theorem dX8_take_27 : decode cX8_take 27 = .ok (.bipush 6, 2) := by decide +kernel
theorem dX8_take_29 : decode cX8_take 29 = .ok (.laload, 1) := by decide +kernel
theorem dX8_take_30 : decode cX8_take 30 = .ok (.bipush 6, 2) := by decide +kernel
theorem dX8_take_32 : decode cX8_take 32 = .ok (.invokestatic 247, 3) := by decide +kernel
theorem dX8_take_35 : decode cX8_take 35 = .ok (.lstore 4, 2) := by decide +kernel
theorem dX8_take_37 : decode cX8_take 37 = .ok (.aload_n 0, 1) := by decide +kernel
theorem dX8_take_38 : decode cX8_take 38 = .ok (.getfield 19, 3) := by decide +kernel
theorem dX8_take_41 : decode cX8_take 41 = .ok (.iload_n 1, 1) := by decide +kernel
theorem dX8_take_42 : decode cX8_take 42 = .ok (.iload_n 2, 1) := by decide +kernel
theorem dX8_take_43 : decode cX8_take 43 = .ok (.iconst 2, 1) := by decide +kernel
theorem dX8_take_44 : decode cX8_take 44 = .ok (.iload_n 3, 1) := by decide +kernel
theorem dX8_take_45 : decode cX8_take 45 = .ok (.imul, 1) := by decide +kernel
theorem dX8_take_46 : decode cX8_take 46 = .ok (.aload_n 0, 1) := by decide +kernel
theorem dX8_take_47 : decode cX8_take 47 = .ok (.getfield 19, 3) := by decide +kernel
theorem dX8_take_50 : decode cX8_take 50 = .ok (.getfield 114, 3) := by decide +kernel
theorem dX8_take_53 : decode cX8_take 53 = .ok (.iload_n 1, 1) := by decide +kernel
theorem dX8_take_54 : decode cX8_take 54 = .ok (.laload, 1) := by decide +kernel
theorem dX8_take_55 : decode cX8_take 55 = .ok (.aload_n 0, 1) := by decide +kernel
theorem dX8_take_56 : decode cX8_take 56 = .ok (.getfield 19, 3) := by decide +kernel
theorem dX8_take_59 : decode cX8_take 59 = .ok (.getfield 114, 3) := by decide +kernel
theorem dX8_take_62 : decode cX8_take 62 = .ok (.iload_n 2, 1) := by decide +kernel
theorem dX8_take_63 : decode cX8_take 63 = .ok (.laload, 1) := by decide +kernel
theorem dX8_take_64 : decode cX8_take 64 = .ok (.lload 4, 2) := by decide +kernel
theorem dX8_take_66 : decode cX8_take 66 = .ok (.invokestatic 251, 3) := by decide +kernel
theorem dX8_take_69 : decode cX8_take 69 = .ok (.ireturn, 1) := by decide +kernel
def X8_take (S_now : Rec) (x1 : Int32) (x2 : Int32) (x3 : Int32) : Option (Int32) :=
  if (X8_areTwo S_now x1 x2) = 0 then
    some (-1 : Int32)
  else
    if (X8_within x3 (0 : Int32) (2 : Int32)) = 0 then
      some (-1 : Int32)
    else
      (rdL (S_now.2.2 10) 7 (6 : Int32)).bind fun v3 =>
      (X8_lowestOf v3 (6 : Int32)).bind fun v4 =>
      (rdL (S_now.2.2 10) 7 x1).bind fun v5 =>
      (rdL (S_now.2.2 10) 7 x2).bind fun v6 =>
      (X8_outcome 6 S_now x1 x2 ((2 : Int32) * x3) v5 v6 v4).bind fun v7 =>
      some v7
set_option maxRecDepth 100000 in
set_option maxHeartbeats 4000000 in
theorem X8_take_ok (l : Launch) {h : aH} {nx : Nat} {S_now : Rec} {x1 : Int32} {x2 : Int32} {x3 : Int32} (hBxo : X8_at h) (hBnow : X2_at h 7 S_now) {r : Int32} (hF : X8_take S_now x1 x2 x3 = some r) : aOk l 11 0 0 yX8_take cX8_take 6 (some .int) [.ref 4, .int x1, .int x2, .int x3] h nx (aRd (.int r) h nx) := by
  refine aOk.of (by decide +kernel) (Nat.le_of_ble_eq_true rfl) (fun X G hX C R0 _ => ?_)
  subst hX
  show aV X G 6 0 [(0, .ref 4), (1, .int x1), (2, .int x2), (3, .int x3)] [] h nx 0 0
  rw [X8_take] at hF
  refine ab_aload_n C 0 rfl rfl dX8_take_0 ?_
  refine ab_iload_n C 1 rfl rfl dX8_take_1 ?_
  refine ab_iload_n C 2 rfl rfl dX8_take_2 ?_
  refine ab_cVR (v := .int (X8_areTwo S_now x1 x2)) (st := []) C lm_X8_226 (X8_areTwo_ok (xl X) hBxo hBnow (r := (X8_areTwo S_now x1 x2)) rfl) [.int x1, .int x2] rfl hBxo rfl rfl rfl (by decide) ⟨Nat.zero_le _, Nat.zero_le _⟩ (Nat.le_of_ble_eq_true rfl) dX8_take_3 ?_
  refine ab_if_eq C 18 dX8_take_6 (by decide) (fun c1 => ?_) (fun c1 => ?_)
  · replace hF := (if_pos c1).symm.trans hF
    refine ab_iconst (v := (-1 : Int32)) C dX8_take_18 (by decide) ?_
    obtain rfl := Option.some.inj hF
    exact ab_iret C R0 rfl dX8_take_19 ⟨rfl, rfl, rfl⟩
  · replace hF := (if_neg c1).symm.trans hF
    refine ab_iload_n C 3 rfl rfl dX8_take_9 ?_
    refine ab_iconst (v := (0 : Int32)) C dX8_take_10 (by decide) ?_
    refine ab_iconst (v := (2 : Int32)) C dX8_take_11 (by decide) ?_
    refine ab_cSR (v := .int (X8_within x3 (0 : Int32) (2 : Int32))) (st := []) C lm_X8_74 (X8_within_ok (xl X) (r := (X8_within x3 (0 : Int32) (2 : Int32))) rfl) rfl rfl (by decide) ⟨Nat.zero_le _, Nat.zero_le _⟩ (Nat.le_of_ble_eq_true rfl) dX8_take_12 ?_
    refine ab_if_ne C 20 dX8_take_15 (by decide) (fun c2 => ?_) (fun c2 => ?_)
    · replace hF := (if_neg c2).symm.trans hF
      refine ab_aload_n C 0 rfl rfl dX8_take_20 ?_
      refine ab_g8 (v := .ref 7) C lf_X8_19 hBxo rfl dX8_take_21 ?_
      refine ab_g2 (v := .ref (7 + 6)) C lf_X8_114 hBnow.1 rfl dX8_take_24 ?_
      refine ab_bipush (v := (6 : Int32)) C dX8_take_27 (by decide) ?_
      obtain ⟨v3, hxv3, hF⟩ := Option.bind_eq_some_iff.mp hF
      refine ab_lald C (X2_r10 hBnow) hxv3 dX8_take_29 ?_
      refine ab_bipush (v := (6 : Int32)) C dX8_take_30 (by decide) ?_
      obtain ⟨v4, hxv4, hF⟩ := Option.bind_eq_some_iff.mp hF
      refine ab_cSR (v := .long v4) (st := []) C lm_X8_247 (X8_lowestOf_ok (xl X) (r := v4) hxv4) rfl rfl (by decide) ⟨Nat.zero_le _, Nat.zero_le _⟩ (Nat.le_of_ble_eq_true rfl) dX8_take_32 ?_
      refine ab_lstore (lv' := [(4, .long v4), (0, .ref 4), (1, .int x1), (2, .int x2), (3, .int x3)]) C dX8_take_35 ⟨by decide, by decide⟩ rfl ?_
      refine ab_aload_n C 1 rfl rfl dX8_take_37 ?_
      refine ab_g8 (v := .ref 7) C lf_X8_19 hBxo rfl dX8_take_38 ?_
      refine ab_iload_n C 2 rfl rfl dX8_take_41 ?_
      refine ab_iload_n C 3 rfl rfl dX8_take_42 ?_
      refine ab_iconst (v := (2 : Int32)) C dX8_take_43 (by decide) ?_
      refine ab_iload_n C 4 rfl rfl dX8_take_44 ?_
      refine ab_imul C dX8_take_45 ?_
      refine ab_aload_n C 1 rfl rfl dX8_take_46 ?_
      refine ab_g8 (v := .ref 7) C lf_X8_19 hBxo rfl dX8_take_47 ?_
      refine ab_g2 (v := .ref (7 + 6)) C lf_X8_114 hBnow.1 rfl dX8_take_50 ?_
      refine ab_iload_n C 2 rfl rfl dX8_take_53 ?_
      obtain ⟨v5, hxv5, hF⟩ := Option.bind_eq_some_iff.mp hF
      refine ab_lald C (X2_r10 hBnow) hxv5 dX8_take_54 ?_
      refine ab_aload_n C 1 rfl rfl dX8_take_55 ?_
      refine ab_g8 (v := .ref 7) C lf_X8_19 hBxo rfl dX8_take_56 ?_
      refine ab_g2 (v := .ref (7 + 6)) C lf_X8_114 hBnow.1 rfl dX8_take_59 ?_
      refine ab_iload_n C 3 rfl rfl dX8_take_62 ?_
      obtain ⟨v6, hxv6, hF⟩ := Option.bind_eq_some_iff.mp hF
      refine ab_lald C (X2_r10 hBnow) hxv6 dX8_take_63 ?_
      refine ab_lload C 0 rfl dX8_take_64 ?_
      obtain ⟨v7, hxv7, hF⟩ := Option.bind_eq_some_iff.mp hF
      refine ab_cSR (v := .int v7) (st := []) C lm_X8_251 (X8_outcome_ok (xl X) 6 hBnow (r := v7) hxv7) rfl rfl (by decide) ⟨Nat.zero_le _, Nat.zero_le _⟩ (Nat.le_of_ble_eq_true rfl) dX8_take_66 ?_
      obtain rfl := Option.some.inj hF
      exact ab_iret C R0 rfl dX8_take_69 ⟨rfl, rfl, rfl⟩
    · replace hF := (if_pos c2).symm.trans hF
      refine ab_iconst (v := (-1 : Int32)) C dX8_take_18 (by decide) ?_
      obtain rfl := Option.some.inj hF
      exact ab_iret C R0 rfl dX8_take_19 ⟨rfl, rfl, rfl⟩
theorem dX8_luckySales_0 : decode cX8_luckySales 0 = .ok (.iload_n 3, 1) := by decide +kernel
theorem dX8_luckySales_1 : decode cX8_luckySales 1 = .ok (.ifCond .le 8, 3) := by decide +kernel
theorem dX8_luckySales_4 : decode cX8_luckySales 4 = .ok (.iload_n 3, 1) := by decide +kernel
theorem dX8_luckySales_5 : decode cX8_luckySales 5 = .ok (.iconst 2, 1) := by decide +kernel
theorem dX8_luckySales_6 : decode cX8_luckySales 6 = .ok (.if_icmp .le 23, 3) := by decide +kernel
theorem dX8_luckySales_9 : decode cX8_luckySales 9 = .ok (.aload_n 0, 1) := by decide +kernel
theorem dX8_luckySales_10 : decode cX8_luckySales 10 = .ok (.iload_n 1, 1) := by decide +kernel
theorem dX8_luckySales_11 : decode cX8_luckySales 11 = .ok (.lload 4, 2) := by decide +kernel
theorem dX8_luckySales_13 : decode cX8_luckySales 13 = .ok (.invokevirtual 346, 3) := by decide +kernel
theorem dX8_luckySales_16 : decode cX8_luckySales 16 = .ok (.iload_n 2, 1) := by decide +kernel
theorem dX8_luckySales_17 : decode cX8_luckySales 17 = .ok (.invokestatic 187, 3) := by decide +kernel
theorem dX8_luckySales_20 : decode cX8_luckySales 20 = .ok (.ifCond .eq 7, 3) := by decide +kernel
theorem dX8_luckySales_23 : decode cX8_luckySales 23 = .ok (.iconst 1, 1) := by decide +kernel
theorem dX8_luckySales_24 : decode cX8_luckySales 24 = .ok (.goto 4, 3) := by decide +kernel
theorem dX8_luckySales_27 : decode cX8_luckySales 27 = .ok (.iconst 0, 1) := by decide +kernel
theorem dX8_luckySales_28 : decode cX8_luckySales 28 = .ok (.ireturn, 1) := by decide +kernel
theorem dX8_luckySales_29 : decode cX8_luckySales 29 = .ok (.iconst 0, 1) := by decide +kernel
theorem dX8_luckySales_30 : decode cX8_luckySales 30 = .ok (.istore 6, 2) := by decide +kernel
theorem dX8_luckySales_32 : decode cX8_luckySales 32 = .ok (.aload_n 0, 1) := by decide +kernel
theorem dX8_luckySales_33 : decode cX8_luckySales 33 = .ok (.invokevirtual 327, 3) := by decide +kernel
theorem dX8_luckySales_36 : decode cX8_luckySales 36 = .ok (.lstore 7, 2) := by decide +kernel
theorem dX8_luckySales_38 : decode cX8_luckySales 38 = .ok (.lload 7, 2) := by decide +kernel
theorem dX8_luckySales_40 : decode cX8_luckySales 40 = .ok (.invokestatic 118, 3) := by decide +kernel
theorem dX8_luckySales_43 : decode cX8_luckySales 43 = .ok (.istore 9, 2) := by decide +kernel
theorem dX8_luckySales_45 : decode cX8_luckySales 45 = .ok (.iload 9, 2) := by decide +kernel
theorem dX8_luckySales_47 : decode cX8_luckySales 47 = .ok (.ifCond .le 47, 3) := by decide +kernel
theorem dX8_luckySales_50 : decode cX8_luckySales 50 = .ok (.lload 7, 2) := by decide +kernel
theorem dX8_luckySales_52 : decode cX8_luckySales 52 = .ok (.lload 7, 2) := by decide +kernel
theorem dX8_luckySales_54 : decode cX8_luckySales 54 = .ok (.lneg, 1) := by decide +kernel
theorem dX8_luckySales_55 : decode cX8_luckySales 55 = .ok (.land, 1) := by decide +kernel
theorem dX8_luckySales_56 : decode cX8_luckySales 56 = .ok (.lstore 10, 2) := by decide +kernel
theorem dX8_luckySales_58 : decode cX8_luckySales 58 = .ok (.lload 7, 2) := by decide +kernel
theorem dX8_luckySales_60 : decode cX8_luckySales 60 = .ok (.lload 10, 2) := by decide +kernel
theorem dX8_luckySales_62 : decode cX8_luckySales 62 = .ok (.ldc2_w 197, 3) := by decide +kernel
theorem dX8_luckySales_65 : decode cX8_luckySales 65 = .ok (.lxor, 1) := by decide +kernel
theorem dX8_luckySales_66 : decode cX8_luckySales 66 = .ok (.land, 1) := by decide +kernel
theorem dX8_luckySales_67 : decode cX8_luckySales 67 = .ok (.lstore 7, 2) := by decide +kernel
theorem dX8_luckySales_69 : decode cX8_luckySales 69 = .ok (.iload 6, 2) := by decide +kernel
theorem dX8_luckySales_71 : decode cX8_luckySales 71 = .ok (.aload_n 0, 1) := by decide +kernel
theorem dX8_luckySales_72 : decode cX8_luckySales 72 = .ok (.iload_n 1, 1) := by decide +kernel
theorem dX8_luckySales_73 : decode cX8_luckySales 73 = .ok (.iload_n 2, 1) := by decide +kernel
theorem dX8_luckySales_74 : decode cX8_luckySales 74 = .ok (.iload_n 3, 1) := by decide +kernel
theorem dX8_luckySales_75 : decode cX8_luckySales 75 = .ok (.iconst 1, 1) := by decide +kernel
theorem dX8_luckySales_76 : decode cX8_luckySales 76 = .ok (.isub, 1) := by decide +kernel
theorem dX8_luckySales_77 : decode cX8_luckySales 77 = .ok (.lload 4, 2) := by decide +kernel
theorem dX8_luckySales_79 : decode cX8_luckySales 79 = .ok (.lload 10, 2) := by decide +kernel
theorem dX8_luckySales_81 : decode cX8_luckySales 81 = .ok (.lor, 1) := by decide +kernel
theorem dX8_luckySales_82 : decode cX8_luckySales 82 = .ok (.invokestatic 255, 3) := by decide +kernel
theorem dX8_luckySales_85 : decode cX8_luckySales 85 = .ok (.iadd, 1) := by decide +kernel
theorem dX8_luckySales_86 : decode cX8_luckySales 86 = .ok (.istore 6, 2) := by decide +kernel
theorem dX8_luckySales_88 : decode cX8_luckySales 88 = .ok (.iinc 9 (-1), 3) := by decide +kernel
theorem dX8_luckySales_91 : decode cX8_luckySales 91 = .ok (.goto (-46), 3) := by decide +kernel
theorem dX8_luckySales_94 : decode cX8_luckySales 94 = .ok (.iload 6, 2) := by decide +kernel
theorem dX8_luckySales_96 : decode cX8_luckySales 96 = .ok (.ireturn, 1) := by decide +kernel
def X8_luckySales_J9 (S0 : Rec) (x1 : Int32) (y4 : Int64) (x2 : Int32) : Option (Int32) :=
  (X2_speechWith S0 x1 y4).bind fun v1 =>
  if (X8_covers v1 x2) = 0 then
    some (0 : Int32)
  else
    some (1 : Int32)
def X8_luckySales_L45 (S0 : Rec) (x1 : Int32) (x2 : Int32) (x3 : Int32) (y4 : Int64) (kr : Rec → Int32 → Int32 → Int32 → Int64 → Option (Int32)) : Nat → Int32 → Int64 → Int32 → Option (Int32)
  | 0, _, _, _ => none
  | n45 + 1, v7, v8, v9 => if v9 ≤ 0 then
      some v7
    else
      aLet (v8 &&& (-v8)) fun v11 =>
      aLet (v8 &&& (v11 ^^^ (-1 : Int64))) fun v12 =>
      (kr S0 x1 x2 (x3 - (1 : Int32)) (y4 ||| v11)).bind fun v13 =>
      aLet (v7 + v13) fun v14 =>
      aLet (v9 + (-1 : Int32)) fun v15 =>
      X8_luckySales_L45 S0 x1 x2 x3 y4 kr n45 v14 v12 v15
def X8_luckySales : Nat → Rec → Int32 → Int32 → Int32 → Int64 → Option (Int32)
  | 0, _, _, _, _, _ => none
  | nr + 1, S0, x1, x2, x3, y4 => if x3 ≤ 0 then
      X8_luckySales_J9 S0 x1 y4 x2
    else
      if x3 ≤ (2 : Int32) then
        (X2_everyCell S0).bind fun v5 =>
        aLet (J13_bitCount_95d88 v5) fun v6 =>
        (X8_luckySales_L45 S0 x1 x2 x3 y4 (X8_luckySales nr) aFu (0 : Int32) v5 v6).bind fun e16 =>
        some e16
      else
        X8_luckySales_J9 S0 x1 y4 x2
set_option maxRecDepth 100000 in
set_option maxHeartbeats 4000000 in
theorem X8_luckySales_ok (l : Launch) : ∀ (nr : Nat) {h : aH} {nx : Nat} {a0 : Nat} {S0 : Rec} {x1 : Int32} {x2 : Int32} {x3 : Int32} {y4 : Int64} (hB0 : X2_at h a0 S0) {r : Int32} (hF : X8_luckySales nr S0 x1 x2 x3 y4 = some r), aOk l (4 + nr) 0 0 yX8_luckySales cX8_luckySales 12 (some .int) [.ref a0, .int x1, .int x2, .int x3, .long y4] h nx (aRd (.int r) h nx) := by
  intro nr
  induction nr with
  | zero => intro h nx a0 S0 x1 x2 x3 y4 hB0 r hF; cases (show (none : Option (Int32)) = some r from hF)
  | succ nr ih =>
    intro h nx a0 S0 x1 x2 x3 y4 hB0 r hF
    refine aOk.of (by decide +kernel) (Nat.le_of_ble_eq_true rfl) (fun X G hX C R0 _ => ?_)
    subst hX
    show aV X G 12 0 [(0, .ref a0), (1, .int x1), (2, .int x2), (3, .int x3), (4, .long y4)] [] h nx 0 0
    rw [X8_luckySales] at hF
    refine ab_iload_n C 3 rfl rfl dX8_luckySales_0 ?_
    have J9 : X8_luckySales_J9 S0 x1 y4 x2 = some r → aV X G 12 9 [(0, .ref a0), (1, .int x1), (2, .int x2), (4, .long y4)] [] h nx 0 0 := by
      intro  hF
      rw [X8_luckySales_J9] at hF
      refine ab_aload_n C 0 rfl rfl dX8_luckySales_9 ?_
      refine ab_iload_n C 1 rfl rfl dX8_luckySales_10 ?_
      refine ab_lload C 3 rfl dX8_luckySales_11 ?_
      obtain ⟨v1, hxv1, hF⟩ := Option.bind_eq_some_iff.mp hF
      refine ab_cVR (v := .int v1) (st := []) C lm_X8_346 (X2_speechWith_ok (xl X) hB0 (r := v1) hxv1) [.int x1, .long y4] rfl hB0.1 rfl rfl rfl (by omega) ⟨Nat.zero_le _, Nat.zero_le _⟩ (Nat.le_of_ble_eq_true rfl) dX8_luckySales_13 ?_
      refine ab_iload_n C 2 rfl rfl dX8_luckySales_16 ?_
      refine ab_cSR (v := .int (X8_covers v1 x2)) (st := []) C lm_X8_187 (X8_covers_ok (xl X) (r := (X8_covers v1 x2)) rfl) rfl rfl (by omega) ⟨Nat.zero_le _, Nat.zero_le _⟩ (Nat.le_of_ble_eq_true rfl) dX8_luckySales_17 ?_
      refine ab_if_eq C 27 dX8_luckySales_20 (by decide) (fun c2 => ?_) (fun c2 => ?_)
      · replace hF := (if_pos c2).symm.trans hF
        refine ab_iconst (v := (0 : Int32)) C dX8_luckySales_27 (by decide) ?_
        obtain rfl := Option.some.inj hF
        exact ab_iret C R0 rfl dX8_luckySales_28 ⟨rfl, rfl, rfl⟩
      · replace hF := (if_neg c2).symm.trans hF
        refine ab_iconst (v := (1 : Int32)) C dX8_luckySales_23 (by decide) ?_
        refine ab_goto C 28 dX8_luckySales_24 (by decide) ?_
        obtain rfl := Option.some.inj hF
        exact ab_iret C R0 rfl dX8_luckySales_28 ⟨rfl, rfl, rfl⟩
    refine ab_if_le C 9 dX8_luckySales_1 (by decide) (fun c3 => ?_) (fun c3 => ?_)
    · replace hF := (if_pos c3).symm.trans hF
      refine aV.sub (lv' := [(0, .ref a0), (1, .int x1), (2, .int x2), (4, .long y4)]) [0, 1, 2, 4] rfl ?_
      exact J9 hF
    · replace hF := (if_neg c3).symm.trans hF
      refine ab_iload_n C 3 rfl rfl dX8_luckySales_4 ?_
      refine ab_iconst (v := (2 : Int32)) C dX8_luckySales_5 (by decide) ?_
      refine ab_icmp_le C 29 dX8_luckySales_6 (by decide) (fun c4 => ?_) (fun c4 => ?_)
      · replace hF := (if_pos c4).symm.trans hF
        refine ab_iconst (v := (0 : Int32)) C dX8_luckySales_29 (by decide) ?_
        refine ab_istore (lv' := [(6, .int (0 : Int32)), (0, .ref a0), (1, .int x1), (2, .int x2), (3, .int x3), (4, .long y4)]) C dX8_luckySales_30 (by decide) rfl ?_
        refine ab_aload_n C 1 rfl rfl dX8_luckySales_32 ?_
        obtain ⟨v5, hxv5, hF⟩ := Option.bind_eq_some_iff.mp hF
        refine ab_cVR (v := .long v5) (st := []) C lm_X8_327 (X2_everyCell_ok (xl X) hB0 (r := v5) hxv5) [] rfl hB0.1 rfl rfl rfl (by omega) ⟨Nat.zero_le _, Nat.zero_le _⟩ (Nat.le_of_ble_eq_true rfl) dX8_luckySales_33 ?_
        refine ab_lstore (lv' := [(7, .long v5), (6, .int (0 : Int32)), (0, .ref a0), (1, .int x1), (2, .int x2), (3, .int x3), (4, .long y4)]) C dX8_luckySales_36 ⟨by decide, by decide⟩ rfl ?_
        refine ab_lload C 0 rfl dX8_luckySales_38 ?_
        refine ab_cSR (v := .int (J13_bitCount_95d88 v5)) (st := []) C lm_X8_118 (J13_bitCount_95d88_ok (xl X) (r := (J13_bitCount_95d88 v5)) rfl) rfl rfl (by omega) ⟨Nat.zero_le _, Nat.zero_le _⟩ (Nat.le_of_ble_eq_true rfl) dX8_luckySales_40 ?_
        refine ab_topi (fun v6 qv6 => ?_)
        replace hF := aLet_e hF v6 qv6
        refine ab_istore (lv' := [(9, .int v6), (7, .long v5), (6, .int (0 : Int32)), (0, .ref a0), (1, .int x1), (2, .int x2), (3, .int x3), (4, .long y4)]) C dX8_luckySales_43 (by decide) rfl ?_
        have L45 : ∀ (n45 : Nat) (v7 : Int32) (v8 : Int64) (v9 : Int32), ∀ (res45 : Int32), X8_luckySales_L45 S0 x1 x2 x3 y4 (X8_luckySales nr) n45 v7 v8 v9 = some res45 → (aV X G 12 94 [(6, .int res45)] [] h nx 0 0) → aV X G 12 45 [(0, .ref a0), (1, .int x1), (2, .int x2), (3, .int x3), (4, .long y4), (6, .int v7), (7, .long v8), (9, .int v9)] [] h nx 0 0 := by
          intro n45
          induction n45 with
          | zero => intro v7 v8 v9 res45 hF KX45; cases (show (none : Option (Int32)) = some res45 from hF)
          | succ n45 ih45 =>
            intro v7 v8 v9 res45 hF KX45
            rw [X8_luckySales_L45] at hF
            refine ab_iload C 7 rfl dX8_luckySales_45 ?_
            refine ab_if_le C 94 dX8_luckySales_47 (by decide) (fun c10 => ?_) (fun c10 => ?_)
            · replace hF := (if_pos c10).symm.trans hF
              obtain rfl := Option.some.inj hF
              refine aV.sub (lv' := [(6, .int v7)]) [5] rfl ?_
              exact KX45
            · replace hF := (if_neg c10).symm.trans hF
              refine ab_lload C 6 rfl dX8_luckySales_50 ?_
              refine ab_lload C 6 rfl dX8_luckySales_52 ?_
              refine ab_lneg C dX8_luckySales_54 ?_
              refine ab_land C dX8_luckySales_55 ?_
              refine ab_topl (fun v11 qv11 => ?_)
              replace hF := aLet_e hF v11 qv11
              refine ab_lstore (lv' := [(10, .long v11), (0, .ref a0), (1, .int x1), (2, .int x2), (3, .int x3), (4, .long y4), (6, .int v7), (7, .long v8), (9, .int v9)]) C dX8_luckySales_56 ⟨by decide, by decide⟩ rfl ?_
              refine ab_lload C 7 rfl dX8_luckySales_58 ?_
              refine ab_lload C 0 rfl dX8_luckySales_60 ?_
              refine ab_ldc2 (v := (-1 : Int64)) C dX8_luckySales_62 lq_X8_197 ?_
              refine ab_lxor C dX8_luckySales_65 ?_
              refine ab_land C dX8_luckySales_66 ?_
              refine ab_topl (fun v12 qv12 => ?_)
              replace hF := aLet_e hF v12 qv12
              refine ab_lstore (lv' := [(7, .long v12), (10, .long v11), (0, .ref a0), (1, .int x1), (2, .int x2), (3, .int x3), (4, .long y4), (6, .int v7), (9, .int v9)]) C dX8_luckySales_67 ⟨by decide, by decide⟩ rfl ?_
              refine ab_iload C 7 rfl dX8_luckySales_69 ?_
              refine ab_aload_n C 2 rfl rfl dX8_luckySales_71 ?_
              refine ab_iload_n C 3 rfl rfl dX8_luckySales_72 ?_
              refine ab_iload_n C 4 rfl rfl dX8_luckySales_73 ?_
              refine ab_iload_n C 5 rfl rfl dX8_luckySales_74 ?_
              refine ab_iconst (v := (1 : Int32)) C dX8_luckySales_75 (by decide) ?_
              refine ab_isub C dX8_luckySales_76 ?_
              refine ab_lload C 6 rfl dX8_luckySales_77 ?_
              refine ab_lload C 1 rfl dX8_luckySales_79 ?_
              refine ab_lor C dX8_luckySales_81 ?_
              obtain ⟨v13, hxv13, hF⟩ := Option.bind_eq_some_iff.mp hF
              refine ab_cSR (v := .int v13) (st := [.int v7]) C lm_X8_255 (ih hB0 hxv13) rfl rfl (by omega) ⟨Nat.zero_le _, Nat.zero_le _⟩ (Nat.le_of_ble_eq_true rfl) dX8_luckySales_82 ?_
              refine ab_iadd C dX8_luckySales_85 ?_
              refine ab_topi (fun v14 qv14 => ?_)
              replace hF := aLet_e hF v14 qv14
              refine ab_istore (lv' := [(6, .int v14), (7, .long v12), (10, .long v11), (0, .ref a0), (1, .int x1), (2, .int x2), (3, .int x3), (4, .long y4), (9, .int v9)]) C dX8_luckySales_86 (by decide) rfl ?_
              obtain ⟨v15, qv15⟩ : ∃ y : Int32, y = (v9 + (-1 : Int32)) := ⟨_, rfl⟩
              replace hF := aLet_e hF v15 qv15
              refine ab_iinc (lv' := [(9, .int v15), (6, .int v14), (7, .long v12), (10, .long v11), (0, .ref a0), (1, .int x1), (2, .int x2), (3, .int x3), (4, .long y4)]) C 8 rfl dX8_luckySales_88 (by rw [qv15]; rfl) (by decide) rfl ?_
              refine ab_goto C 45 dX8_luckySales_91 (by decide) ?_
              refine aV.sub (lv' := [(0, .ref a0), (1, .int x1), (2, .int x2), (3, .int x3), (4, .long y4), (6, .int v14), (7, .long v12), (9, .int v15)]) [4, 5, 6, 7, 8, 1, 2, 0] rfl ?_
              exact ih45 v14 v12 v15 res45 hF KX45
        refine aV.sub (lv' := [(0, .ref a0), (1, .int x1), (2, .int x2), (3, .int x3), (4, .long y4), (6, .int (0 : Int32)), (7, .long v5), (9, .int v6)]) [3, 4, 5, 6, 7, 2, 1, 0] rfl ?_
        obtain ⟨e16, he16, hF⟩ := Option.bind_eq_some_iff.mp hF
        refine L45 aFu (0 : Int32) v5 v6 e16 he16 ?_
        refine ab_iload C 0 rfl dX8_luckySales_94 ?_
        obtain rfl := Option.some.inj hF
        exact ab_iret C R0 rfl dX8_luckySales_96 ⟨rfl, rfl, rfl⟩
      · replace hF := (if_neg c4).symm.trans hF
        refine aV.sub (lv' := [(0, .ref a0), (1, .int x1), (2, .int x2), (4, .long y4)]) [0, 1, 2, 4] rfl ?_
        exact J9 hF
theorem dX8_commonDivisor_0 : decode cX8_commonDivisor 0 = .ok (.iload_n 0, 1) := by decide +kernel
theorem dX8_commonDivisor_1 : decode cX8_commonDivisor 1 = .ok (.istore_n 2, 1) := by decide +kernel
theorem dX8_commonDivisor_2 : decode cX8_commonDivisor 2 = .ok (.iload_n 1, 1) := by decide +kernel
theorem dX8_commonDivisor_3 : decode cX8_commonDivisor 3 = .ok (.istore_n 3, 1) := by decide +kernel
theorem dX8_commonDivisor_4 : decode cX8_commonDivisor 4 = .ok (.bipush 64, 2) := by decide +kernel
theorem dX8_commonDivisor_6 : decode cX8_commonDivisor 6 = .ok (.istore 4, 2) := by decide +kernel
theorem dX8_commonDivisor_8 : decode cX8_commonDivisor 8 = .ok (.iload 4, 2) := by decide +kernel
theorem dX8_commonDivisor_10 : decode cX8_commonDivisor 10 = .ok (.ifCond .le 23, 3) := by decide +kernel
theorem dX8_commonDivisor_13 : decode cX8_commonDivisor 13 = .ok (.iload_n 3, 1) := by decide +kernel
theorem dX8_commonDivisor_14 : decode cX8_commonDivisor 14 = .ok (.ifCond .eq 19, 3) := by decide +kernel
theorem dX8_commonDivisor_17 : decode cX8_commonDivisor 17 = .ok (.iload_n 2, 1) := by decide +kernel
theorem dX8_commonDivisor_18 : decode cX8_commonDivisor 18 = .ok (.iload_n 3, 1) := by decide +kernel
theorem dX8_commonDivisor_19 : decode cX8_commonDivisor 19 = .ok (.irem, 1) := by decide +kernel
theorem dX8_commonDivisor_20 : decode cX8_commonDivisor 20 = .ok (.istore 5, 2) := by decide +kernel
theorem dX8_commonDivisor_22 : decode cX8_commonDivisor 22 = .ok (.iload_n 3, 1) := by decide +kernel
theorem dX8_commonDivisor_23 : decode cX8_commonDivisor 23 = .ok (.istore_n 2, 1) := by decide +kernel
theorem dX8_commonDivisor_24 : decode cX8_commonDivisor 24 = .ok (.iload 5, 2) := by decide +kernel
theorem dX8_commonDivisor_26 : decode cX8_commonDivisor 26 = .ok (.istore_n 3, 1) := by decide +kernel
theorem dX8_commonDivisor_27 : decode cX8_commonDivisor 27 = .ok (.iinc 4 (-1), 3) := by decide +kernel
theorem dX8_commonDivisor_30 : decode cX8_commonDivisor 30 = .ok (.goto (-22), 3) := by decide +kernel
theorem dX8_commonDivisor_33 : decode cX8_commonDivisor 33 = .ok (.iload_n 2, 1) := by decide +kernel
theorem dX8_commonDivisor_34 : decode cX8_commonDivisor 34 = .ok (.ireturn, 1) := by decide +kernel
def X8_commonDivisor_L8 : Nat → Int32 → Int32 → Int32 → Option (Int32)
  | 0, _, _, _ => none
  | n8 + 1, v1, v2, v3 => if v3 ≤ 0 then
      some v1
    else
      if v2 = 0 then
        some v1
      else
        if v2 = (0 : Int32) then none else
        aLet (v1 - v1 / v2 * v2) fun v7 =>
        aLet (v3 + (-1 : Int32)) fun v8 =>
        X8_commonDivisor_L8 n8 v2 v7 v8
def X8_commonDivisor (x0 : Int32) (x1 : Int32) : Option (Int32) :=
  (X8_commonDivisor_L8 aFu x0 x1 (64 : Int32)).bind fun e9 =>
  some e9
set_option maxRecDepth 100000 in
set_option maxHeartbeats 4000000 in
theorem X8_commonDivisor_ok (l : Launch) {h : aH} {nx : Nat} {x0 : Int32} {x1 : Int32} {r : Int32} (hF : X8_commonDivisor x0 x1 = some r) : aOk l 0 0 0 yX8_commonDivisor cX8_commonDivisor 6 (some .int) [.int x0, .int x1] h nx (aRd (.int r) h nx) := by
  refine aOk.of (by decide +kernel) (Nat.le_of_ble_eq_true rfl) (fun X G hX C R0 _ => ?_)
  subst hX
  show aV X G 6 0 [(0, .int x0), (1, .int x1)] [] h nx 0 0
  rw [X8_commonDivisor] at hF
  refine ab_iload_n C 0 rfl rfl dX8_commonDivisor_0 ?_
  refine ab_istore_n (lv' := [(2, .int x0), (0, .int x0), (1, .int x1)]) C dX8_commonDivisor_1 rfl (by decide) rfl ?_
  refine ab_iload_n C 2 rfl rfl dX8_commonDivisor_2 ?_
  refine ab_istore_n (lv' := [(3, .int x1), (2, .int x0), (0, .int x0), (1, .int x1)]) C dX8_commonDivisor_3 rfl (by decide) rfl ?_
  refine ab_bipush (v := (64 : Int32)) C dX8_commonDivisor_4 (by decide) ?_
  refine ab_istore (lv' := [(4, .int (64 : Int32)), (3, .int x1), (2, .int x0), (0, .int x0), (1, .int x1)]) C dX8_commonDivisor_6 (by decide) rfl ?_
  have L8 : ∀ (n8 : Nat) (v1 : Int32) (v2 : Int32) (v3 : Int32), ∀ (res8 : Int32), X8_commonDivisor_L8 n8 v1 v2 v3 = some res8 → (aV X G 6 33 [(2, .int res8)] [] h nx 0 0) → aV X G 6 8 [(2, .int v1), (3, .int v2), (4, .int v3)] [] h nx 0 0 := by
    intro n8
    induction n8 with
    | zero => intro v1 v2 v3 res8 hF KX8; cases (show (none : Option (Int32)) = some res8 from hF)
    | succ n8 ih8 =>
      intro v1 v2 v3 res8 hF KX8
      rw [X8_commonDivisor_L8] at hF
      refine ab_iload C 2 rfl dX8_commonDivisor_8 ?_
      refine ab_if_le C 33 dX8_commonDivisor_10 (by decide) (fun c4 => ?_) (fun c4 => ?_)
      · replace hF := (if_pos c4).symm.trans hF
        obtain rfl := Option.some.inj hF
        refine aV.sub (lv' := [(2, .int v1)]) [0] rfl ?_
        exact KX8
      · replace hF := (if_neg c4).symm.trans hF
        refine ab_iload_n C 1 rfl rfl dX8_commonDivisor_13 ?_
        refine ab_if_eq C 33 dX8_commonDivisor_14 (by decide) (fun c5 => ?_) (fun c5 => ?_)
        · replace hF := (if_pos c5).symm.trans hF
          obtain rfl := Option.some.inj hF
          refine aV.sub (lv' := [(2, .int v1)]) [0] rfl ?_
          exact KX8
        · replace hF := (if_neg c5).symm.trans hF
          refine ab_iload_n C 0 rfl rfl dX8_commonDivisor_17 ?_
          refine ab_iload_n C 1 rfl rfl dX8_commonDivisor_18 ?_
          rcases Classical.em (v2 = (0 : Int32)) with c6 | c6
          · replace hF := (if_pos c6).symm.trans hF
            cases hF
          replace hF := (if_neg c6).symm.trans hF
          refine ab_irem C c6 dX8_commonDivisor_19 ?_
          refine ab_topi (fun v7 qv7 => ?_)
          replace hF := aLet_e hF v7 qv7
          refine ab_istore (lv' := [(5, .int v7), (2, .int v1), (3, .int v2), (4, .int v3)]) C dX8_commonDivisor_20 (by decide) rfl ?_
          refine ab_iload_n C 2 rfl rfl dX8_commonDivisor_22 ?_
          refine ab_istore_n (lv' := [(2, .int v2), (5, .int v7), (3, .int v2), (4, .int v3)]) C dX8_commonDivisor_23 rfl (by decide) rfl ?_
          refine ab_iload C 1 rfl dX8_commonDivisor_24 ?_
          refine ab_istore_n (lv' := [(3, .int v7), (2, .int v2), (5, .int v7), (4, .int v3)]) C dX8_commonDivisor_26 rfl (by decide) rfl ?_
          obtain ⟨v8, qv8⟩ : ∃ y : Int32, y = (v3 + (-1 : Int32)) := ⟨_, rfl⟩
          replace hF := aLet_e hF v8 qv8
          refine ab_iinc (lv' := [(4, .int v8), (3, .int v7), (2, .int v2), (5, .int v7)]) C 3 rfl dX8_commonDivisor_27 (by rw [qv8]; rfl) (by decide) rfl ?_
          refine ab_goto C 8 dX8_commonDivisor_30 (by decide) ?_
          refine aV.sub (lv' := [(2, .int v2), (3, .int v7), (4, .int v8)]) [2, 1, 0] rfl ?_
          exact ih8 v2 v7 v8 res8 hF KX8
  refine aV.sub (lv' := [(2, .int x0), (3, .int x1), (4, .int (64 : Int32))]) [2, 1, 0] rfl ?_
  obtain ⟨e9, he9, hF⟩ := Option.bind_eq_some_iff.mp hF
  refine L8 aFu x0 x1 (64 : Int32) e9 he9 ?_
  refine ab_iload_n C 0 rfl rfl dX8_commonDivisor_33 ?_
  obtain rfl := Option.some.inj hF
  exact ab_iret C R0 rfl dX8_commonDivisor_34 ⟨rfl, rfl, rfl⟩
theorem dX8_chance_0 : decode cX8_chance 0 = .ok (.aload_n 0, 1) := by decide +kernel
theorem dX8_chance_1 : decode cX8_chance 1 = .ok (.getfield 19, 3) := by decide +kernel
theorem dX8_chance_4 : decode cX8_chance 4 = .ok (.iload_n 1, 1) := by decide +kernel
theorem dX8_chance_5 : decode cX8_chance 5 = .ok (.invokevirtual 107, 3) := by decide +kernel
theorem dX8_chance_8 : decode cX8_chance 8 = .ok (.ifCond .eq 14, 3) := by decide +kernel
theorem dX8_chance_11 : decode cX8_chance 11 = .ok (.aload_n 0, 1) := by decide +kernel
theorem dX8_chance_12 : decode cX8_chance 12 = .ok (.getfield 19, 3) := by decide +kernel
theorem dX8_chance_15 : decode cX8_chance 15 = .ok (.iload_n 2, 1) := by decide +kernel
theorem dX8_chance_16 : decode cX8_chance 16 = .ok (.invokevirtual 147, 3) := by decide +kernel
theorem dX8_chance_19 : decode cX8_chance 19 = .ok (.ifCond .ne 5, 3) := by decide +kernel
theorem dX8_chance_22 : decode cX8_chance 22 = .ok (.iconst (-1), 1) := by decide +kernel
theorem dX8_chance_23 : decode cX8_chance 23 = .ok (.ireturn, 1) := by decide +kernel
theorem dX8_chance_24 : decode cX8_chance 24 = .ok (.iload_n 3, 1) := by decide +kernel
theorem dX8_chance_25 : decode cX8_chance 25 = .ok (.iconst 0, 1) := by decide +kernel
theorem dX8_chance_26 : decode cX8_chance 26 = .ok (.iconst 2, 1) := by decide +kernel
theorem dX8_chance_27 : decode cX8_chance 27 = .ok (.invokestatic 74, 3) := by decide +kernel
theorem dX8_chance_30 : decode cX8_chance 30 = .ok (.ifCond .eq 13, 3) := by decide +kernel
theorem dX8_chance_33 : decode cX8_chance 33 = .ok (.iload 4, 2) := by decide +kernel
theorem dX8_chance_35 : decode cX8_chance 35 = .ok (.iconst 0, 1) := by decide +kernel
theorem dX8_chance_36 : decode cX8_chance 36 = .ok (.iconst 1, 1) := by decide +kernel
theorem dX8_chance_37 : decode cX8_chance 37 = .ok (.invokestatic 74, 3) := by decide +kernel
theorem dX8_chance_40 : decode cX8_chance 40 = .ok (.ifCond .ne 5, 3) := by decide +kernel
theorem dX8_chance_43 : decode cX8_chance 43 = .ok (.iconst (-1), 1) := by decide +kernel
theorem dX8_chance_44 : decode cX8_chance 44 = .ok (.ireturn, 1) := by decide +kernel
theorem dX8_chance_45 : decode cX8_chance 45 = .ok (.aload_n 0, 1) := by decide +kernel
theorem dX8_chance_46 : decode cX8_chance 46 = .ok (.getfield 19, 3) := by decide +kernel
theorem dX8_chance_49 : decode cX8_chance 49 = .ok (.iload_n 1, 1) := by decide +kernel
theorem dX8_chance_50 : decode cX8_chance 50 = .ok (.aload_n 0, 1) := by decide +kernel
theorem dX8_chance_51 : decode cX8_chance 51 = .ok (.getfield 19, 3) := by decide +kernel
theorem dX8_chance_54 : decode cX8_chance 54 = .ok (.getfield 153, 3) := by decide +kernel
theorem dX8_chance_57 : decode cX8_chance 57 = .ok (.iload_n 2, 1) := by decide +kernel
theorem dX8_chance_58 : decode cX8_chance 58 = .ok (.iaload, 1) := by decide +kernel
theorem dX8_chance_59 : decode cX8_chance 59 = .ok (.iload_n 3, 1) := by decide +kernel
theorem dX8_chance_60 : decode cX8_chance 60 = .ok (.lconst 0, 1) := by decide +kernel
theorem dX8_chance_61 : decode cX8_chance 61 = .ok (.invokestatic 255, 3) := by decide +kernel
theorem dX8_chance_64 : decode cX8_chance 64 = .ok (.istore 5, 2) := by decide +kernel
theorem dX8_chance_66 : decode cX8_chance 66 = .ok (.iconst 1, 1) := by decide +kernel
theorem dX8_chance_67 : decode cX8_chance 67 = .ok (.istore 6, 2) := by decide +kernel
theorem dX8_chance_69 : decode cX8_chance 69 = .ok (.iconst 0, 1) := by decide +kernel
theorem dX8_chance_70 : decode cX8_chance 70 = .ok (.istore 7, 2) := by decide +kernel
theorem dX8_chance_72 : decode cX8_chance 72 = .ok (.iload 7, 2) := by decide +kernel
theorem dX8_chance_74 : decode cX8_chance 74 = .ok (.iload_n 3, 1) := by decide +kernel
theorem dX8_chance_75 : decode cX8_chance 75 = .ok (.if_icmp .ge 21, 3) := by decide +kernel
theorem dX8_chance_78 : decode cX8_chance 78 = .ok (.iload 6, 2) := by decide +kernel
theorem dX8_chance_80 : decode cX8_chance 80 = .ok (.aload_n 0, 1) := by decide +kernel
theorem dX8_chance_81 : decode cX8_chance 81 = .ok (.getfield 19, 3) := by decide +kernel
theorem dX8_chance_84 : decode cX8_chance 84 = .ok (.invokevirtual 259, 3) := by decide +kernel
theorem dX8_chance_87 : decode cX8_chance 87 = .ok (.imul, 1) := by decide +kernel
theorem dX8_chance_88 : decode cX8_chance 88 = .ok (.istore 6, 2) := by decide +kernel
theorem dX8_chance_90 : decode cX8_chance 90 = .ok (.iinc 7 1, 3) := by decide +kernel
theorem dX8_chance_93 : decode cX8_chance 93 = .ok (.goto (-21), 3) := by decide +kernel
theorem dX8_chance_96 : decode cX8_chance 96 = .ok (.iload 5, 2) := by decide +kernel
theorem dX8_chance_98 : decode cX8_chance 98 = .ok (.iload 6, 2) := by decide +kernel
theorem dX8_chance_100 : decode cX8_chance 100 = .ok (.invokestatic 262, 3) := by decide +kernel
theorem dX8_chance_103 : decode cX8_chance 103 = .ok (.istore 7, 2) := by decide +kernel
theorem dX8_chance_105 : decode cX8_chance 105 = .ok (.iload 7, 2) := by decide +kernel
theorem dX8_chance_107 : decode cX8_chance 107 = .ok (.ifCond .gt 16, 3) := by decide +kernel
theorem dX8_chance_110 : decode cX8_chance 110 = .ok (.iload 4, 2) := by decide +kernel
theorem dX8_chance_112 : decode cX8_chance 112 = .ok (.ifCond .ne 8, 3) := by decide +kernel
theorem dX8_chance_115 : decode cX8_chance 115 = .ok (.iload 5, 2) := by decide +kernel
theorem dX8_chance_117 : decode cX8_chance 117 = .ok (.goto 5, 3) := by decide +kernel
theorem dX8_chance_120 : decode cX8_chance 120 = .ok (.iload 6, 2) := by decide +kernel
theorem dX8_chance_122 : decode cX8_chance 122 = .ok (.ireturn, 1) := by decide +kernel
theorem dX8_chance_123 : decode cX8_chance 123 = .ok (.iload 4, 2) := by decide +kernel
theorem dX8_chance_125 : decode cX8_chance 125 = .ok (.ifCond .ne 11, 3) := by decide +kernel
theorem dX8_chance_128 : decode cX8_chance 128 = .ok (.iload 5, 2) := by decide +kernel
theorem dX8_chance_130 : decode cX8_chance 130 = .ok (.iload 7, 2) := by decide +kernel
theorem dX8_chance_132 : decode cX8_chance 132 = .ok (.idiv, 1) := by decide +kernel
theorem dX8_chance_133 : decode cX8_chance 133 = .ok (.goto 8, 3) := by decide +kernel
theorem dX8_chance_136 : decode cX8_chance 136 = .ok (.iload 6, 2) := by decide +kernel
theorem dX8_chance_138 : decode cX8_chance 138 = .ok (.iload 7, 2) := by decide +kernel
theorem dX8_chance_140 : decode cX8_chance 140 = .ok (.idiv, 1) := by decide +kernel
theorem dX8_chance_141 : decode cX8_chance 141 = .ok (.ireturn, 1) := by decide +kernel
def X8_chance_L72 (x3 : Int32) (S_now : Rec) : Nat → Int32 → Int32 → Option (Int32)
  | 0, _, _ => none
  | n72 + 1, v7, v8 => if x3 ≤ v8 then
      some v7
    else
      aLet (v7 * (X2_cells S_now)) fun v10 =>
      aLet (v8 + (1 : Int32)) fun v11 =>
      X8_chance_L72 x3 S_now n72 v10 v11
def X8_chance (S_now : Rec) (x1 : Int32) (x2 : Int32) (x3 : Int32) (x4 : Int32) : Option (Int32) :=
  if (X2_hasHolder S_now x1) = 0 then
    some (-1 : Int32)
  else
    if (X2_hasWord S_now x2) = 0 then
      some (-1 : Int32)
    else
      if (X8_within x3 (0 : Int32) (2 : Int32)) = 0 then
        some (-1 : Int32)
      else
        if (X8_within x4 (0 : Int32) (1 : Int32)) = 0 then
          some (-1 : Int32)
        else
          (rdI (S_now.2.1 6) 4 x2).bind fun v5 =>
          (X8_luckySales 6 S_now x1 v5 x3 (0 : Int64)).bind fun v6 =>
          (X8_chance_L72 x3 S_now aFu (1 : Int32) (0 : Int32)).bind fun e12 =>
          (X8_commonDivisor v6 e12).bind fun v13 =>
          if 0 < v13 then
            if x4 = 0 then
              if v13 = (0 : Int32) then none else
              some (v6 / v13)
            else
              if v13 = (0 : Int32) then none else
              some (e12 / v13)
          else
            if x4 = 0 then
              some v6
            else
              some e12
set_option maxRecDepth 100000 in
set_option maxHeartbeats 4000000 in
theorem X8_chance_ok (l : Launch) {h : aH} {nx : Nat} {S_now : Rec} {x1 : Int32} {x2 : Int32} {x3 : Int32} {x4 : Int32} (hBxo : X8_at h) (hBnow : X2_at h 7 S_now) {r : Int32} (hF : X8_chance S_now x1 x2 x3 x4 = some r) : aOk l 11 0 0 yX8_chance cX8_chance 8 (some .int) [.ref 4, .int x1, .int x2, .int x3, .int x4] h nx (aRd (.int r) h nx) := by
  refine aOk.of (by decide +kernel) (Nat.le_of_ble_eq_true rfl) (fun X G hX C R0 _ => ?_)
  subst hX
  show aV X G 8 0 [(0, .ref 4), (1, .int x1), (2, .int x2), (3, .int x3), (4, .int x4)] [] h nx 0 0
  rw [X8_chance] at hF
  refine ab_aload_n C 0 rfl rfl dX8_chance_0 ?_
  refine ab_g8 (v := .ref 7) C lf_X8_19 hBxo rfl dX8_chance_1 ?_
  refine ab_iload_n C 1 rfl rfl dX8_chance_4 ?_
  refine ab_cVR (v := .int (X2_hasHolder S_now x1)) (st := []) C lm_X8_107 (X2_hasHolder_ok (xl X) hBnow (r := (X2_hasHolder S_now x1)) rfl) [.int x1] rfl hBnow.1 rfl rfl rfl (by decide) ⟨Nat.zero_le _, Nat.zero_le _⟩ (Nat.le_of_ble_eq_true rfl) dX8_chance_5 ?_
  refine ab_if_eq C 22 dX8_chance_8 (by decide) (fun c1 => ?_) (fun c1 => ?_)
  · replace hF := (if_pos c1).symm.trans hF
    refine ab_iconst (v := (-1 : Int32)) C dX8_chance_22 (by decide) ?_
    obtain rfl := Option.some.inj hF
    exact ab_iret C R0 rfl dX8_chance_23 ⟨rfl, rfl, rfl⟩
  · replace hF := (if_neg c1).symm.trans hF
    refine ab_aload_n C 0 rfl rfl dX8_chance_11 ?_
    refine ab_g8 (v := .ref 7) C lf_X8_19 hBxo rfl dX8_chance_12 ?_
    refine ab_iload_n C 2 rfl rfl dX8_chance_15 ?_
    refine ab_cVR (v := .int (X2_hasWord S_now x2)) (st := []) C lm_X8_147 (X2_hasWord_ok (xl X) hBnow (r := (X2_hasWord S_now x2)) rfl) [.int x2] rfl hBnow.1 rfl rfl rfl (by decide) ⟨Nat.zero_le _, Nat.zero_le _⟩ (Nat.le_of_ble_eq_true rfl) dX8_chance_16 ?_
    refine ab_if_ne C 24 dX8_chance_19 (by decide) (fun c2 => ?_) (fun c2 => ?_)
    · replace hF := (if_neg c2).symm.trans hF
      refine ab_iload_n C 3 rfl rfl dX8_chance_24 ?_
      refine ab_iconst (v := (0 : Int32)) C dX8_chance_25 (by decide) ?_
      refine ab_iconst (v := (2 : Int32)) C dX8_chance_26 (by decide) ?_
      refine ab_cSR (v := .int (X8_within x3 (0 : Int32) (2 : Int32))) (st := []) C lm_X8_74 (X8_within_ok (xl X) (r := (X8_within x3 (0 : Int32) (2 : Int32))) rfl) rfl rfl (by decide) ⟨Nat.zero_le _, Nat.zero_le _⟩ (Nat.le_of_ble_eq_true rfl) dX8_chance_27 ?_
      refine ab_if_eq C 43 dX8_chance_30 (by decide) (fun c3 => ?_) (fun c3 => ?_)
      · replace hF := (if_pos c3).symm.trans hF
        refine ab_iconst (v := (-1 : Int32)) C dX8_chance_43 (by decide) ?_
        obtain rfl := Option.some.inj hF
        exact ab_iret C R0 rfl dX8_chance_44 ⟨rfl, rfl, rfl⟩
      · replace hF := (if_neg c3).symm.trans hF
        refine ab_iload C 4 rfl dX8_chance_33 ?_
        refine ab_iconst (v := (0 : Int32)) C dX8_chance_35 (by decide) ?_
        refine ab_iconst (v := (1 : Int32)) C dX8_chance_36 (by decide) ?_
        refine ab_cSR (v := .int (X8_within x4 (0 : Int32) (1 : Int32))) (st := []) C lm_X8_74 (X8_within_ok (xl X) (r := (X8_within x4 (0 : Int32) (1 : Int32))) rfl) rfl rfl (by decide) ⟨Nat.zero_le _, Nat.zero_le _⟩ (Nat.le_of_ble_eq_true rfl) dX8_chance_37 ?_
        refine ab_if_ne C 45 dX8_chance_40 (by decide) (fun c4 => ?_) (fun c4 => ?_)
        · replace hF := (if_neg c4).symm.trans hF
          refine ab_aload_n C 0 rfl rfl dX8_chance_45 ?_
          refine ab_g8 (v := .ref 7) C lf_X8_19 hBxo rfl dX8_chance_46 ?_
          refine ab_iload_n C 1 rfl rfl dX8_chance_49 ?_
          refine ab_aload_n C 0 rfl rfl dX8_chance_50 ?_
          refine ab_g8 (v := .ref 7) C lf_X8_19 hBxo rfl dX8_chance_51 ?_
          refine ab_g2 (v := .ref (7 + 3)) C lf_X8_153 hBnow.1 rfl dX8_chance_54 ?_
          refine ab_iload_n C 2 rfl rfl dX8_chance_57 ?_
          obtain ⟨v5, hxv5, hF⟩ := Option.bind_eq_some_iff.mp hF
          refine ab_iald C (X2_r6 hBnow) hxv5 dX8_chance_58 ?_
          refine ab_iload_n C 3 rfl rfl dX8_chance_59 ?_
          refine ab_lconst (v := (0 : Int64)) C dX8_chance_60 (by decide) ?_
          obtain ⟨v6, hxv6, hF⟩ := Option.bind_eq_some_iff.mp hF
          refine ab_cSR (v := .int v6) (st := []) C lm_X8_255 (X8_luckySales_ok (xl X) 6 hBnow (r := v6) hxv6) rfl rfl (by decide) ⟨Nat.zero_le _, Nat.zero_le _⟩ (Nat.le_of_ble_eq_true rfl) dX8_chance_61 ?_
          refine ab_istore (lv' := [(5, .int v6), (0, .ref 4), (1, .int x1), (2, .int x2), (3, .int x3), (4, .int x4)]) C dX8_chance_64 (by decide) rfl ?_
          refine ab_iconst (v := (1 : Int32)) C dX8_chance_66 (by decide) ?_
          refine ab_istore (lv' := [(6, .int (1 : Int32)), (5, .int v6), (0, .ref 4), (1, .int x1), (2, .int x2), (3, .int x3), (4, .int x4)]) C dX8_chance_67 (by decide) rfl ?_
          refine ab_iconst (v := (0 : Int32)) C dX8_chance_69 (by decide) ?_
          refine ab_istore (lv' := [(7, .int (0 : Int32)), (6, .int (1 : Int32)), (5, .int v6), (0, .ref 4), (1, .int x1), (2, .int x2), (3, .int x3), (4, .int x4)]) C dX8_chance_70 (by decide) rfl ?_
          have L72 : ∀ (n72 : Nat) (v7 : Int32) (v8 : Int32), ∀ (res72 : Int32), X8_chance_L72 x3 S_now n72 v7 v8 = some res72 → (aV X G 8 96 [(4, .int x4), (5, .int v6), (6, .int res72)] [] h nx 0 0) → aV X G 8 72 [(0, .ref 4), (3, .int x3), (4, .int x4), (5, .int v6), (6, .int v7), (7, .int v8)] [] h nx 0 0 := by
            intro n72
            induction n72 with
            | zero => intro v7 v8 res72 hF KX72; cases (show (none : Option (Int32)) = some res72 from hF)
            | succ n72 ih72 =>
              intro v7 v8 res72 hF KX72
              rw [X8_chance_L72] at hF
              refine ab_iload C 5 rfl dX8_chance_72 ?_
              refine ab_iload_n C 1 rfl rfl dX8_chance_74 ?_
              refine ab_icmp_ge C 96 dX8_chance_75 (by decide) (fun c9 => ?_) (fun c9 => ?_)
              · replace hF := (if_pos c9).symm.trans hF
                obtain rfl := Option.some.inj hF
                refine aV.sub (lv' := [(4, .int x4), (5, .int v6), (6, .int v7)]) [2, 3, 4] rfl ?_
                exact KX72
              · replace hF := (if_neg c9).symm.trans hF
                refine ab_iload C 4 rfl dX8_chance_78 ?_
                refine ab_aload_n C 0 rfl rfl dX8_chance_80 ?_
                refine ab_g8 (v := .ref 7) C lf_X8_19 hBxo rfl dX8_chance_81 ?_
                refine ab_cVR (v := .int (X2_cells S_now)) (st := [.int v7]) C lm_X8_259 (X2_cells_ok (xl X) hBnow (r := (X2_cells S_now)) rfl) [] rfl hBnow.1 rfl rfl rfl (by decide) ⟨Nat.zero_le _, Nat.zero_le _⟩ (Nat.le_of_ble_eq_true rfl) dX8_chance_84 ?_
                refine ab_imul C dX8_chance_87 ?_
                refine ab_topi (fun v10 qv10 => ?_)
                replace hF := aLet_e hF v10 qv10
                refine ab_istore (lv' := [(6, .int v10), (0, .ref 4), (3, .int x3), (4, .int x4), (5, .int v6), (7, .int v8)]) C dX8_chance_88 (by decide) rfl ?_
                obtain ⟨v11, qv11⟩ : ∃ y : Int32, y = (v8 + (1 : Int32)) := ⟨_, rfl⟩
                replace hF := aLet_e hF v11 qv11
                refine ab_iinc (lv' := [(7, .int v11), (6, .int v10), (0, .ref 4), (3, .int x3), (4, .int x4), (5, .int v6)]) C 5 rfl dX8_chance_90 (by rw [qv11]; rfl) (by decide) rfl ?_
                refine ab_goto C 72 dX8_chance_93 (by decide) ?_
                refine aV.sub (lv' := [(0, .ref 4), (3, .int x3), (4, .int x4), (5, .int v6), (6, .int v10), (7, .int v11)]) [2, 3, 4, 5, 1, 0] rfl ?_
                exact ih72 v10 v11 res72 hF KX72
          refine aV.sub (lv' := [(0, .ref 4), (3, .int x3), (4, .int x4), (5, .int v6), (6, .int (1 : Int32)), (7, .int (0 : Int32))]) [3, 6, 7, 2, 1, 0] rfl ?_
          obtain ⟨e12, he12, hF⟩ := Option.bind_eq_some_iff.mp hF
          refine L72 aFu (1 : Int32) (0 : Int32) e12 he12 ?_
          refine ab_iload C 1 rfl dX8_chance_96 ?_
          refine ab_iload C 2 rfl dX8_chance_98 ?_
          obtain ⟨v13, hxv13, hF⟩ := Option.bind_eq_some_iff.mp hF
          refine ab_cSR (v := .int v13) (st := []) C lm_X8_262 (X8_commonDivisor_ok (xl X) (r := v13) hxv13) rfl rfl (by decide) ⟨Nat.zero_le _, Nat.zero_le _⟩ (Nat.le_of_ble_eq_true rfl) dX8_chance_100 ?_
          refine ab_istore (lv' := [(7, .int v13), (4, .int x4), (5, .int v6), (6, .int e12)]) C dX8_chance_103 (by decide) rfl ?_
          refine ab_iload C 0 rfl dX8_chance_105 ?_
          refine ab_if_gt C 123 dX8_chance_107 (by decide) (fun c14 => ?_) (fun c14 => ?_)
          · replace hF := (if_pos c14).symm.trans hF
            refine ab_iload C 1 rfl dX8_chance_123 ?_
            refine ab_if_ne C 136 dX8_chance_125 (by decide) (fun c15 => ?_) (fun c15 => ?_)
            · replace hF := (if_neg c15).symm.trans hF
              refine ab_iload C 3 rfl dX8_chance_136 ?_
              refine ab_iload C 0 rfl dX8_chance_138 ?_
              rcases Classical.em (v13 = (0 : Int32)) with c16 | c16
              · replace hF := (if_pos c16).symm.trans hF
                cases hF
              replace hF := (if_neg c16).symm.trans hF
              refine ab_idiv C c16 dX8_chance_140 ?_
              obtain rfl := Option.some.inj hF
              exact ab_iret C R0 rfl dX8_chance_141 ⟨rfl, rfl, rfl⟩
            · replace hF := (if_pos c15).symm.trans hF
              refine ab_iload C 2 rfl dX8_chance_128 ?_
              refine ab_iload C 0 rfl dX8_chance_130 ?_
              rcases Classical.em (v13 = (0 : Int32)) with c17 | c17
              · replace hF := (if_pos c17).symm.trans hF
                cases hF
              replace hF := (if_neg c17).symm.trans hF
              refine ab_idiv C c17 dX8_chance_132 ?_
              refine ab_goto C 141 dX8_chance_133 (by decide) ?_
              obtain rfl := Option.some.inj hF
              exact ab_iret C R0 rfl dX8_chance_141 ⟨rfl, rfl, rfl⟩
          · replace hF := (if_neg c14).symm.trans hF
            refine ab_iload C 1 rfl dX8_chance_110 ?_
            refine ab_if_ne C 120 dX8_chance_112 (by decide) (fun c18 => ?_) (fun c18 => ?_)
            · replace hF := (if_neg c18).symm.trans hF
              refine ab_iload C 3 rfl dX8_chance_120 ?_
              obtain rfl := Option.some.inj hF
              exact ab_iret C R0 rfl dX8_chance_122 ⟨rfl, rfl, rfl⟩
            · replace hF := (if_pos c18).symm.trans hF
              refine ab_iload C 2 rfl dX8_chance_115 ?_
              refine ab_goto C 122 dX8_chance_117 (by decide) ?_
              obtain rfl := Option.some.inj hF
              exact ab_iret C R0 rfl dX8_chance_122 ⟨rfl, rfl, rfl⟩
        · replace hF := (if_pos c4).symm.trans hF
          refine ab_iconst (v := (-1 : Int32)) C dX8_chance_43 (by decide) ?_
          obtain rfl := Option.some.inj hF
          exact ab_iret C R0 rfl dX8_chance_44 ⟨rfl, rfl, rfl⟩
    · replace hF := (if_pos c2).symm.trans hF
      refine ab_iconst (v := (-1 : Int32)) C dX8_chance_22 (by decide) ?_
      obtain rfl := Option.some.inj hF
      exact ab_iret C R0 rfl dX8_chance_23 ⟨rfl, rfl, rfl⟩
theorem dX8_drawn_0 : decode cX8_drawn 0 = .ok (.iload_n 1, 1) := by decide +kernel
theorem dX8_drawn_1 : decode cX8_drawn 1 = .ok (.iconst 0, 1) := by decide +kernel
theorem dX8_drawn_2 : decode cX8_drawn 2 = .ok (.bipush 40, 2) := by decide +kernel
theorem dX8_drawn_4 : decode cX8_drawn 4 = .ok (.invokestatic 74, 3) := by decide +kernel
theorem dX8_drawn_7 : decode cX8_drawn 7 = .ok (.ifCond .eq 23, 3) := by decide +kernel
theorem dX8_drawn_10 : decode cX8_drawn 10 = .ok (.iload_n 2, 1) := by decide +kernel
theorem dX8_drawn_11 : decode cX8_drawn 11 = .ok (.iconst 1, 1) := by decide +kernel
theorem dX8_drawn_12 : decode cX8_drawn 12 = .ok (.ldc_w 265, 3) := by decide +kernel
theorem dX8_drawn_15 : decode cX8_drawn 15 = .ok (.invokestatic 74, 3) := by decide +kernel
theorem dX8_drawn_18 : decode cX8_drawn 18 = .ok (.ifCond .eq 12, 3) := by decide +kernel
theorem dX8_drawn_21 : decode cX8_drawn 21 = .ok (.iload_n 3, 1) := by decide +kernel
theorem dX8_drawn_22 : decode cX8_drawn 22 = .ok (.iconst 0, 1) := by decide +kernel
theorem dX8_drawn_23 : decode cX8_drawn 23 = .ok (.iconst 1, 1) := by decide +kernel
theorem dX8_drawn_24 : decode cX8_drawn 24 = .ok (.invokestatic 74, 3) := by decide +kernel
theorem dX8_drawn_27 : decode cX8_drawn 27 = .ok (.ifCond .ne 5, 3) := by decide +kernel
theorem dX8_drawn_30 : decode cX8_drawn 30 = .ok (.iconst (-1), 1) := by decide +kernel
theorem dX8_drawn_31 : decode cX8_drawn 31 = .ok (.ireturn, 1) := by decide +kernel
theorem dX8_drawn_32 : decode cX8_drawn 32 = .ok (.aload_n 0, 1) := by decide +kernel
theorem dX8_drawn_33 : decode cX8_drawn 33 = .ok (.getfield 19, 3) := by decide +kernel
theorem dX8_drawn_36 : decode cX8_drawn 36 = .ok (.invokevirtual 173, 3) := by decide +kernel
theorem dX8_drawn_39 : decode cX8_drawn 39 = .ok (.ifCond .ne 6, 3) := by decide +kernel
theorem dX8_drawn_42 : decode cX8_drawn 42 = .ok (.bipush (-2), 2) := by decide +kernel
theorem dX8_drawn_44 : decode cX8_drawn 44 = .ok (.ireturn, 1) := by decide +kernel
theorem dX8_drawn_45 : decode cX8_drawn 45 = .ok (.aload_n 0, 1) := by decide +kernel
theorem dX8_drawn_46 : decode cX8_drawn 46 = .ok (.getfield 40, 3) := by decide +kernel
theorem dX8_drawn_49 : decode cX8_drawn 49 = .ok (.aload_n 0, 1) := by decide +kernel
theorem dX8_drawn_50 : decode cX8_drawn 50 = .ok (.getfield 19, 3) := by decide +kernel
theorem dX8_drawn_53 : decode cX8_drawn 53 = .ok (.invokevirtual 96, 3) := by decide +kernel
theorem dX8_drawn_56 : decode cX8_drawn 56 = .ok (.iload_n 2, 1) := by decide +kernel
theorem dX8_drawn_57 : decode cX8_drawn 57 = .ok (.i2l, 1) := by decide +kernel
theorem dX8_drawn_58 : decode cX8_drawn 58 = .ok (.lstore 4, 2) := by decide +kernel
theorem dX8_drawn_60 : decode cX8_drawn 60 = .ok (.iconst 0, 1) := by decide +kernel
theorem dX8_drawn_61 : decode cX8_drawn 61 = .ok (.istore 6, 2) := by decide +kernel
theorem dX8_drawn_63 : decode cX8_drawn 63 = .ok (.iload 6, 2) := by decide +kernel
theorem dX8_drawn_65 : decode cX8_drawn 65 = .ok (.iload_n 1, 1) := by decide +kernel
theorem dX8_drawn_66 : decode cX8_drawn 66 = .ok (.if_icmp .ge 38, 3) := by decide +kernel
theorem dX8_drawn_69 : decode cX8_drawn 69 = .ok (.lload 4, 2) := by decide +kernel
theorem dX8_drawn_71 : decode cX8_drawn 71 = .ok (.ldc2_w 266, 3) := by decide +kernel
theorem dX8_drawn_74 : decode cX8_drawn 74 = .ok (.lmul, 1) := by decide +kernel
theorem dX8_drawn_75 : decode cX8_drawn 75 = .ok (.ldc2_w 268, 3) := by decide +kernel
theorem dX8_drawn_78 : decode cX8_drawn 78 = .ok (.lrem, 1) := by decide +kernel
theorem dX8_drawn_79 : decode cX8_drawn 79 = .ok (.lstore 4, 2) := by decide +kernel
theorem dX8_drawn_81 : decode cX8_drawn 81 = .ok (.aload_n 0, 1) := by decide +kernel
theorem dX8_drawn_82 : decode cX8_drawn 82 = .ok (.getfield 40, 3) := by decide +kernel
theorem dX8_drawn_85 : decode cX8_drawn 85 = .ok (.lload 4, 2) := by decide +kernel
theorem dX8_drawn_87 : decode cX8_drawn 87 = .ok (.invokevirtual 270, 3) := by decide +kernel
theorem dX8_drawn_90 : decode cX8_drawn 90 = .ok (.aload_n 0, 1) := by decide +kernel
theorem dX8_drawn_91 : decode cX8_drawn 91 = .ok (.getfield 40, 3) := by decide +kernel
theorem dX8_drawn_94 : decode cX8_drawn 94 = .ok (.invokevirtual 180, 3) := by decide +kernel
theorem dX8_drawn_97 : decode cX8_drawn 97 = .ok (.pop, 1) := by decide +kernel
theorem dX8_drawn_98 : decode cX8_drawn 98 = .ok (.iinc 6 1, 3) := by decide +kernel
theorem dX8_drawn_101 : decode cX8_drawn 101 = .ok (.goto (-38), 3) := by decide +kernel
theorem dX8_drawn_104 : decode cX8_drawn 104 = .ok (.iload_n 3, 1) := by decide +kernel
theorem dX8_drawn_105 : decode cX8_drawn 105 = .ok (.ifCond .ne 13, 3) := by decide +kernel
theorem dX8_drawn_108 : decode cX8_drawn 108 = .ok (.aload_n 0, 1) := by decide +kernel
theorem dX8_drawn_109 : decode cX8_drawn 109 = .ok (.getfield 40, 3) := by decide +kernel
theorem dX8_drawn_112 : decode cX8_drawn 112 = .ok (.invokevirtual 274, 3) := by decide +kernel
theorem dX8_drawn_115 : decode cX8_drawn 115 = .ok (.goto 16, 3) := by decide +kernel
theorem dX8_drawn_118 : decode cX8_drawn 118 = .ok (.aload_n 0, 1) := by decide +kernel
theorem dX8_drawn_119 : decode cX8_drawn 119 = .ok (.getfield 40, 3) := by decide +kernel
theorem dX8_drawn_122 : decode cX8_drawn 122 = .ok (.getfield 114, 3) := by decide +kernel
theorem dX8_drawn_125 : decode cX8_drawn 125 = .ok (.bipush 6, 2) := by decide +kernel
theorem dX8_drawn_127 : decode cX8_drawn 127 = .ok (.laload, 1) := by decide +kernel
theorem dX8_drawn_128 : decode cX8_drawn 128 = .ok (.invokestatic 118, 3) := by decide +kernel
theorem dX8_drawn_131 : decode cX8_drawn 131 = .ok (.ireturn, 1) := by decide +kernel
def X8_drawn_L63 (x1 : Int32) : Nat → Int64 → Int32 → Rec → Option (Rec)
  | 0, _, _, _ => none
  | n63 + 1, v7, v8, Z9 => if x1 ≤ v8 then
      some Z9
    else
      aLet ((v7 * (16807 : Int64)) - (v7 * (16807 : Int64)) / (2147483647 : Int64) * (2147483647 : Int64)) fun v12 =>
      (X2_sellDrawn Z9 v12).bind fun v13 =>
      (X2_passYear v13).bind fun v15 =>
      aLet (v8 + (1 : Int32)) fun v17 =>
      X8_drawn_L63 x1 n63 v12 v17 v15.2
def X8_drawn (S_now : Rec) (S_trial : Rec) (x1 : Int32) (x2 : Int32) (x3 : Int32) : Option (Int32 × Rec) :=
  if (X8_within x1 (0 : Int32) (40 : Int32)) = 0 then
    some ((-1 : Int32), S_trial)
  else
    if (X8_within x2 (1 : Int32) (999999 : Int32)) = 0 then
      some ((-1 : Int32), S_trial)
    else
      if (X8_within x3 (0 : Int32) (1 : Int32)) = 0 then
        some ((-1 : Int32), S_trial)
      else
        if (X2_stands S_now) = 0 then
          some ((-2 : Int32), S_trial)
        else
          aLet (x2.toInt64) fun v6 =>
          (X8_drawn_L63 x1 aFu v6 (0 : Int32) (X2_become S_trial S_now)).bind fun e18 =>
          if x3 = 0 then
            (X2_bestSpeaker e18).bind fun v22 =>
            some (v22, e18)
          else
            (rdL (e18.2.2 10) 7 (6 : Int32)).bind fun v21 =>
            some ((J13_bitCount_95d88 v21), e18)
set_option maxRecDepth 100000 in
set_option maxHeartbeats 4000000 in
theorem X8_drawn_ok (l : Launch) {h : aH} {nx : Nat} {S_now : Rec} {S_trial : Rec} {x1 : Int32} {x2 : Int32} {x3 : Int32} (hBxo : X8_at h) (hBnow : X2_at h 7 S_now) (hBtrial : X2_at h 19 S_trial) {r : Int32 × Rec} (hF : X8_drawn S_now S_trial x1 x2 x3 = some r) : aOk l 6 0 0 yX8_drawn cX8_drawn 7 (some .int) [.ref 4, .int x1, .int x2, .int x3] h nx (aMt (some (.int r.1)) nx (fun h1 => X2_at h1 19 r.2 ∧ (∀ q, (q < 19 ∨ 19 + 8 ≤ q) → h1 q = h q))) := by
  refine aOk.of (by decide +kernel) (Nat.le_of_ble_eq_true rfl) (fun X G hX C R0 _ => ?_)
  subst hX
  show aV X G 7 0 [(0, .ref 4), (1, .int x1), (2, .int x2), (3, .int x3)] [] h nx 0 0
  have hFr : ∀ q, (q < 19 ∨ 19 + 8 ≤ q) → h q = h q := fun _ _ => rfl
  rw [X8_drawn] at hF
  refine ab_iload_n C 1 rfl rfl dX8_drawn_0 ?_
  refine ab_iconst (v := (0 : Int32)) C dX8_drawn_1 (by decide) ?_
  refine ab_bipush (v := (40 : Int32)) C dX8_drawn_2 (by decide) ?_
  refine ab_cSR (v := .int (X8_within x1 (0 : Int32) (40 : Int32))) (st := []) C lm_X8_74 (X8_within_ok (xl X) (r := (X8_within x1 (0 : Int32) (40 : Int32))) rfl) rfl rfl (by decide) ⟨Nat.zero_le _, Nat.zero_le _⟩ (Nat.le_of_ble_eq_true rfl) dX8_drawn_4 ?_
  refine ab_if_eq C 30 dX8_drawn_7 (by decide) (fun c1 => ?_) (fun c1 => ?_)
  · replace hF := (if_pos c1).symm.trans hF
    refine ab_iconst (v := (-1 : Int32)) C dX8_drawn_30 (by decide) ?_
    obtain rfl := Option.some.inj hF
    exact ab_iret C R0 rfl dX8_drawn_31 ⟨rfl, rfl, hBtrial, hFr⟩
  · replace hF := (if_neg c1).symm.trans hF
    refine ab_iload_n C 2 rfl rfl dX8_drawn_10 ?_
    refine ab_iconst (v := (1 : Int32)) C dX8_drawn_11 (by decide) ?_
    refine ab_ldcw (v := (999999 : Int32)) C dX8_drawn_12 lq_X8_265 ?_
    refine ab_cSR (v := .int (X8_within x2 (1 : Int32) (999999 : Int32))) (st := []) C lm_X8_74 (X8_within_ok (xl X) (r := (X8_within x2 (1 : Int32) (999999 : Int32))) rfl) rfl rfl (by decide) ⟨Nat.zero_le _, Nat.zero_le _⟩ (Nat.le_of_ble_eq_true rfl) dX8_drawn_15 ?_
    refine ab_if_eq C 30 dX8_drawn_18 (by decide) (fun c2 => ?_) (fun c2 => ?_)
    · replace hF := (if_pos c2).symm.trans hF
      refine ab_iconst (v := (-1 : Int32)) C dX8_drawn_30 (by decide) ?_
      obtain rfl := Option.some.inj hF
      exact ab_iret C R0 rfl dX8_drawn_31 ⟨rfl, rfl, hBtrial, hFr⟩
    · replace hF := (if_neg c2).symm.trans hF
      refine ab_iload_n C 3 rfl rfl dX8_drawn_21 ?_
      refine ab_iconst (v := (0 : Int32)) C dX8_drawn_22 (by decide) ?_
      refine ab_iconst (v := (1 : Int32)) C dX8_drawn_23 (by decide) ?_
      refine ab_cSR (v := .int (X8_within x3 (0 : Int32) (1 : Int32))) (st := []) C lm_X8_74 (X8_within_ok (xl X) (r := (X8_within x3 (0 : Int32) (1 : Int32))) rfl) rfl rfl (by decide) ⟨Nat.zero_le _, Nat.zero_le _⟩ (Nat.le_of_ble_eq_true rfl) dX8_drawn_24 ?_
      refine ab_if_ne C 32 dX8_drawn_27 (by decide) (fun c3 => ?_) (fun c3 => ?_)
      · replace hF := (if_neg c3).symm.trans hF
        refine ab_aload_n C 0 rfl rfl dX8_drawn_32 ?_
        refine ab_g8 (v := .ref 7) C lf_X8_19 hBxo rfl dX8_drawn_33 ?_
        refine ab_cVR (v := .int (X2_stands S_now)) (st := []) C lm_X8_173 (X2_stands_ok (xl X) hBnow (r := (X2_stands S_now)) rfl) [] rfl hBnow.1 rfl rfl rfl (by decide) ⟨Nat.zero_le _, Nat.zero_le _⟩ (Nat.le_of_ble_eq_true rfl) dX8_drawn_36 ?_
        refine ab_if_ne C 45 dX8_drawn_39 (by decide) (fun c4 => ?_) (fun c4 => ?_)
        · replace hF := (if_neg c4).symm.trans hF
          refine ab_aload_n C 0 rfl rfl dX8_drawn_45 ?_
          refine ab_g8 (v := .ref 19) C lf_X8_40 hBxo rfl dX8_drawn_46 ?_
          refine ab_aload_n C 0 rfl rfl dX8_drawn_49 ?_
          refine ab_g8 (v := .ref 7) C lf_X8_19 hBxo rfl dX8_drawn_50 ?_
          refine ab_cVN (st := []) C lm_X8_96 (X2_become_ok (xl X) hBtrial hBnow (by omega) (r := (X2_become S_trial S_now)) rfl) [.ref 7] rfl hBtrial.1 rfl rfl rfl (by decide) ⟨Nat.zero_le _, Nat.zero_le _⟩ (Nat.le_of_ble_eq_true rfl) dX8_drawn_53 (fun g5 pg5 => ?_)
          obtain ⟨k0, Og5⟩ := pg5
          have hBtrial : X2_at g5 19 (X2_become S_trial S_now) := k0
          have hBxo : X8_at g5 := (Og5 4 (by omega)).trans hBxo
          have hBnow : X2_at g5 7 S_now := X2_off hBnow (fun q i1 i2 => Og5 q (by omega))
          have hFr : ∀ q, (q < 19 ∨ 19 + 8 ≤ q) → g5 q = h q := fun q u0 => (Og5 q (by omega)).trans (hFr q u0)
          refine ab_iload_n C 2 rfl rfl dX8_drawn_56 ?_
          refine ab_i2l C dX8_drawn_57 ?_
          refine ab_topl (fun v6 qv6 => ?_)
          replace hF := aLet_e hF v6 qv6
          refine ab_lstore (lv' := [(4, .long v6), (0, .ref 4), (1, .int x1), (2, .int x2), (3, .int x3)]) C dX8_drawn_58 ⟨by decide, by decide⟩ rfl ?_
          refine ab_iconst (v := (0 : Int32)) C dX8_drawn_60 (by decide) ?_
          refine ab_istore (lv' := [(6, .int (0 : Int32)), (4, .long v6), (0, .ref 4), (1, .int x1), (2, .int x2), (3, .int x3)]) C dX8_drawn_61 (by decide) rfl ?_
          have L63 : ∀ (n63 : Nat) (v7 : Int64) (v8 : Int32) (Z9 : Rec) (g10 : aH), (X8_at g10) → (X2_at g10 7 S_now) → (X2_at g10 19 Z9) → (∀ q, (q < 19 ∨ 19 + 8 ≤ q) → g10 q = h q) → ∀ (res63 : Rec), X8_drawn_L63 x1 n63 v7 v8 Z9 = some res63 → (∀ (q9 : aH), (X8_at q9) → (X2_at q9 7 S_now) → (X2_at q9 19 res63) → (∀ q, (q < 19 ∨ 19 + 8 ≤ q) → q9 q = h q) → aV X G 7 104 [(0, .ref 4), (3, .int x3)] [] q9 nx 0 0) → aV X G 7 63 [(0, .ref 4), (1, .int x1), (3, .int x3), (4, .long v7), (6, .int v8)] [] g10 nx 0 0 := by
            intro n63
            induction n63 with
            | zero => intro v7 v8 Z9 g10 hBxo hBnow hBtrial hFr res63 hF KX63; cases (show (none : Option (Rec)) = some res63 from hF)
            | succ n63 ih63 =>
              intro v7 v8 Z9 g10 hBxo hBnow hBtrial hFr res63 hF KX63
              rw [X8_drawn_L63] at hF
              refine ab_iload C 4 rfl dX8_drawn_63 ?_
              refine ab_iload_n C 1 rfl rfl dX8_drawn_65 ?_
              refine ab_icmp_ge C 104 dX8_drawn_66 (by decide) (fun c11 => ?_) (fun c11 => ?_)
              · replace hF := (if_pos c11).symm.trans hF
                obtain rfl := Option.some.inj hF
                refine aV.sub (lv' := [(0, .ref 4), (3, .int x3)]) [0, 2] rfl ?_
                exact KX63 g10 hBxo hBnow hBtrial hFr
              · replace hF := (if_neg c11).symm.trans hF
                refine ab_lload C 3 rfl dX8_drawn_69 ?_
                refine ab_ldc2 (v := (16807 : Int64)) C dX8_drawn_71 lq_X8_266 ?_
                refine ab_lmul C dX8_drawn_74 ?_
                refine ab_ldc2 (v := (2147483647 : Int64)) C dX8_drawn_75 lq_X8_268 ?_
                refine ab_lrem C (by decide) dX8_drawn_78 ?_
                refine ab_topl (fun v12 qv12 => ?_)
                replace hF := aLet_e hF v12 qv12
                refine ab_lstore (lv' := [(4, .long v12), (0, .ref 4), (1, .int x1), (3, .int x3), (6, .int v8)]) C dX8_drawn_79 ⟨by decide, by decide⟩ rfl ?_
                refine ab_aload_n C 1 rfl rfl dX8_drawn_81 ?_
                refine ab_g8 (v := .ref 19) C lf_X8_40 hBxo rfl dX8_drawn_82 ?_
                refine ab_lload C 0 rfl dX8_drawn_85 ?_
                obtain ⟨v13, hxv13, hF⟩ := Option.bind_eq_some_iff.mp hF
                refine ab_cVN (st := []) C lm_X8_270 (X2_sellDrawn_ok (xl X) hBtrial (r := v13) hxv13) [.long v12] rfl hBtrial.1 rfl rfl rfl (by decide) ⟨Nat.zero_le _, Nat.zero_le _⟩ (Nat.le_of_ble_eq_true rfl) dX8_drawn_87 (fun g14 pg14 => ?_)
                obtain ⟨k0, Og14⟩ := pg14
                have hBtrial : X2_at g14 19 v13 := k0
                have hBxo : X8_at g14 := (Og14 4 (by omega)).trans hBxo
                have hBnow : X2_at g14 7 S_now := X2_off hBnow (fun q i1 i2 => Og14 q (by omega))
                have hFr : ∀ q, (q < 19 ∨ 19 + 8 ≤ q) → g14 q = h q := fun q u0 => (Og14 q (by omega)).trans (hFr q u0)
                refine ab_aload_n C 1 rfl rfl dX8_drawn_90 ?_
                refine ab_g8 (v := .ref 19) C lf_X8_40 hBxo rfl dX8_drawn_91 ?_
                obtain ⟨v15, hxv15, hF⟩ := Option.bind_eq_some_iff.mp hF
                refine ab_cVM (v := .int v15.1) (st := []) C lm_X8_180 (X2_passYear_ok (xl X) hBtrial (r := v15) hxv15) [] rfl hBtrial.1 rfl rfl rfl (by decide) ⟨Nat.zero_le _, Nat.zero_le _⟩ (Nat.le_of_ble_eq_true rfl) dX8_drawn_94 (fun g16 pg16 => ?_)
                obtain ⟨k0, Og16⟩ := pg16
                have hBtrial : X2_at g16 19 v15.2 := k0
                have hBxo : X8_at g16 := (Og16 4 (by omega)).trans hBxo
                have hBnow : X2_at g16 7 S_now := X2_off hBnow (fun q i1 i2 => Og16 q (by omega))
                have hFr : ∀ q, (q < 19 ∨ 19 + 8 ≤ q) → g16 q = h q := fun q u0 => (Og16 q (by omega)).trans (hFr q u0)
                refine ab_pop C rfl dX8_drawn_97 ?_
                obtain ⟨v17, qv17⟩ : ∃ y : Int32, y = (v8 + (1 : Int32)) := ⟨_, rfl⟩
                replace hF := aLet_e hF v17 qv17
                refine ab_iinc (lv' := [(6, .int v17), (4, .long v12), (0, .ref 4), (1, .int x1), (3, .int x3)]) C 4 rfl dX8_drawn_98 (by rw [qv17]; rfl) (by decide) rfl ?_
                refine ab_goto C 63 dX8_drawn_101 (by decide) ?_
                refine aV.sub (lv' := [(0, .ref 4), (1, .int x1), (3, .int x3), (4, .long v12), (6, .int v17)]) [2, 3, 4, 1, 0] rfl ?_
                exact ih63 v12 v17 v15.2 g16 hBxo hBnow hBtrial hFr res63 hF KX63
          refine aV.sub (lv' := [(0, .ref 4), (1, .int x1), (3, .int x3), (4, .long v6), (6, .int (0 : Int32))]) [2, 3, 5, 1, 0] rfl ?_
          obtain ⟨e18, he18, hF⟩ := Option.bind_eq_some_iff.mp hF
          refine L63 aFu v6 (0 : Int32) (X2_become S_trial S_now) g5 hBxo hBnow hBtrial hFr e18 he18 (fun g19 hBxo hBnow hBtrial hFr => ?_)
          refine ab_iload_n C 1 rfl rfl dX8_drawn_104 ?_
          refine ab_if_ne C 118 dX8_drawn_105 (by decide) (fun c20 => ?_) (fun c20 => ?_)
          · replace hF := (if_neg c20).symm.trans hF
            refine ab_aload_n C 0 rfl rfl dX8_drawn_118 ?_
            refine ab_g8 (v := .ref 19) C lf_X8_40 hBxo rfl dX8_drawn_119 ?_
            refine ab_g2 (v := .ref (19 + 6)) C lf_X8_114 hBtrial.1 rfl dX8_drawn_122 ?_
            refine ab_bipush (v := (6 : Int32)) C dX8_drawn_125 (by decide) ?_
            obtain ⟨v21, hxv21, hF⟩ := Option.bind_eq_some_iff.mp hF
            refine ab_lald C (X2_r10 hBtrial) hxv21 dX8_drawn_127 ?_
            refine ab_cSR (v := .int (J13_bitCount_95d88 v21)) (st := []) C lm_X8_118 (J13_bitCount_95d88_ok (xl X) (r := (J13_bitCount_95d88 v21)) rfl) rfl rfl (by decide) ⟨Nat.zero_le _, Nat.zero_le _⟩ (Nat.le_of_ble_eq_true rfl) dX8_drawn_128 ?_
            obtain rfl := Option.some.inj hF
            exact ab_iret C R0 rfl dX8_drawn_131 ⟨rfl, rfl, hBtrial, hFr⟩
          · replace hF := (if_pos c20).symm.trans hF
            refine ab_aload_n C 0 rfl rfl dX8_drawn_108 ?_
            refine ab_g8 (v := .ref 19) C lf_X8_40 hBxo rfl dX8_drawn_109 ?_
            obtain ⟨v22, hxv22, hF⟩ := Option.bind_eq_some_iff.mp hF
            refine ab_cVR (v := .int v22) (st := []) C lm_X8_274 (X2_bestSpeaker_ok (xl X) hBtrial (r := v22) hxv22) [] rfl hBtrial.1 rfl rfl rfl (by decide) ⟨Nat.zero_le _, Nat.zero_le _⟩ (Nat.le_of_ble_eq_true rfl) dX8_drawn_112 ?_
            refine ab_goto C 131 dX8_drawn_115 (by decide) ?_
            obtain rfl := Option.some.inj hF
            exact ab_iret C R0 rfl dX8_drawn_131 ⟨rfl, rfl, hBtrial, hFr⟩
        · replace hF := (if_pos c4).symm.trans hF
          refine ab_bipush (v := (-2 : Int32)) C dX8_drawn_42 (by decide) ?_
          obtain rfl := Option.some.inj hF
          exact ab_iret C R0 rfl dX8_drawn_44 ⟨rfl, rfl, hBtrial, hFr⟩
      · replace hF := (if_pos c3).symm.trans hF
        refine ab_iconst (v := (-1 : Int32)) C dX8_drawn_30 (by decide) ?_
        obtain rfl := Option.some.inj hF
        exact ab_iret C R0 rfl dX8_drawn_31 ⟨rfl, rfl, hBtrial, hFr⟩
theorem dX8_count_0 : decode cX8_count 0 = .ok (.iload_n 1, 1) := by decide +kernel
theorem dX8_count_1 : decode cX8_count 1 = .ok (.tableswitch 148 0 9 #[55, 63, 71, 79, 87, 95, 109, 117, 125, 140], 55) := by decide +kernel
theorem dX8_count_56 : decode cX8_count 56 = .ok (.aload_n 0, 1) := by decide +kernel
theorem dX8_count_57 : decode cX8_count 57 = .ok (.getfield 19, 3) := by decide +kernel
theorem dX8_count_60 : decode cX8_count 60 = .ok (.getfield 103, 3) := by decide +kernel
theorem dX8_count_63 : decode cX8_count 63 = .ok (.ireturn, 1) := by decide +kernel
theorem dX8_count_64 : decode cX8_count 64 = .ok (.aload_n 0, 1) := by decide +kernel
theorem dX8_count_65 : decode cX8_count 65 = .ok (.getfield 19, 3) := by decide +kernel
theorem dX8_count_68 : decode cX8_count 68 = .ok (.getfield 318, 3) := by decide +kernel
theorem dX8_count_71 : decode cX8_count 71 = .ok (.ireturn, 1) := by decide +kernel
theorem dX8_count_72 : decode cX8_count 72 = .ok (.aload_n 0, 1) := by decide +kernel
theorem dX8_count_73 : decode cX8_count 73 = .ok (.getfield 19, 3) := by decide +kernel
theorem dX8_count_76 : decode cX8_count 76 = .ok (.getfield 321, 3) := by decide +kernel
theorem dX8_count_79 : decode cX8_count 79 = .ok (.ireturn, 1) := by decide +kernel
theorem dX8_count_80 : decode cX8_count 80 = .ok (.aload_n 0, 1) := by decide +kernel
theorem dX8_count_81 : decode cX8_count 81 = .ok (.getfield 19, 3) := by decide +kernel
theorem dX8_count_84 : decode cX8_count 84 = .ok (.getfield 177, 3) := by decide +kernel
theorem dX8_count_87 : decode cX8_count 87 = .ok (.ireturn, 1) := by decide +kernel
theorem dX8_count_88 : decode cX8_count 88 = .ok (.aload_n 0, 1) := by decide +kernel
theorem dX8_count_89 : decode cX8_count 89 = .ok (.getfield 19, 3) := by decide +kernel
theorem dX8_count_92 : decode cX8_count 92 = .ok (.getfield 324, 3) := by decide +kernel
theorem dX8_count_95 : decode cX8_count 95 = .ok (.ireturn, 1) := by decide +kernel
theorem dX8_count_96 : decode cX8_count 96 = .ok (.aload_n 0, 1) := by decide +kernel
theorem dX8_count_97 : decode cX8_count 97 = .ok (.getfield 19, 3) := by decide +kernel
theorem dX8_count_100 : decode cX8_count 100 = .ok (.getfield 114, 3) := by decide +kernel
theorem dX8_count_103 : decode cX8_count 103 = .ok (.bipush 6, 2) := by decide +kernel
theorem dX8_count_105 : decode cX8_count 105 = .ok (.laload, 1) := by decide +kernel
theorem dX8_count_106 : decode cX8_count 106 = .ok (.invokestatic 118, 3) := by decide +kernel
theorem dX8_count_109 : decode cX8_count 109 = .ok (.ireturn, 1) := by decide +kernel
theorem dX8_count_110 : decode cX8_count 110 = .ok (.aload_n 0, 1) := by decide +kernel
theorem dX8_count_111 : decode cX8_count 111 = .ok (.getfield 26, 3) := by decide +kernel
theorem dX8_count_114 : decode cX8_count 114 = .ok (.invokevirtual 186, 3) := by decide +kernel
theorem dX8_count_117 : decode cX8_count 117 = .ok (.ireturn, 1) := by decide +kernel
theorem dX8_count_118 : decode cX8_count 118 = .ok (.aload_n 0, 1) := by decide +kernel
theorem dX8_count_119 : decode cX8_count 119 = .ok (.getfield 10, 3) := by decide +kernel
theorem dX8_count_122 : decode cX8_count 122 = .ok (.invokevirtual 82, 3) := by decide +kernel
theorem dX8_count_125 : decode cX8_count 125 = .ok (.ireturn, 1) := by decide +kernel
theorem dX8_count_126 : decode cX8_count 126 = .ok (.aload_n 0, 1) := by decide +kernel
theorem dX8_count_127 : decode cX8_count 127 = .ok (.getfield 19, 3) := by decide +kernel
theorem dX8_count_130 : decode cX8_count 130 = .ok (.aload_n 0, 1) := by decide +kernel
theorem dX8_count_131 : decode cX8_count 131 = .ok (.getfield 19, 3) := by decide +kernel
theorem dX8_count_134 : decode cX8_count 134 = .ok (.invokevirtual 327, 3) := by decide +kernel
theorem dX8_count_137 : decode cX8_count 137 = .ok (.invokevirtual 331, 3) := by decide +kernel
theorem dX8_count_140 : decode cX8_count 140 = .ok (.ireturn, 1) := by decide +kernel
theorem dX8_count_141 : decode cX8_count 141 = .ok (.aload_n 0, 1) := by decide +kernel
theorem dX8_count_142 : decode cX8_count 142 = .ok (.getfield 19, 3) := by decide +kernel
theorem dX8_count_145 : decode cX8_count 145 = .ok (.invokevirtual 334, 3) := by decide +kernel
theorem dX8_count_148 : decode cX8_count 148 = .ok (.ireturn, 1) := by decide +kernel
theorem dX8_count_149 : decode cX8_count 149 = .ok (.iconst (-1), 1) := by decide +kernel
theorem dX8_count_150 : decode cX8_count 150 = .ok (.ireturn, 1) := by decide +kernel
def X8_count (S_now : Rec) (lf_p : (Nat → Option Nat)) (S_past : Rec) (S_tape : Rec) (x1 : Int32) : Option (Int32) :=
  if x1 = (0 : Int32) then
    some (S_now.1 0)
  else if x1 = (1 : Int32) then
    some (S_now.1 3)
  else if x1 = (2 : Int32) then
    some (S_now.1 2)
  else if x1 = (3 : Int32) then
    some (S_now.1 8)
  else if x1 = (4 : Int32) then
    some (S_now.1 4)
  else if x1 = (5 : Int32) then
    (rdL (S_now.2.2 10) 7 (6 : Int32)).bind fun v7 =>
    some (J13_bitCount_95d88 v7)
  else if x1 = (6 : Int32) then
    some (X4_size lf_p S_past)
  else if x1 = (7 : Int32) then
    some (X7_size S_tape)
  else if x1 = (8 : Int32) then
    (X2_everyCell S_now).bind fun v11 =>
    (X2_vowelsIn S_now v11).bind fun v12 =>
    some v12
  else if x1 = (9 : Int32) then
    (X2_speechOfAll S_now).bind fun v14 =>
    some v14
  else 
  some (-1 : Int32)
set_option maxRecDepth 100000 in
set_option maxHeartbeats 4000000 in
theorem X8_count_ok (l : Launch) {h : aH} {nx : Nat} {S_now : Rec} {lf_p : (Nat → Option Nat)} {S_past : Rec} {S_tape : Rec} {x1 : Int32} (hBxo : X8_at h) (hBnow : X2_at h 7 S_now) (hBpast : X4_at h 15 lf_p S_past) (hBtape : X7_at h 5 S_tape) {r : Int32} (hF : X8_count S_now lf_p S_past S_tape x1 = some r) : aOk l 6 0 0 yX8_count cX8_count 2 (some .int) [.ref 4, .int x1] h nx (aRd (.int r) h nx) := by
  refine aOk.of (by decide +kernel) (Nat.le_of_ble_eq_true rfl) (fun X G hX C R0 _ => ?_)
  subst hX
  show aV X G 2 0 [(0, .ref 4), (1, .int x1)] [] h nx 0 0
  rw [X8_count] at hF
  refine ab_iload_n C 1 rfl rfl dX8_count_0 ?_
  rcases Classical.em (x1 = (0 : Int32)) with c1 | c1
  · replace hF := (if_pos c1).symm.trans hF
    refine ab_tableIn (off := 55) C 56 dX8_count_1 (by rw [c1]; decide) (by rw [c1]; decide) (by rw [c1]; rfl) (by decide) ?_
    refine ab_aload_n C 0 rfl rfl dX8_count_56 ?_
    refine ab_g8 (v := .ref 7) C lf_X8_19 hBxo rfl dX8_count_57 ?_
    refine ab_g2 (v := .int (S_now.1 0)) C lf_X8_103 hBnow.1 rfl dX8_count_60 ?_
    obtain rfl := Option.some.inj hF
    exact ab_iret C R0 rfl dX8_count_63 ⟨rfl, rfl, rfl⟩
  replace hF := (if_neg c1).symm.trans hF
  rcases Classical.em (x1 = (1 : Int32)) with c2 | c2
  · replace hF := (if_pos c2).symm.trans hF
    refine ab_tableIn (off := 63) C 64 dX8_count_1 (by rw [c2]; decide) (by rw [c2]; decide) (by rw [c2]; rfl) (by decide) ?_
    refine ab_aload_n C 0 rfl rfl dX8_count_64 ?_
    refine ab_g8 (v := .ref 7) C lf_X8_19 hBxo rfl dX8_count_65 ?_
    refine ab_g2 (v := .int (S_now.1 3)) C lf_X8_318 hBnow.1 rfl dX8_count_68 ?_
    obtain rfl := Option.some.inj hF
    exact ab_iret C R0 rfl dX8_count_71 ⟨rfl, rfl, rfl⟩
  replace hF := (if_neg c2).symm.trans hF
  rcases Classical.em (x1 = (2 : Int32)) with c3 | c3
  · replace hF := (if_pos c3).symm.trans hF
    refine ab_tableIn (off := 71) C 72 dX8_count_1 (by rw [c3]; decide) (by rw [c3]; decide) (by rw [c3]; rfl) (by decide) ?_
    refine ab_aload_n C 0 rfl rfl dX8_count_72 ?_
    refine ab_g8 (v := .ref 7) C lf_X8_19 hBxo rfl dX8_count_73 ?_
    refine ab_g2 (v := .int (S_now.1 2)) C lf_X8_321 hBnow.1 rfl dX8_count_76 ?_
    obtain rfl := Option.some.inj hF
    exact ab_iret C R0 rfl dX8_count_79 ⟨rfl, rfl, rfl⟩
  replace hF := (if_neg c3).symm.trans hF
  rcases Classical.em (x1 = (3 : Int32)) with c4 | c4
  · replace hF := (if_pos c4).symm.trans hF
    refine ab_tableIn (off := 79) C 80 dX8_count_1 (by rw [c4]; decide) (by rw [c4]; decide) (by rw [c4]; rfl) (by decide) ?_
    refine ab_aload_n C 0 rfl rfl dX8_count_80 ?_
    refine ab_g8 (v := .ref 7) C lf_X8_19 hBxo rfl dX8_count_81 ?_
    refine ab_g2 (v := .int (S_now.1 8)) C lf_X8_177 hBnow.1 rfl dX8_count_84 ?_
    obtain rfl := Option.some.inj hF
    exact ab_iret C R0 rfl dX8_count_87 ⟨rfl, rfl, rfl⟩
  replace hF := (if_neg c4).symm.trans hF
  rcases Classical.em (x1 = (4 : Int32)) with c5 | c5
  · replace hF := (if_pos c5).symm.trans hF
    refine ab_tableIn (off := 87) C 88 dX8_count_1 (by rw [c5]; decide) (by rw [c5]; decide) (by rw [c5]; rfl) (by decide) ?_
    refine ab_aload_n C 0 rfl rfl dX8_count_88 ?_
    refine ab_g8 (v := .ref 7) C lf_X8_19 hBxo rfl dX8_count_89 ?_
    refine ab_g2 (v := .int (S_now.1 4)) C lf_X8_324 hBnow.1 rfl dX8_count_92 ?_
    obtain rfl := Option.some.inj hF
    exact ab_iret C R0 rfl dX8_count_95 ⟨rfl, rfl, rfl⟩
  replace hF := (if_neg c5).symm.trans hF
  rcases Classical.em (x1 = (5 : Int32)) with c6 | c6
  · replace hF := (if_pos c6).symm.trans hF
    refine ab_tableIn (off := 95) C 96 dX8_count_1 (by rw [c6]; decide) (by rw [c6]; decide) (by rw [c6]; rfl) (by decide) ?_
    refine ab_aload_n C 0 rfl rfl dX8_count_96 ?_
    refine ab_g8 (v := .ref 7) C lf_X8_19 hBxo rfl dX8_count_97 ?_
    refine ab_g2 (v := .ref (7 + 6)) C lf_X8_114 hBnow.1 rfl dX8_count_100 ?_
    refine ab_bipush (v := (6 : Int32)) C dX8_count_103 (by decide) ?_
    obtain ⟨v7, hxv7, hF⟩ := Option.bind_eq_some_iff.mp hF
    refine ab_lald C (X2_r10 hBnow) hxv7 dX8_count_105 ?_
    refine ab_cSR (v := .int (J13_bitCount_95d88 v7)) (st := []) C lm_X8_118 (J13_bitCount_95d88_ok (xl X) (r := (J13_bitCount_95d88 v7)) rfl) rfl rfl (by decide) ⟨Nat.zero_le _, Nat.zero_le _⟩ (Nat.le_of_ble_eq_true rfl) dX8_count_106 ?_
    obtain rfl := Option.some.inj hF
    exact ab_iret C R0 rfl dX8_count_109 ⟨rfl, rfl, rfl⟩
  replace hF := (if_neg c6).symm.trans hF
  rcases Classical.em (x1 = (6 : Int32)) with c8 | c8
  · replace hF := (if_pos c8).symm.trans hF
    refine ab_tableIn (off := 109) C 110 dX8_count_1 (by rw [c8]; decide) (by rw [c8]; decide) (by rw [c8]; rfl) (by decide) ?_
    refine ab_aload_n C 0 rfl rfl dX8_count_110 ?_
    refine ab_g8 (v := .ref 15) C lf_X8_26 hBxo rfl dX8_count_111 ?_
    refine ab_cVR (v := .int (X4_size lf_p S_past)) (st := []) C lm_X8_186 (X4_size_ok (xl X) hBpast (r := (X4_size lf_p S_past)) rfl) [] rfl hBpast.1 rfl rfl rfl (by decide) ⟨Nat.zero_le _, Nat.zero_le _⟩ (Nat.le_of_ble_eq_true rfl) dX8_count_114 ?_
    obtain rfl := Option.some.inj hF
    exact ab_iret C R0 rfl dX8_count_117 ⟨rfl, rfl, rfl⟩
  replace hF := (if_neg c8).symm.trans hF
  rcases Classical.em (x1 = (7 : Int32)) with c9 | c9
  · replace hF := (if_pos c9).symm.trans hF
    refine ab_tableIn (off := 117) C 118 dX8_count_1 (by rw [c9]; decide) (by rw [c9]; decide) (by rw [c9]; rfl) (by decide) ?_
    refine ab_aload_n C 0 rfl rfl dX8_count_118 ?_
    refine ab_g8 (v := .ref 5) C lf_X8_10 hBxo rfl dX8_count_119 ?_
    refine ab_cVR (v := .int (X7_size S_tape)) (st := []) C lm_X8_82 (X7_size_ok (xl X) hBtape (r := (X7_size S_tape)) rfl) [] rfl hBtape.1 rfl rfl rfl (by decide) ⟨Nat.zero_le _, Nat.zero_le _⟩ (Nat.le_of_ble_eq_true rfl) dX8_count_122 ?_
    obtain rfl := Option.some.inj hF
    exact ab_iret C R0 rfl dX8_count_125 ⟨rfl, rfl, rfl⟩
  replace hF := (if_neg c9).symm.trans hF
  rcases Classical.em (x1 = (8 : Int32)) with c10 | c10
  · replace hF := (if_pos c10).symm.trans hF
    refine ab_tableIn (off := 125) C 126 dX8_count_1 (by rw [c10]; decide) (by rw [c10]; decide) (by rw [c10]; rfl) (by decide) ?_
    refine ab_aload_n C 0 rfl rfl dX8_count_126 ?_
    refine ab_g8 (v := .ref 7) C lf_X8_19 hBxo rfl dX8_count_127 ?_
    refine ab_aload_n C 0 rfl rfl dX8_count_130 ?_
    refine ab_g8 (v := .ref 7) C lf_X8_19 hBxo rfl dX8_count_131 ?_
    obtain ⟨v11, hxv11, hF⟩ := Option.bind_eq_some_iff.mp hF
    refine ab_cVR (v := .long v11) (st := [.ref 7]) C lm_X8_327 (X2_everyCell_ok (xl X) hBnow (r := v11) hxv11) [] rfl hBnow.1 rfl rfl rfl (by decide) ⟨Nat.zero_le _, Nat.zero_le _⟩ (Nat.le_of_ble_eq_true rfl) dX8_count_134 ?_
    obtain ⟨v12, hxv12, hF⟩ := Option.bind_eq_some_iff.mp hF
    refine ab_cVR (v := .int v12) (st := []) C lm_X8_331 (X2_vowelsIn_ok (xl X) hBnow (r := v12) hxv12) [.long v11] rfl hBnow.1 rfl rfl rfl (by decide) ⟨Nat.zero_le _, Nat.zero_le _⟩ (Nat.le_of_ble_eq_true rfl) dX8_count_137 ?_
    obtain rfl := Option.some.inj hF
    exact ab_iret C R0 rfl dX8_count_140 ⟨rfl, rfl, rfl⟩
  replace hF := (if_neg c10).symm.trans hF
  rcases Classical.em (x1 = (9 : Int32)) with c13 | c13
  · replace hF := (if_pos c13).symm.trans hF
    refine ab_tableIn (off := 140) C 141 dX8_count_1 (by rw [c13]; decide) (by rw [c13]; decide) (by rw [c13]; rfl) (by decide) ?_
    refine ab_aload_n C 0 rfl rfl dX8_count_141 ?_
    refine ab_g8 (v := .ref 7) C lf_X8_19 hBxo rfl dX8_count_142 ?_
    obtain ⟨v14, hxv14, hF⟩ := Option.bind_eq_some_iff.mp hF
    refine ab_cVR (v := .int v14) (st := []) C lm_X8_334 (X2_speechOfAll_ok (xl X) hBnow (r := v14) hxv14) [] rfl hBnow.1 rfl rfl rfl (by decide) ⟨Nat.zero_le _, Nat.zero_le _⟩ (Nat.le_of_ble_eq_true rfl) dX8_count_145 ?_
    obtain rfl := Option.some.inj hF
    exact ab_iret C R0 rfl dX8_count_148 ⟨rfl, rfl, rfl⟩
  replace hF := (if_neg c13).symm.trans hF
  refine ab_tableOut C 149 dX8_count_1 (by have zc1 := lv_neT (a := 0) c1 (by decide); have zc2 := lv_neT (a := 1) c2 (by decide); have zc3 := lv_neT (a := 2) c3 (by decide); have zc4 := lv_neT (a := 3) c4 (by decide); have zc5 := lv_neT (a := 4) c5 (by decide); have zc6 := lv_neT (a := 5) c6 (by decide); have zc8 := lv_neT (a := 6) c8 (by decide); have zc9 := lv_neT (a := 7) c9 (by decide); have zc10 := lv_neT (a := 8) c10 (by decide); have zc13 := lv_neT (a := 9) c13 (by decide); omega) (by decide) ?_
  refine ab_iconst (v := (-1 : Int32)) C dX8_count_149 (by decide) ?_
  obtain rfl := Option.some.inj hF
  exact ab_iret C R0 rfl dX8_count_150 ⟨rfl, rfl, rfl⟩
