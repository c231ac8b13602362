/-! printed by a program from the bytecode: what each method answers, as numbers, and that it answers so -/
theorem dX7_size_0 : decode cX7_size 0 = .ok (.aload_n 0, 1) := by decide +kernel
theorem dX7_size_1 : decode cX7_size 1 = .ok (.getfield 15, 3) := by decide +kernel
theorem dX7_size_4 : decode cX7_size 4 = .ok (.ireturn, 1) := by decide +kernel
def X7_size (S0 : Rec) : Int32 :=
  (S0.1 1)
set_option maxRecDepth 100000 in
set_option maxHeartbeats 4000000 in
theorem X7_size_ok (l : Launch) {h : aH} {nx : Nat} {a0 : Nat} {S0 : Rec} (hB0 : X7_at h a0 S0) {r : Int32} (hF : X7_size S0 = r) : aOk l 0 0 0 yX7_size cX7_size 1 (some .int) [.ref a0] h nx (aRd (.int r) h nx) := by
  refine aOk.of (by decide +kernel) (Nat.le_of_ble_eq_true rfl) (fun X G hX C R0 _ => ?_)
  subst hX
  show aV X G 1 0 [(0, .ref a0)] [] h nx 0 0
  rw [X7_size] at hF
  refine ab_aload_n C 0 rfl rfl dX7_size_0 ?_
  refine ab_g7 (v := .int (S0.1 1)) C lf_X7_15 hB0.1 rfl dX7_size_1 ?_
  obtain rfl := hF
  exact ab_iret C R0 rfl dX7_size_4 ⟨rfl, rfl, rfl⟩
theorem dX7_fault_0 : decode cX7_fault 0 = .ok (.aload_n 0, 1) := by decide +kernel
theorem dX7_fault_1 : decode cX7_fault 1 = .ok (.getfield 19, 3) := by decide +kernel
theorem dX7_fault_4 : decode cX7_fault 4 = .ok (.ireturn, 1) := by decide +kernel
def X7_fault (S0 : Rec) : Int32 :=
  (S0.1 2)
set_option maxRecDepth 100000 in
set_option maxHeartbeats 4000000 in
theorem X7_fault_ok (l : Launch) {h : aH} {nx : Nat} {a0 : Nat} {S0 : Rec} (hB0 : X7_at h a0 S0) {r : Int32} (hF : X7_fault S0 = r) : aOk l 0 0 0 yX7_fault cX7_fault 1 (some .int) [.ref a0] h nx (aRd (.int r) h nx) := by
  refine aOk.of (by decide +kernel) (Nat.le_of_ble_eq_true rfl) (fun X G hX C R0 _ => ?_)
  subst hX
  show aV X G 1 0 [(0, .ref a0)] [] h nx 0 0
  rw [X7_fault] at hF
  refine ab_aload_n C 0 rfl rfl dX7_fault_0 ?_
  refine ab_g7 (v := .int (S0.1 2)) C lf_X7_19 hB0.1 rfl dX7_fault_1 ?_
  obtain rfl := hF
  exact ab_iret C R0 rfl dX7_fault_4 ⟨rfl, rfl, rfl⟩
theorem dX7_clear_0 : decode cX7_clear 0 = .ok (.aload_n 0, 1) := by decide +kernel
theorem dX7_clear_1 : decode cX7_clear 1 = .ok (.iconst 0, 1) := by decide +kernel
theorem dX7_clear_2 : decode cX7_clear 2 = .ok (.putfield 15, 3) := by decide +kernel
theorem dX7_clear_5 : decode cX7_clear 5 = .ok (.return_, 1) := by decide +kernel
def X7_clear (S0 : Rec) : Rec :=
  (sI S0 1 (0 : Int32))
set_option maxRecDepth 100000 in
set_option maxHeartbeats 4000000 in
theorem X7_clear_ok (l : Launch) {h : aH} {nx : Nat} {a0 : Nat} {S0 : Rec} (hB0 : X7_at h a0 S0) {r : Rec} (hF : X7_clear S0 = r) : aOk l 0 0 0 yX7_clear cX7_clear 1 none [.ref a0] h nx (aMt none nx (fun h1 => X7_at h1 a0 r ∧ (∀ q, (q < a0 ∨ a0 + 2 ≤ q) → h1 q = h q))) := by
  refine aOk.of (by decide +kernel) (Nat.le_of_ble_eq_true rfl) (fun X G hX C R0 _ => ?_)
  subst hX
  show aV X G 1 0 [(0, .ref a0)] [] h nx 0 0
  have hFr : ∀ q, (q < a0 ∨ a0 + 2 ≤ q) → h q = h q := fun _ _ => rfl
  rw [X7_clear] at hF
  refine ab_aload_n C 0 rfl rfl dX7_clear_0 ?_
  refine ab_iconst (v := (0 : Int32)) C dX7_clear_1 (by decide) ?_
  refine ab_p7 (ty := .int) C lf_X7_15 rfl (by decide +kernel) rfl rfl (Nat.le_of_ble_eq_true rfl) hB0.1 dX7_clear_2 (fun g1 eg1 og1 => ?_)
  have hB0 : X7_at g1 a0 (sI S0 1 (0 : Int32)) := X7_p1 hB0 eg1 og1
  have hFr : ∀ q, (q < a0 ∨ a0 + 2 ≤ q) → g1 q = h q := fun q u0 => (og1 q (by omega)).trans (hFr q u0)
  obtain rfl := hF
  exact ab_vret C R0 dX7_clear_5 ⟨rfl, rfl, hB0, hFr⟩
theorem dX7_append_0 : decode cX7_append 0 = .ok (.aload_n 0, 1) := by decide +kernel
theorem dX7_append_1 : decode cX7_append 1 = .ok (.getfield 15, 3) := by decide +kernel
theorem dX7_append_4 : decode cX7_append 4 = .ok (.ifCond .lt 15, 3) := by decide +kernel
theorem dX7_append_7 : decode cX7_append 7 = .ok (.aload_n 0, 1) := by decide +kernel
theorem dX7_append_8 : decode cX7_append 8 = .ok (.getfield 15, 3) := by decide +kernel
theorem dX7_append_11 : decode cX7_append 11 = .ok (.aload_n 0, 1) := by decide +kernel
theorem dX7_append_12 : decode cX7_append 12 = .ok (.getfield 9, 3) := by decide +kernel
theorem dX7_append_15 : decode cX7_append 15 = .ok (.arraylength, 1) := by decide +kernel
theorem dX7_append_16 : decode cX7_append 16 = .ok (.if_icmp .lt 5, 3) := by decide +kernel
theorem dX7_append_19 : decode cX7_append 19 = .ok (.iconst 0, 1) := by decide +kernel
theorem dX7_append_20 : decode cX7_append 20 = .ok (.ireturn, 1) := by decide +kernel
theorem dX7_append_21 : decode cX7_append 21 = .ok (.aload_n 0, 1) := by decide +kernel
theorem dX7_append_22 : decode cX7_append 22 = .ok (.getfield 9, 3) := by decide +kernel
theorem dX7_append_25 : decode cX7_append 25 = .ok (.aload_n 0, 1) := by decide +kernel
theorem dX7_append_26 : decode cX7_append 26 = .ok (.getfield 15, 3) := by decide +kernel
theorem dX7_append_29 : decode cX7_append 29 = .ok (.iload_n 1, 1) := by decide +kernel
theorem dX7_append_30 : decode cX7_append 30 = .ok (.iastore, 1) := by decide +kernel
theorem dX7_append_31 : decode cX7_append 31 = .ok (.aload_n 0, 1) := by decide +kernel
theorem dX7_append_32 : decode cX7_append 32 = .ok (.dup, 1) := by decide +kernel
theorem dX7_append_33 : decode cX7_append 33 = .ok (.getfield 15, 3) := by decide +kernel
theorem dX7_append_36 : decode cX7_append 36 = .ok (.iconst 1, 1) := by decide +kernel
theorem dX7_append_37 : decode cX7_append 37 = .ok (.iadd, 1) := by decide +kernel
theorem dX7_append_38 : decode cX7_append 38 = .ok (.putfield 15, 3) := by decide +kernel
theorem dX7_append_41 : decode cX7_append 41 = .ok (.iconst 1, 1) := by decide +kernel
theorem dX7_append_42 : decode cX7_append 42 = .ok (.ireturn, 1) := by decide +kernel
def X7_append (S0 : Rec) (x1 : Int32) : Option (Int32 × Rec) :=
  if (S0.1 1) < 0 then
    some ((0 : Int32), S0)
  else
    if (S0.1 1) < (Int32.ofNat 130) then
      (wrI (S0.2.1 0) 130 (S0.1 1) x1).bind fun w3 =>
      some ((1 : Int32), (sI (sA S0 0 w3) 1 (((sA S0 0 w3).1 1) + (1 : Int32))))
    else
      some ((0 : Int32), S0)
set_option maxRecDepth 100000 in
set_option maxHeartbeats 4000000 in
theorem X7_append_ok (l : Launch) {h : aH} {nx : Nat} {a0 : Nat} {S0 : Rec} {x1 : Int32} (hB0 : X7_at h a0 S0) {r : Int32 × Rec} (hF : X7_append S0 x1 = some r) : aOk l 0 0 0 yX7_append cX7_append 2 (some .boolean) [.ref a0, .int x1] h nx (aMt (some (.int r.1)) nx (fun h1 => X7_at h1 a0 r.2 ∧ (∀ q, (q < a0 ∨ a0 + 2 ≤ q) → h1 q = h q))) := by
  refine aOk.of (by decide +kernel) (Nat.le_of_ble_eq_true rfl) (fun X G hX C R0 _ => ?_)
  subst hX
  show aV X G 2 0 [(0, .ref a0), (1, .int x1)] [] h nx 0 0
  have hFr : ∀ q, (q < a0 ∨ a0 + 2 ≤ q) → h q = h q := fun _ _ => rfl
  rw [X7_append] at hF
  refine ab_aload_n C 0 rfl rfl dX7_append_0 ?_
  refine ab_g7 (v := .int (S0.1 1)) C lf_X7_15 hB0.1 rfl dX7_append_1 ?_
  refine ab_if_lt C 19 dX7_append_4 (by decide) (fun c1 => ?_) (fun c1 => ?_)
  · replace hF := (if_pos c1).symm.trans hF
    refine ab_iconst (v := (0 : Int32)) C dX7_append_19 (by decide) ?_
    obtain rfl := Option.some.inj hF
    exact ab_iret C R0 rfl dX7_append_20 ⟨rfl, rfl, hB0, hFr⟩
  · replace hF := (if_neg c1).symm.trans hF
    refine ab_aload_n C 0 rfl rfl dX7_append_7 ?_
    refine ab_g7 (v := .int (S0.1 1)) C lf_X7_15 hB0.1 rfl dX7_append_8 ?_
    refine ab_aload_n C 0 rfl rfl dX7_append_11 ?_
    refine ab_g7 (v := .ref (a0 + 1)) C lf_X7_9 hB0.1 rfl dX7_append_12 ?_
    refine ab_alen0 C (X7_r0 hB0) dX7_append_15 ?_
    refine ab_icmp_lt C 21 dX7_append_16 (by decide) (fun c2 => ?_) (fun c2 => ?_)
    · replace hF := (if_pos c2).symm.trans hF
      refine ab_aload_n C 0 rfl rfl dX7_append_21 ?_
      refine ab_g7 (v := .ref (a0 + 1)) C lf_X7_9 hB0.1 rfl dX7_append_22 ?_
      refine ab_aload_n C 0 rfl rfl dX7_append_25 ?_
      refine ab_g7 (v := .int (S0.1 1)) C lf_X7_15 hB0.1 rfl dX7_append_26 ?_
      refine ab_iload_n C 1 rfl rfl dX7_append_29 ?_
      obtain ⟨w3, hxw3, hF⟩ := Option.bind_eq_some_iff.mp hF
      refine ab_iast C (X7_r0 hB0) hxw3 dX7_append_30 (fun g4 eg4 og4 => ?_)
      have hB0 : X7_at g4 a0 (sA S0 0 w3) := X7_w0 hB0 eg4 og4
      have hFr : ∀ q, (q < a0 ∨ a0 + 2 ≤ q) → g4 q = h q := fun q u0 => (og4 q (by omega)).trans (hFr q u0)
      refine ab_aload_n C 0 rfl rfl dX7_append_31 ?_
      refine ab_dup C rfl dX7_append_32 ?_
      refine ab_g7 (v := .int ((sA S0 0 w3).1 1)) C lf_X7_15 hB0.1 rfl dX7_append_33 ?_
      refine ab_iconst (v := (1 : Int32)) C dX7_append_36 (by decide) ?_
      refine ab_iadd C dX7_append_37 ?_
      refine ab_p7 (ty := .int) C lf_X7_15 rfl (by decide +kernel) rfl rfl (Nat.le_of_ble_eq_true rfl) hB0.1 dX7_append_38 (fun g5 eg5 og5 => ?_)
      have hB0 : X7_at g5 a0 (sI (sA S0 0 w3) 1 (((sA S0 0 w3).1 1) + (1 : Int32))) := X7_p1 hB0 eg5 og5
      have hFr : ∀ q, (q < a0 ∨ a0 + 2 ≤ q) → g5 q = h q := fun q u0 => (og5 q (by omega)).trans (hFr q u0)
      refine ab_iconst (v := (1 : Int32)) C dX7_append_41 (by decide) ?_
      obtain rfl := Option.some.inj hF
      exact ab_iret C R0 rfl dX7_append_42 ⟨rfl, rfl, hB0, hFr⟩
    · replace hF := (if_neg c2).symm.trans hF
      refine ab_iconst (v := (0 : Int32)) C dX7_append_19 (by decide) ?_
      obtain rfl := Option.some.inj hF
      exact ab_iret C R0 rfl dX7_append_20 ⟨rfl, rfl, hB0, hFr⟩
theorem dX7_passes_0 : decode cX7_passes 0 = .ok (.aload_n 0, 1) := by decide +kernel
theorem dX7_passes_1 : decode cX7_passes 1 = .ok (.invokevirtual 47, 3) := by decide +kernel
theorem dX7_passes_4 : decode cX7_passes 4 = .ok (.iload_n 1, 1) := by decide +kernel
theorem dX7_passes_5 : decode cX7_passes 5 = .ok (.if_icmp .eq 5, 3) := by decide +kernel
theorem dX7_passes_8 : decode cX7_passes 8 = .ok (.iconst 0, 1) := by decide +kernel
theorem dX7_passes_9 : decode cX7_passes 9 = .ok (.ireturn, 1) := by decide +kernel
theorem dX7_passes_10 : decode cX7_passes 10 = .ok (.aload_n 0, 1) := by decide +kernel
theorem dX7_passes_11 : decode cX7_passes 11 = .ok (.dup, 1) := by decide +kernel
theorem dX7_passes_12 : decode cX7_passes 12 = .ok (.getfield 19, 3) := by decide +kernel
theorem dX7_passes_15 : decode cX7_passes 15 = .ok (.iconst 1, 1) := by decide +kernel
theorem dX7_passes_16 : decode cX7_passes 16 = .ok (.iadd, 1) := by decide +kernel
theorem dX7_passes_17 : decode cX7_passes 17 = .ok (.putfield 19, 3) := by decide +kernel
theorem dX7_passes_20 : decode cX7_passes 20 = .ok (.iconst 1, 1) := by decide +kernel
theorem dX7_passes_21 : decode cX7_passes 21 = .ok (.ireturn, 1) := by decide +kernel
def X7_passes (S0 : Rec) (x1 : Int32) : Option (Int32 × Rec) :=
  (X7_sign S0).bind fun v1 =>
  if v1 = x1 then
    some ((1 : Int32), (sI S0 2 ((S0.1 2) + (1 : Int32))))
  else
    some ((0 : Int32), S0)
set_option maxRecDepth 100000 in
set_option maxHeartbeats 4000000 in
theorem X7_passes_ok (l : Launch) {h : aH} {nx : Nat} {a0 : Nat} {S0 : Rec} {x1 : Int32} (hB0 : X7_at h a0 S0) {r : Int32 × Rec} (hF : X7_passes S0 x1 = some r) : aOk l 1 0 0 yX7_passes cX7_passes 2 (some .boolean) [.ref a0, .int x1] h nx (aMt (some (.int r.1)) nx (fun h1 => X7_at h1 a0 r.2 ∧ (∀ q, (q < a0 ∨ a0 + 2 ≤ q) → h1 q = h q))) := by
  refine aOk.of (by decide +kernel) (Nat.le_of_ble_eq_true rfl) (fun X G hX C R0 _ => ?_)
  subst hX
  show aV X G 2 0 [(0, .ref a0), (1, .int x1)] [] h nx 0 0
  have hFr : ∀ q, (q < a0 ∨ a0 + 2 ≤ q) → h q = h q := fun _ _ => rfl
  rw [X7_passes] at hF
  refine ab_aload_n C 0 rfl rfl dX7_passes_0 ?_
  obtain ⟨v1, hxv1, hF⟩ := Option.bind_eq_some_iff.mp hF
  refine ab_cVR (v := .int v1) (st := []) C lm_X7_47 (X7_sign_ok (xl X) hB0 (r := v1) hxv1) [] rfl hB0.1 rfl rfl rfl (by decide) ⟨Nat.zero_le _, Nat.zero_le _⟩ (Nat.le_of_ble_eq_true rfl) dX7_passes_1 ?_
  refine ab_iload_n C 1 rfl rfl dX7_passes_4 ?_
  refine ab_icmp_eq C 10 dX7_passes_5 (by decide) (fun c2 => ?_) (fun c2 => ?_)
  · replace hF := (if_pos c2).symm.trans hF
    refine ab_aload_n C 0 rfl rfl dX7_passes_10 ?_
    refine ab_dup C rfl dX7_passes_11 ?_
    refine ab_g7 (v := .int (S0.1 2)) C lf_X7_19 hB0.1 rfl dX7_passes_12 ?_
    refine ab_iconst (v := (1 : Int32)) C dX7_passes_15 (by decide) ?_
    refine ab_iadd C dX7_passes_16 ?_
    refine ab_p7 (ty := .int) C lf_X7_19 rfl (by decide +kernel) rfl rfl (Nat.le_of_ble_eq_true rfl) hB0.1 dX7_passes_17 (fun g3 eg3 og3 => ?_)
    have hB0 : X7_at g3 a0 (sI S0 2 ((S0.1 2) + (1 : Int32))) := X7_p2 hB0 eg3 og3
    have hFr : ∀ q, (q < a0 ∨ a0 + 2 ≤ q) → g3 q = h q := fun q u0 => (og3 q (by omega)).trans (hFr q u0)
    refine ab_iconst (v := (1 : Int32)) C dX7_passes_20 (by decide) ?_
    obtain rfl := Option.some.inj hF
    exact ab_iret C R0 rfl dX7_passes_21 ⟨rfl, rfl, hB0, hFr⟩
  · replace hF := (if_neg c2).symm.trans hF
    refine ab_iconst (v := (0 : Int32)) C dX7_passes_8 (by decide) ?_
    obtain rfl := Option.some.inj hF
    exact ab_iret C R0 rfl dX7_passes_9 ⟨rfl, rfl, hB0, hFr⟩
theorem dX7_readHolders_0 : decode cX7_readHolders 0 = .ok (.iconst 0, 1) := by decide +kernel
theorem dX7_readHolders_1 : decode cX7_readHolders 1 = .ok (.istore_n 2, 1) := by decide +kernel
theorem dX7_readHolders_2 : decode cX7_readHolders 2 = .ok (.iload_n 2, 1) := by decide +kernel
theorem dX7_readHolders_3 : decode cX7_readHolders 3 = .ok (.bipush 6, 2) := by decide +kernel
theorem dX7_readHolders_5 : decode cX7_readHolders 5 = .ok (.if_icmp .ge 42, 3) := by decide +kernel
theorem dX7_readHolders_8 : decode cX7_readHolders 8 = .ok (.aload_n 0, 1) := by decide +kernel
theorem dX7_readHolders_9 : decode cX7_readHolders 9 = .ok (.ldc 57, 2) := by decide +kernel
theorem dX7_readHolders_11 : decode cX7_readHolders 11 = .ok (.invokevirtual 59, 3) := by decide +kernel
theorem dX7_readHolders_14 : decode cX7_readHolders 14 = .ok (.istore_n 3, 1) := by decide +kernel
theorem dX7_readHolders_15 : decode cX7_readHolders 15 = .ok (.iload_n 3, 1) := by decide +kernel
theorem dX7_readHolders_16 : decode cX7_readHolders 16 = .ok (.ifCond .ge 6, 3) := by decide +kernel
theorem dX7_readHolders_19 : decode cX7_readHolders 19 = .ok (.goto 28, 3) := by decide +kernel
theorem dX7_readHolders_22 : decode cX7_readHolders 22 = .ok (.aload_n 1, 1) := by decide +kernel
theorem dX7_readHolders_23 : decode cX7_readHolders 23 = .ok (.getfield 63, 3) := by decide +kernel
theorem dX7_readHolders_26 : decode cX7_readHolders 26 = .ok (.iload_n 2, 1) := by decide +kernel
theorem dX7_readHolders_27 : decode cX7_readHolders 27 = .ok (.iconst 1, 1) := by decide +kernel
theorem dX7_readHolders_28 : decode cX7_readHolders 28 = .ok (.iload_n 3, 1) := by decide +kernel
theorem dX7_readHolders_29 : decode cX7_readHolders 29 = .ok (.iadd, 1) := by decide +kernel
theorem dX7_readHolders_30 : decode cX7_readHolders 30 = .ok (.iastore, 1) := by decide +kernel
theorem dX7_readHolders_31 : decode cX7_readHolders 31 = .ok (.iinc 2 1, 3) := by decide +kernel
theorem dX7_readHolders_34 : decode cX7_readHolders 34 = .ok (.aload_n 0, 1) := by decide +kernel
theorem dX7_readHolders_35 : decode cX7_readHolders 35 = .ok (.dup, 1) := by decide +kernel
theorem dX7_readHolders_36 : decode cX7_readHolders 36 = .ok (.getfield 19, 3) := by decide +kernel
theorem dX7_readHolders_39 : decode cX7_readHolders 39 = .ok (.iconst 1, 1) := by decide +kernel
theorem dX7_readHolders_40 : decode cX7_readHolders 40 = .ok (.iadd, 1) := by decide +kernel
theorem dX7_readHolders_41 : decode cX7_readHolders 41 = .ok (.putfield 19, 3) := by decide +kernel
theorem dX7_readHolders_44 : decode cX7_readHolders 44 = .ok (.goto (-42), 3) := by decide +kernel
theorem dX7_readHolders_47 : decode cX7_readHolders 47 = .ok (.aload_n 1, 1) := by decide +kernel
theorem dX7_readHolders_48 : decode cX7_readHolders 48 = .ok (.iload_n 2, 1) := by decide +kernel
theorem dX7_readHolders_49 : decode cX7_readHolders 49 = .ok (.putfield 66, 3) := by decide +kernel
theorem dX7_readHolders_52 : decode cX7_readHolders 52 = .ok (.iload_n 2, 1) := by decide +kernel
theorem dX7_readHolders_53 : decode cX7_readHolders 53 = .ok (.ifCond .le 7, 3) := by decide +kernel
theorem dX7_readHolders_56 : decode cX7_readHolders 56 = .ok (.iconst 1, 1) := by decide +kernel
theorem dX7_readHolders_57 : decode cX7_readHolders 57 = .ok (.goto 4, 3) := by decide +kernel
theorem dX7_readHolders_60 : decode cX7_readHolders 60 = .ok (.iconst 0, 1) := by decide +kernel
theorem dX7_readHolders_61 : decode cX7_readHolders 61 = .ok (.ireturn, 1) := by decide +kernel
def X7_readHolders_L2 : Nat → Int32 → Rec → Rec → Option (Int32 × Rec × Rec)
  | 0, _, _, _ => none
  | n2 + 1, v1, Z2, Z3 => if (6 : Int32) ≤ v1 then
      some (v1, Z2, Z3)
    else
      (X7_signAmong_0 Z2).bind fun v6 =>
      if 0 ≤ v6 then
        (wrI (Z3.2.1 1) 6 v1 ((1 : Int32) + v6)).bind fun w8 =>
        aLet (v1 + (1 : Int32)) fun v10 =>
        X7_readHolders_L2 n2 v10 (sI Z2 2 ((Z2.1 2) + (1 : Int32))) (sA Z3 1 w8)
      else
        some (v1, Z2, Z3)
def X7_readHolders (S0 : Rec) (S1 : Rec) : Option (Int32 × Rec × Rec) :=
  (X7_readHolders_L2 aFu (0 : Int32) S0 S1).bind fun e12 =>
  if e12.1 ≤ 0 then
    some ((0 : Int32), e12.2.1, (sI e12.2.2 0 e12.1))
  else
    some ((1 : Int32), e12.2.1, (sI e12.2.2 0 e12.1))
set_option maxRecDepth 100000 in
set_option maxHeartbeats 4000000 in
theorem X7_readHolders_ok (l : Launch) {h : aH} {nx : Nat} {a0 : Nat} {a1 : Nat} {S0 : Rec} {S1 : Rec} (hB0 : X7_at h a0 S0) (hB1 : X2_at h a1 S1) (hs01 : a0 + 2 ≤ a1 ∨ a1 + 8 ≤ a0) {r : Int32 × Rec × Rec} (hF : X7_readHolders S0 S1 = some r) : aOk l 9 0 0 yX7_readHolders cX7_readHolders 4 (some .boolean) [.ref a0, .ref a1] h nx (aMt (some (.int r.1)) nx (fun h1 => X7_at h1 a0 r.2.1 ∧ X2_at h1 a1 r.2.2 ∧ (∀ q, (q < a0 ∨ a0 + 2 ≤ q) → (q < a1 ∨ a1 + 8 ≤ q) → h1 q = h q))) := by
  refine aOk.of (by decide +kernel) (Nat.le_of_ble_eq_true rfl) (fun X G hX C R0 _ => ?_)
  subst hX
  show aV X G 4 0 [(0, .ref a0), (1, .ref a1)] [] h nx 0 0
  have hFr : ∀ q, (q < a0 ∨ a0 + 2 ≤ q) → (q < a1 ∨ a1 + 8 ≤ q) → h q = h q := fun _ _ _ => rfl
  rw [X7_readHolders] at hF
  refine ab_iconst (v := (0 : Int32)) C dX7_readHolders_0 (by decide) ?_
  refine ab_istore_n (lv' := [(2, .int (0 : Int32)), (0, .ref a0), (1, .ref a1)]) C dX7_readHolders_1 rfl (by decide) rfl ?_
  have L2 : ∀ (n2 : Nat) (v1 : Int32) (Z2 : Rec) (Z3 : Rec) (g4 : aH), (X7_at g4 a0 Z2) → (X2_at g4 a1 Z3) → (∀ q, (q < a0 ∨ a0 + 2 ≤ q) → (q < a1 ∨ a1 + 8 ≤ q) → g4 q = h q) → ∀ (res2 : Int32 × Rec × Rec), X7_readHolders_L2 n2 v1 Z2 Z3 = some res2 → (∀ (q9 : aH), (X7_at q9 a0 res2.2.1) → (X2_at q9 a1 res2.2.2) → (∀ q, (q < a0 ∨ a0 + 2 ≤ q) → (q < a1 ∨ a1 + 8 ≤ q) → q9 q = h q) → aV X G 4 47 [(1, .ref a1), (2, .int res2.1)] [] q9 nx 0 0) → aV X G 4 2 [(0, .ref a0), (1, .ref a1), (2, .int v1)] [] g4 nx 0 0 := by
    intro n2
    induction n2 with
    | zero => intro v1 Z2 Z3 g4 hB0 hB1 hFr res2 hF KX2; cases (show (none : Option (Int32 × Rec × Rec)) = some res2 from hF)
    | succ n2 ih2 =>
      intro v1 Z2 Z3 g4 hB0 hB1 hFr res2 hF KX2
      rw [X7_readHolders_L2] at hF
      refine ab_iload_n C 2 rfl rfl dX7_readHolders_2 ?_
      refine ab_bipush (v := (6 : Int32)) C dX7_readHolders_3 (by decide) ?_
      refine ab_icmp_ge C 47 dX7_readHolders_5 (by decide) (fun c5 => ?_) (fun c5 => ?_)
      · replace hF := (if_pos c5).symm.trans hF
        obtain rfl := Option.some.inj hF
        refine aV.sub (lv' := [(1, .ref a1), (2, .int v1)]) [1, 2] rfl ?_
        exact KX2 g4 hB0 hB1 hFr
      · replace hF := (if_neg c5).symm.trans hF
        refine ab_aload_n C 0 rfl rfl dX7_readHolders_8 ?_
        refine ab_text0 C dX7_readHolders_9 ?_
        obtain ⟨v6, hxv6, hF⟩ := Option.bind_eq_some_iff.mp hF
        refine ab_cVR (v := .int v6) (st := []) C lm_X7_59 (X7_signAmong_0_ok (xl X) hB0 (r := v6) hxv6) [.ref 0] rfl hB0.1 rfl rfl rfl (by decide) ⟨Nat.zero_le _, Nat.zero_le _⟩ (Nat.le_of_ble_eq_true rfl) dX7_readHolders_11 ?_
        refine ab_istore_n (lv' := [(3, .int v6), (0, .ref a0), (1, .ref a1), (2, .int v1)]) C dX7_readHolders_14 rfl (by decide) rfl ?_
        refine ab_iload_n C 0 rfl rfl dX7_readHolders_15 ?_
        refine ab_if_ge C 22 dX7_readHolders_16 (by decide) (fun c7 => ?_) (fun c7 => ?_)
        · replace hF := (if_pos c7).symm.trans hF
          refine ab_aload_n C 2 rfl rfl dX7_readHolders_22 ?_
          refine ab_g2 (v := .ref (a1 + 1)) C lf_X7_63 hB1.1 rfl dX7_readHolders_23 ?_
          refine ab_iload_n C 3 rfl rfl dX7_readHolders_26 ?_
          refine ab_iconst (v := (1 : Int32)) C dX7_readHolders_27 (by decide) ?_
          refine ab_iload_n C 0 rfl rfl dX7_readHolders_28 ?_
          refine ab_iadd C dX7_readHolders_29 ?_
          obtain ⟨w8, hxw8, hF⟩ := Option.bind_eq_some_iff.mp hF
          refine ab_iast C (X2_r1 hB1) hxw8 dX7_readHolders_30 (fun g9 eg9 og9 => ?_)
          have hB1 : X2_at g9 a1 (sA Z3 1 w8) := X2_w1 hB1 eg9 og9
          have hB0 : X7_at g9 a0 Z2 := X7_off hB0 (fun q i1 i2 => og9 q (by omega))
          have hFr : ∀ q, (q < a0 ∨ a0 + 2 ≤ q) → (q < a1 ∨ a1 + 8 ≤ q) → g9 q = h q := fun q u0 u1 => (og9 q (by omega)).trans (hFr q u0 u1)
          obtain ⟨v10, qv10⟩ : ∃ y : Int32, y = (v1 + (1 : Int32)) := ⟨_, rfl⟩
          replace hF := aLet_e hF v10 qv10
          refine ab_iinc (lv' := [(2, .int v10), (3, .int v6), (0, .ref a0), (1, .ref a1)]) C 3 rfl dX7_readHolders_31 (by rw [qv10]; rfl) (by decide) rfl ?_
          refine ab_aload_n C 2 rfl rfl dX7_readHolders_34 ?_
          refine ab_dup C rfl dX7_readHolders_35 ?_
          refine ab_g7 (v := .int (Z2.1 2)) C lf_X7_19 hB0.1 rfl dX7_readHolders_36 ?_
          refine ab_iconst (v := (1 : Int32)) C dX7_readHolders_39 (by decide) ?_
          refine ab_iadd C dX7_readHolders_40 ?_
          refine ab_p7 (ty := .int) C lf_X7_19 rfl (by decide +kernel) rfl rfl (Nat.le_of_ble_eq_true rfl) hB0.1 dX7_readHolders_41 (fun g11 eg11 og11 => ?_)
          have hB0 : X7_at g11 a0 (sI Z2 2 ((Z2.1 2) + (1 : Int32))) := X7_p2 hB0 eg11 og11
          have hB1 : X2_at g11 a1 (sA Z3 1 w8) := X2_off hB1 (fun q i1 i2 => og11 q (by omega))
          have hFr : ∀ q, (q < a0 ∨ a0 + 2 ≤ q) → (q < a1 ∨ a1 + 8 ≤ q) → g11 q = h q := fun q u0 u1 => (og11 q (by omega)).trans (hFr q u0 u1)
          refine ab_goto C 2 dX7_readHolders_44 (by decide) ?_
          refine aV.sub (lv' := [(0, .ref a0), (1, .ref a1), (2, .int v10)]) [2, 3, 0] rfl ?_
          exact ih2 v10 (sI Z2 2 ((Z2.1 2) + (1 : Int32))) (sA Z3 1 w8) g11 hB0 hB1 hFr res2 hF KX2
        · replace hF := (if_neg c7).symm.trans hF
          refine ab_goto C 47 dX7_readHolders_19 (by decide) ?_
          obtain rfl := Option.some.inj hF
          refine aV.sub (lv' := [(1, .ref a1), (2, .int v1)]) [2, 3] rfl ?_
          exact KX2 g4 hB0 hB1 hFr
  refine aV.sub (lv' := [(0, .ref a0), (1, .ref a1), (2, .int (0 : Int32))]) [1, 2, 0] rfl ?_
  obtain ⟨e12, he12, hF⟩ := Option.bind_eq_some_iff.mp hF
  refine L2 aFu (0 : Int32) S0 S1 h hB0 hB1 hFr e12 he12 (fun g13 hB0 hB1 hFr => ?_)
  refine ab_aload_n C 0 rfl rfl dX7_readHolders_47 ?_
  refine ab_iload_n C 1 rfl rfl dX7_readHolders_48 ?_
  refine ab_p2 (ty := .int) C lf_X7_66 rfl (by decide +kernel) rfl rfl (Nat.le_of_ble_eq_true rfl) hB1.1 dX7_readHolders_49 (fun g14 eg14 og14 => ?_)
  have hB1 : X2_at g14 a1 (sI e12.2.2 0 e12.1) := X2_p0 hB1 eg14 og14
  have hB0 : X7_at g14 a0 e12.2.1 := X7_off hB0 (fun q i1 i2 => og14 q (by omega))
  have hFr : ∀ q, (q < a0 ∨ a0 + 2 ≤ q) → (q < a1 ∨ a1 + 8 ≤ q) → g14 q = h q := fun q u0 u1 => (og14 q (by omega)).trans (hFr q u0 u1)
  refine ab_iload_n C 1 rfl rfl dX7_readHolders_52 ?_
  refine ab_if_le C 60 dX7_readHolders_53 (by decide) (fun c15 => ?_) (fun c15 => ?_)
  · replace hF := (if_pos c15).symm.trans hF
    refine ab_iconst (v := (0 : Int32)) C dX7_readHolders_60 (by decide) ?_
    obtain rfl := Option.some.inj hF
    exact ab_iret C R0 rfl dX7_readHolders_61 ⟨rfl, rfl, hB0, hB1, hFr⟩
  · replace hF := (if_neg c15).symm.trans hF
    refine ab_iconst (v := (1 : Int32)) C dX7_readHolders_56 (by decide) ?_
    refine ab_goto C 61 dX7_readHolders_57 (by decide) ?_
    obtain rfl := Option.some.inj hF
    exact ab_iret C R0 rfl dX7_readHolders_61 ⟨rfl, rfl, hB0, hB1, hFr⟩
theorem dX7_readRow_0 : decode cX7_readRow 0 = .ok (.iload_n 2, 1) := by decide +kernel
theorem dX7_readRow_1 : decode cX7_readRow 1 = .ok (.ifCond .ne 8, 3) := by decide +kernel
theorem dX7_readRow_4 : decode cX7_readRow 4 = .ok (.bipush 6, 2) := by decide +kernel
theorem dX7_readRow_6 : decode cX7_readRow 6 = .ok (.goto 7, 3) := by decide +kernel
theorem dX7_readRow_9 : decode cX7_readRow 9 = .ok (.aload_n 1, 1) := by decide +kernel
theorem dX7_readRow_10 : decode cX7_readRow 10 = .ok (.getfield 76, 3) := by decide +kernel
theorem dX7_readRow_13 : decode cX7_readRow 13 = .ok (.istore_n 3, 1) := by decide +kernel
theorem dX7_readRow_14 : decode cX7_readRow 14 = .ok (.iconst 0, 1) := by decide +kernel
theorem dX7_readRow_15 : decode cX7_readRow 15 = .ok (.istore 4, 2) := by decide +kernel
theorem dX7_readRow_17 : decode cX7_readRow 17 = .ok (.iload 4, 2) := by decide +kernel
theorem dX7_readRow_19 : decode cX7_readRow 19 = .ok (.iload_n 3, 1) := by decide +kernel
theorem dX7_readRow_20 : decode cX7_readRow 20 = .ok (.if_icmp .ge 61, 3) := by decide +kernel
theorem dX7_readRow_23 : decode cX7_readRow 23 = .ok (.aload_n 0, 1) := by decide +kernel
theorem dX7_readRow_24 : decode cX7_readRow 24 = .ok (.ldc 79, 2) := by decide +kernel
theorem dX7_readRow_26 : decode cX7_readRow 26 = .ok (.invokevirtual 59, 3) := by decide +kernel
theorem dX7_readRow_29 : decode cX7_readRow 29 = .ok (.istore 5, 2) := by decide +kernel
theorem dX7_readRow_31 : decode cX7_readRow 31 = .ok (.iload 5, 2) := by decide +kernel
theorem dX7_readRow_33 : decode cX7_readRow 33 = .ok (.ifCond .lt 48, 3) := by decide +kernel
theorem dX7_readRow_36 : decode cX7_readRow 36 = .ok (.iload 5, 2) := by decide +kernel
theorem dX7_readRow_38 : decode cX7_readRow 38 = .ok (.bipush 6, 2) := by decide +kernel
theorem dX7_readRow_40 : decode cX7_readRow 40 = .ok (.if_icmp .lt 6, 3) := by decide +kernel
theorem dX7_readRow_43 : decode cX7_readRow 43 = .ok (.goto 38, 3) := by decide +kernel
theorem dX7_readRow_46 : decode cX7_readRow 46 = .ok (.aload_n 1, 1) := by decide +kernel
theorem dX7_readRow_47 : decode cX7_readRow 47 = .ok (.getfield 81, 3) := by decide +kernel
theorem dX7_readRow_50 : decode cX7_readRow 50 = .ok (.iload 5, 2) := by decide +kernel
theorem dX7_readRow_52 : decode cX7_readRow 52 = .ok (.dup2, 1) := by decide +kernel
theorem dX7_readRow_53 : decode cX7_readRow 53 = .ok (.laload, 1) := by decide +kernel
theorem dX7_readRow_54 : decode cX7_readRow 54 = .ok (.lconst 1, 1) := by decide +kernel
theorem dX7_readRow_55 : decode cX7_readRow 55 = .ok (.bipush 8, 2) := by decide +kernel
theorem dX7_readRow_57 : decode cX7_readRow 57 = .ok (.iload_n 2, 1) := by decide +kernel
theorem dX7_readRow_58 : decode cX7_readRow 58 = .ok (.imul, 1) := by decide +kernel
theorem dX7_readRow_59 : decode cX7_readRow 59 = .ok (.iload 4, 2) := by decide +kernel
theorem dX7_readRow_61 : decode cX7_readRow 61 = .ok (.iadd, 1) := by decide +kernel
theorem dX7_readRow_62 : decode cX7_readRow 62 = .ok (.lshl, 1) := by decide +kernel
theorem dX7_readRow_63 : decode cX7_readRow 63 = .ok (.lor, 1) := by decide +kernel
theorem dX7_readRow_64 : decode cX7_readRow 64 = .ok (.lastore, 1) := by decide +kernel
theorem dX7_readRow_65 : decode cX7_readRow 65 = .ok (.iinc 4 1, 3) := by decide +kernel
theorem dX7_readRow_68 : decode cX7_readRow 68 = .ok (.aload_n 0, 1) := by decide +kernel
theorem dX7_readRow_69 : decode cX7_readRow 69 = .ok (.dup, 1) := by decide +kernel
theorem dX7_readRow_70 : decode cX7_readRow 70 = .ok (.getfield 19, 3) := by decide +kernel
theorem dX7_readRow_73 : decode cX7_readRow 73 = .ok (.iconst 1, 1) := by decide +kernel
theorem dX7_readRow_74 : decode cX7_readRow 74 = .ok (.iadd, 1) := by decide +kernel
theorem dX7_readRow_75 : decode cX7_readRow 75 = .ok (.putfield 19, 3) := by decide +kernel
theorem dX7_readRow_78 : decode cX7_readRow 78 = .ok (.goto (-61), 3) := by decide +kernel
theorem dX7_readRow_81 : decode cX7_readRow 81 = .ok (.iload_n 2, 1) := by decide +kernel
theorem dX7_readRow_82 : decode cX7_readRow 82 = .ok (.ifCond .ne 9, 3) := by decide +kernel
theorem dX7_readRow_85 : decode cX7_readRow 85 = .ok (.aload_n 1, 1) := by decide +kernel
theorem dX7_readRow_86 : decode cX7_readRow 86 = .ok (.iload 4, 2) := by decide +kernel
theorem dX7_readRow_88 : decode cX7_readRow 88 = .ok (.putfield 76, 3) := by decide +kernel
theorem dX7_readRow_91 : decode cX7_readRow 91 = .ok (.iload 4, 2) := by decide +kernel
theorem dX7_readRow_93 : decode cX7_readRow 93 = .ok (.ifCond .le 16, 3) := by decide +kernel
theorem dX7_readRow_96 : decode cX7_readRow 96 = .ok (.iload 4, 2) := by decide +kernel
theorem dX7_readRow_98 : decode cX7_readRow 98 = .ok (.aload_n 1, 1) := by decide +kernel
theorem dX7_readRow_99 : decode cX7_readRow 99 = .ok (.getfield 76, 3) := by decide +kernel
theorem dX7_readRow_102 : decode cX7_readRow 102 = .ok (.if_icmp .ne 7, 3) := by decide +kernel
theorem dX7_readRow_105 : decode cX7_readRow 105 = .ok (.iconst 1, 1) := by decide +kernel
theorem dX7_readRow_106 : decode cX7_readRow 106 = .ok (.goto 4, 3) := by decide +kernel
theorem dX7_readRow_109 : decode cX7_readRow 109 = .ok (.iconst 0, 1) := by decide +kernel
theorem dX7_readRow_110 : decode cX7_readRow 110 = .ok (.ireturn, 1) := by decide +kernel
def X7_readRow_L17 (v1 : Int32) (x2 : Int32) : Nat → Int32 → Rec → Rec → Option (Int32 × Rec × Rec)
  | 0, _, _, _ => none
  | n17 + 1, v2, Z3, Z4 => if v1 ≤ v2 then
      some (v2, Z3, Z4)
    else
      (X7_signAmong_1 Z3).bind fun v7 =>
      if v7 < 0 then
        some (v2, Z3, Z4)
      else
        if v7 < (6 : Int32) then
          (rdL (Z4.2.2 9) 6 v7).bind fun v10 =>
          (wrL (Z4.2.2 9) 6 v7 (v10 ||| ((1 : Int64) <<< ((((8 : Int32) * x2) + v2).toInt64 &&& 63)))).bind fun w11 =>
          aLet (v2 + (1 : Int32)) fun v13 =>
          X7_readRow_L17 v1 x2 n17 v13 (sI Z3 2 ((Z3.1 2) + (1 : Int32))) (sL Z4 9 w11)
        else
          some (v2, Z3, Z4)
def X7_readRow_J91 (e15 : (Int32 × Rec × Rec)) (Z17 : Rec) : Option (Int32 × Rec × Rec) :=
  if e15.1 ≤ 0 then
    some ((0 : Int32), e15.2.1, Z17)
  else
    if e15.1 = (Z17.1 3) then
      some ((1 : Int32), e15.2.1, Z17)
    else
      some ((0 : Int32), e15.2.1, Z17)
def X7_readRow_J13 (x2 : Int32) (S0 : Rec) (S1 : Rec) (v1 : Int32) : Option (Int32 × Rec × Rec) :=
  (X7_readRow_L17 v1 x2 aFu (0 : Int32) S0 S1).bind fun e15 =>
  if x2 = 0 then
    X7_readRow_J91 e15 (sI e15.2.2 3 e15.1)
  else
    X7_readRow_J91 e15 e15.2.2
def X7_readRow (S0 : Rec) (S1 : Rec) (x2 : Int32) : Option (Int32 × Rec × Rec) :=
  if x2 = 0 then
    X7_readRow_J13 x2 S0 S1 (6 : Int32)
  else
    X7_readRow_J13 x2 S0 S1 (S1.1 3)
set_option maxRecDepth 100000 in
set_option maxHeartbeats 4000000 in
theorem X7_readRow_ok (l : Launch) {h : aH} {nx : Nat} {a0 : Nat} {a1 : Nat} {S0 : Rec} {S1 : Rec} {x2 : Int32} (hB0 : X7_at h a0 S0) (hB1 : X2_at h a1 S1) (hs01 : a0 + 2 ≤ a1 ∨ a1 + 8 ≤ a0) {r : Int32 × Rec × Rec} (hF : X7_readRow S0 S1 x2 = some r) : aOk l 9 0 0 yX7_readRow cX7_readRow 6 (some .boolean) [.ref a0, .ref a1, .int x2] h nx (aMt (some (.int r.1)) nx (fun h1 => X7_at h1 a0 r.2.1 ∧ X2_at h1 a1 r.2.2 ∧ (∀ q, (q < a0 ∨ a0 + 2 ≤ q) → (q < a1 ∨ a1 + 8 ≤ q) → h1 q = h q))) := by
  refine aOk.of (by decide +kernel) (Nat.le_of_ble_eq_true rfl) (fun X G hX C R0 _ => ?_)
  subst hX
  show aV X G 6 0 [(0, .ref a0), (1, .ref a1), (2, .int x2)] [] h nx 0 0
  have hFr : ∀ q, (q < a0 ∨ a0 + 2 ≤ q) → (q < a1 ∨ a1 + 8 ≤ q) → h q = h q := fun _ _ _ => rfl
  rw [X7_readRow] at hF
  refine ab_iload_n C 2 rfl rfl dX7_readRow_0 ?_
  have J13 : ∀ (v1 : Int32), X7_readRow_J13 x2 S0 S1 v1 = some r → aV X G 6 13 [(0, .ref a0), (1, .ref a1), (2, .int x2)] [.int v1] h nx 0 0 := by
    intro v1 hF
    rw [X7_readRow_J13] at hF
    refine ab_istore_n (lv' := [(3, .int v1), (0, .ref a0), (1, .ref a1), (2, .int x2)]) C dX7_readRow_13 rfl (by decide) rfl ?_
    refine ab_iconst (v := (0 : Int32)) C dX7_readRow_14 (by decide) ?_
    refine ab_istore (lv' := [(4, .int (0 : Int32)), (3, .int v1), (0, .ref a0), (1, .ref a1), (2, .int x2)]) C dX7_readRow_15 (by decide) rfl ?_
    have L17 : ∀ (n17 : Nat) (v2 : Int32) (Z3 : Rec) (Z4 : Rec) (g5 : aH), (X7_at g5 a0 Z3) → (X2_at g5 a1 Z4) → (∀ q, (q < a0 ∨ a0 + 2 ≤ q) → (q < a1 ∨ a1 + 8 ≤ q) → g5 q = h q) → ∀ (res17 : Int32 × Rec × Rec), X7_readRow_L17 v1 x2 n17 v2 Z3 Z4 = some res17 → (∀ (q9 : aH), (X7_at q9 a0 res17.2.1) → (X2_at q9 a1 res17.2.2) → (∀ q, (q < a0 ∨ a0 + 2 ≤ q) → (q < a1 ∨ a1 + 8 ≤ q) → q9 q = h q) → aV X G 6 81 [(1, .ref a1), (2, .int x2), (4, .int res17.1)] [] q9 nx 0 0) → aV X G 6 17 [(0, .ref a0), (1, .ref a1), (2, .int x2), (3, .int v1), (4, .int v2)] [] g5 nx 0 0 := by
      intro n17
      induction n17 with
      | zero => intro v2 Z3 Z4 g5 hB0 hB1 hFr res17 hF KX17; cases (show (none : Option (Int32 × Rec × Rec)) = some res17 from hF)
      | succ n17 ih17 =>
        intro v2 Z3 Z4 g5 hB0 hB1 hFr res17 hF KX17
        rw [X7_readRow_L17] at hF
        refine ab_iload C 4 rfl dX7_readRow_17 ?_
        refine ab_iload_n C 3 rfl rfl dX7_readRow_19 ?_
        refine ab_icmp_ge C 81 dX7_readRow_20 (by decide) (fun c6 => ?_) (fun c6 => ?_)
        · replace hF := (if_pos c6).symm.trans hF
          obtain rfl := Option.some.inj hF
          refine aV.sub (lv' := [(1, .ref a1), (2, .int x2), (4, .int v2)]) [1, 2, 4] rfl ?_
          exact KX17 g5 hB0 hB1 hFr
        · replace hF := (if_neg c6).symm.trans hF
          refine ab_aload_n C 0 rfl rfl dX7_readRow_23 ?_
          refine ab_text1 C dX7_readRow_24 ?_
          obtain ⟨v7, hxv7, hF⟩ := Option.bind_eq_some_iff.mp hF
          refine ab_cVR (v := .int v7) (st := []) C lm_X7_59 (X7_signAmong_1_ok (xl X) hB0 (r := v7) hxv7) [.ref 1] rfl hB0.1 rfl rfl rfl (by decide) ⟨Nat.zero_le _, Nat.zero_le _⟩ (Nat.le_of_ble_eq_true rfl) dX7_readRow_26 ?_
          refine ab_istore (lv' := [(5, .int v7), (0, .ref a0), (1, .ref a1), (2, .int x2), (3, .int v1), (4, .int v2)]) C dX7_readRow_29 (by decide) rfl ?_
          refine ab_iload C 0 rfl dX7_readRow_31 ?_
          refine ab_if_lt C 81 dX7_readRow_33 (by decide) (fun c8 => ?_) (fun c8 => ?_)
          · replace hF := (if_pos c8).symm.trans hF
            obtain rfl := Option.some.inj hF
            refine aV.sub (lv' := [(1, .ref a1), (2, .int x2), (4, .int v2)]) [2, 3, 5] rfl ?_
            exact KX17 g5 hB0 hB1 hFr
          · replace hF := (if_neg c8).symm.trans hF
            refine ab_iload C 0 rfl dX7_readRow_36 ?_
            refine ab_bipush (v := (6 : Int32)) C dX7_readRow_38 (by decide) ?_
            refine ab_icmp_lt C 46 dX7_readRow_40 (by decide) (fun c9 => ?_) (fun c9 => ?_)
            · replace hF := (if_pos c9).symm.trans hF
              refine ab_aload_n C 2 rfl rfl dX7_readRow_46 ?_
              refine ab_g2 (v := .ref (a1 + 5)) C lf_X7_81 hB1.1 rfl dX7_readRow_47 ?_
              refine ab_iload C 0 rfl dX7_readRow_50 ?_
              refine ab_dup2_11 C rfl rfl dX7_readRow_52 ?_
              obtain ⟨v10, hxv10, hF⟩ := Option.bind_eq_some_iff.mp hF
              refine ab_lald C (X2_r9 hB1) hxv10 dX7_readRow_53 ?_
              refine ab_lconst (v := (1 : Int64)) C dX7_readRow_54 (by decide) ?_
              refine ab_bipush (v := (8 : Int32)) C dX7_readRow_55 (by decide) ?_
              refine ab_iload_n C 3 rfl rfl dX7_readRow_57 ?_
              refine ab_imul C dX7_readRow_58 ?_
              refine ab_iload C 5 rfl dX7_readRow_59 ?_
              refine ab_iadd C dX7_readRow_61 ?_
              refine ab_lshl C dX7_readRow_62 ?_
              refine ab_lor C dX7_readRow_63 ?_
              obtain ⟨w11, hxw11, hF⟩ := Option.bind_eq_some_iff.mp hF
              refine ab_last C (X2_r9 hB1) hxw11 dX7_readRow_64 (fun g12 eg12 og12 => ?_)
              have hB1 : X2_at g12 a1 (sL Z4 9 w11) := X2_w9 hB1 eg12 og12
              have hB0 : X7_at g12 a0 Z3 := X7_off hB0 (fun q i1 i2 => og12 q (by omega))
              have hFr : ∀ q, (q < a0 ∨ a0 + 2 ≤ q) → (q < a1 ∨ a1 + 8 ≤ q) → g12 q = h q := fun q u0 u1 => (og12 q (by omega)).trans (hFr q u0 u1)
              obtain ⟨v13, qv13⟩ : ∃ y : Int32, y = (v2 + (1 : Int32)) := ⟨_, rfl⟩
              replace hF := aLet_e hF v13 qv13
              refine ab_iinc (lv' := [(4, .int v13), (5, .int v7), (0, .ref a0), (1, .ref a1), (2, .int x2), (3, .int v1)]) C 5 rfl dX7_readRow_65 (by rw [qv13]; rfl) (by decide) rfl ?_
              refine ab_aload_n C 2 rfl rfl dX7_readRow_68 ?_
              refine ab_dup C rfl dX7_readRow_69 ?_
              refine ab_g7 (v := .int (Z3.1 2)) C lf_X7_19 hB0.1 rfl dX7_readRow_70 ?_
              refine ab_iconst (v := (1 : Int32)) C dX7_readRow_73 (by decide) ?_
              refine ab_iadd C dX7_readRow_74 ?_
              refine ab_p7 (ty := .int) C lf_X7_19 rfl (by decide +kernel) rfl rfl (Nat.le_of_ble_eq_true rfl) hB0.1 dX7_readRow_75 (fun g14 eg14 og14 => ?_)
              have hB0 : X7_at g14 a0 (sI Z3 2 ((Z3.1 2) + (1 : Int32))) := X7_p2 hB0 eg14 og14
              have hB1 : X2_at g14 a1 (sL Z4 9 w11) := X2_off hB1 (fun q i1 i2 => og14 q (by omega))
              have hFr : ∀ q, (q < a0 ∨ a0 + 2 ≤ q) → (q < a1 ∨ a1 + 8 ≤ q) → g14 q = h q := fun q u0 u1 => (og14 q (by omega)).trans (hFr q u0 u1)
              refine ab_goto C 17 dX7_readRow_78 (by decide) ?_
              refine aV.sub (lv' := [(0, .ref a0), (1, .ref a1), (2, .int x2), (3, .int v1), (4, .int v13)]) [2, 3, 4, 5, 0] rfl ?_
              exact ih17 v13 (sI Z3 2 ((Z3.1 2) + (1 : Int32))) (sL Z4 9 w11) g14 hB0 hB1 hFr res17 hF KX17
            · replace hF := (if_neg c9).symm.trans hF
              refine ab_goto C 81 dX7_readRow_43 (by decide) ?_
              obtain rfl := Option.some.inj hF
              refine aV.sub (lv' := [(1, .ref a1), (2, .int x2), (4, .int v2)]) [2, 3, 5] rfl ?_
              exact KX17 g5 hB0 hB1 hFr
    refine aV.sub (lv' := [(0, .ref a0), (1, .ref a1), (2, .int x2), (3, .int v1), (4, .int (0 : Int32))]) [2, 3, 4, 1, 0] rfl ?_
    obtain ⟨e15, he15, hF⟩ := Option.bind_eq_some_iff.mp hF
    refine L17 aFu (0 : Int32) S0 S1 h hB0 hB1 hFr e15 he15 (fun g16 hB0 hB1 hFr => ?_)
    refine ab_iload_n C 1 rfl rfl dX7_readRow_81 ?_
    have J91 : ∀ (Z17 : Rec) (g18 : aH), (X7_at g18 a0 e15.2.1) → (X2_at g18 a1 Z17) → (∀ q, (q < a0 ∨ a0 + 2 ≤ q) → (q < a1 ∨ a1 + 8 ≤ q) → g18 q = h q) → X7_readRow_J91 e15 Z17 = some r → aV X G 6 91 [(1, .ref a1), (4, .int e15.1)] [] g18 nx 0 0 := by
      intro Z17 g18 hB0 hB1 hFr hF
      rw [X7_readRow_J91] at hF
      refine ab_iload C 1 rfl dX7_readRow_91 ?_
      refine ab_if_le C 109 dX7_readRow_93 (by decide) (fun c19 => ?_) (fun c19 => ?_)
      · replace hF := (if_pos c19).symm.trans hF
        refine ab_iconst (v := (0 : Int32)) C dX7_readRow_109 (by decide) ?_
        obtain rfl := Option.some.inj hF
        exact ab_iret C R0 rfl dX7_readRow_110 ⟨rfl, rfl, hB0, hB1, hFr⟩
      · replace hF := (if_neg c19).symm.trans hF
        refine ab_iload C 1 rfl dX7_readRow_96 ?_
        refine ab_aload_n C 0 rfl rfl dX7_readRow_98 ?_
        refine ab_g2 (v := .int (Z17.1 3)) C lf_X7_76 hB1.1 rfl dX7_readRow_99 ?_
        refine ab_icmp_ne C 109 dX7_readRow_102 (by decide) (fun c20 => ?_) (fun c20 => ?_)
        · replace hF := (if_neg c20).symm.trans hF
          refine ab_iconst (v := (0 : Int32)) C dX7_readRow_109 (by decide) ?_
          obtain rfl := Option.some.inj hF
          exact ab_iret C R0 rfl dX7_readRow_110 ⟨rfl, rfl, hB0, hB1, hFr⟩
        · replace hF := (if_pos c20).symm.trans hF
          refine ab_iconst (v := (1 : Int32)) C dX7_readRow_105 (by decide) ?_
          refine ab_goto C 110 dX7_readRow_106 (by decide) ?_
          obtain rfl := Option.some.inj hF
          exact ab_iret C R0 rfl dX7_readRow_110 ⟨rfl, rfl, hB0, hB1, hFr⟩
    refine ab_if_ne C 91 dX7_readRow_82 (by decide) (fun c21 => ?_) (fun c21 => ?_)
    · replace hF := (if_neg c21).symm.trans hF
      refine aV.sub (lv' := [(1, .ref a1), (4, .int e15.1)]) [0, 2] rfl ?_
      exact J91 e15.2.2 g16 hB0 hB1 hFr hF
    · replace hF := (if_pos c21).symm.trans hF
      refine ab_aload_n C 0 rfl rfl dX7_readRow_85 ?_
      refine ab_iload C 2 rfl dX7_readRow_86 ?_
      refine ab_p2 (ty := .int) C lf_X7_76 rfl (by decide +kernel) rfl rfl (Nat.le_of_ble_eq_true rfl) hB1.1 dX7_readRow_88 (fun g22 eg22 og22 => ?_)
      have hB1 : X2_at g22 a1 (sI e15.2.2 3 e15.1) := X2_p3 hB1 eg22 og22
      have hB0 : X7_at g22 a0 e15.2.1 := X7_off hB0 (fun q i1 i2 => og22 q (by omega))
      have hFr : ∀ q, (q < a0 ∨ a0 + 2 ≤ q) → (q < a1 ∨ a1 + 8 ≤ q) → g22 q = h q := fun q u0 u1 => (og22 q (by omega)).trans (hFr q u0 u1)
      refine aV.sub (lv' := [(1, .ref a1), (4, .int e15.1)]) [0, 2] rfl ?_
      exact J91 (sI e15.2.2 3 e15.1) g22 hB0 hB1 hFr hF
  refine ab_if_ne C 9 dX7_readRow_1 (by decide) (fun c23 => ?_) (fun c23 => ?_)
  · replace hF := (if_neg c23).symm.trans hF
    refine ab_aload_n C 1 rfl rfl dX7_readRow_9 ?_
    refine ab_g2 (v := .int (S1.1 3)) C lf_X7_76 hB1.1 rfl dX7_readRow_10 ?_
    exact J13 (S1.1 3) hF
  · replace hF := (if_pos c23).symm.trans hF
    refine ab_bipush (v := (6 : Int32)) C dX7_readRow_4 (by decide) ?_
    refine ab_goto C 13 dX7_readRow_6 (by decide) ?_
    exact J13 (6 : Int32) hF
theorem dX7_readCells_0 : decode cX7_readCells 0 = .ok (.iconst 0, 1) := by decide +kernel
theorem dX7_readCells_1 : decode cX7_readCells 1 = .ok (.istore_n 2, 1) := by decide +kernel
theorem dX7_readCells_2 : decode cX7_readCells 2 = .ok (.aload_n 0, 1) := by decide +kernel
theorem dX7_readCells_3 : decode cX7_readCells 3 = .ok (.aload_n 1, 1) := by decide +kernel
theorem dX7_readCells_4 : decode cX7_readCells 4 = .ok (.iload_n 2, 1) := by decide +kernel
theorem dX7_readCells_5 : decode cX7_readCells 5 = .ok (.invokevirtual 69, 3) := by decide +kernel
theorem dX7_readCells_8 : decode cX7_readCells 8 = .ok (.ifCond .ne 5, 3) := by decide +kernel
theorem dX7_readCells_11 : decode cX7_readCells 11 = .ok (.iconst 0, 1) := by decide +kernel
theorem dX7_readCells_12 : decode cX7_readCells 12 = .ok (.ireturn, 1) := by decide +kernel
theorem dX7_readCells_13 : decode cX7_readCells 13 = .ok (.iinc 2 1, 3) := by decide +kernel
theorem dX7_readCells_16 : decode cX7_readCells 16 = .ok (.iload_n 2, 1) := by decide +kernel
theorem dX7_readCells_17 : decode cX7_readCells 17 = .ok (.bipush 6, 2) := by decide +kernel
theorem dX7_readCells_19 : decode cX7_readCells 19 = .ok (.if_icmp .ge 12, 3) := by decide +kernel
theorem dX7_readCells_22 : decode cX7_readCells 22 = .ok (.aload_n 0, 1) := by decide +kernel
theorem dX7_readCells_23 : decode cX7_readCells 23 = .ok (.bipush 47, 2) := by decide +kernel
theorem dX7_readCells_25 : decode cX7_readCells 25 = .ok (.invokevirtual 27, 3) := by decide +kernel
theorem dX7_readCells_28 : decode cX7_readCells 28 = .ok (.ifCond .ne (-26), 3) := by decide +kernel
theorem dX7_readCells_31 : decode cX7_readCells 31 = .ok (.aload_n 1, 1) := by decide +kernel
theorem dX7_readCells_32 : decode cX7_readCells 32 = .ok (.iload_n 2, 1) := by decide +kernel
theorem dX7_readCells_33 : decode cX7_readCells 33 = .ok (.putfield 73, 3) := by decide +kernel
theorem dX7_readCells_36 : decode cX7_readCells 36 = .ok (.iconst 1, 1) := by decide +kernel
theorem dX7_readCells_37 : decode cX7_readCells 37 = .ok (.ireturn, 1) := by decide +kernel
def X7_readCells_L2 : Nat → Int32 → Rec → Rec → Option ((Int32 × Rec × Rec) ⊕ (Int32 × Rec × Rec))
  | 0, _, _, _ => none
  | n2 + 1, v1, Z2, Z3 => (X7_readRow Z2 Z3 v1).bind fun v5 =>
    if v5.1 = 0 then
      some (.inl ((0 : Int32), v5.2.1, v5.2.2))
    else
      aLet (v1 + (1 : Int32)) fun v8 =>
      if (6 : Int32) ≤ v8 then
        some (.inr (v8, v5.2.1, v5.2.2))
      else
        (X7_passes v5.2.1 (47 : Int32)).bind fun v10 =>
        if v10.1 = 0 then
          some (.inr (v8, v10.2, v5.2.2))
        else
          X7_readCells_L2 n2 v8 v10.2 v5.2.2
def X7_readCells (S0 : Rec) (S1 : Rec) : Option (Int32 × Rec × Rec) :=
  (X7_readCells_L2 aFu (0 : Int32) S0 S1).bind fun e13 =>
  aCs e13 (fun t16 => some t16) (fun s15 =>
    some ((1 : Int32), s15.2.1, (sI s15.2.2 2 s15.1)))
set_option maxRecDepth 100000 in
set_option maxHeartbeats 4000000 in
theorem X7_readCells_ok (l : Launch) {h : aH} {nx : Nat} {a0 : Nat} {a1 : Nat} {S0 : Rec} {S1 : Rec} (hB0 : X7_at h a0 S0) (hB1 : X2_at h a1 S1) (hs01 : a0 + 2 ≤ a1 ∨ a1 + 8 ≤ a0) {r : Int32 × Rec × Rec} (hF : X7_readCells S0 S1 = some r) : aOk l 10 0 0 yX7_readCells cX7_readCells 3 (some .boolean) [.ref a0, .ref a1] h nx (aMt (some (.int r.1)) nx (fun h1 => X7_at h1 a0 r.2.1 ∧ X2_at h1 a1 r.2.2 ∧ (∀ q, (q < a0 ∨ a0 + 2 ≤ q) → (q < a1 ∨ a1 + 8 ≤ q) → h1 q = h q))) := by
  refine aOk.of (by decide +kernel) (Nat.le_of_ble_eq_true rfl) (fun X G hX C R0 _ => ?_)
  subst hX
  show aV X G 3 0 [(0, .ref a0), (1, .ref a1)] [] h nx 0 0
  have hFr : ∀ q, (q < a0 ∨ a0 + 2 ≤ q) → (q < a1 ∨ a1 + 8 ≤ q) → h q = h q := fun _ _ _ => rfl
  rw [X7_readCells] at hF
  refine ab_iconst (v := (0 : Int32)) C dX7_readCells_0 (by decide) ?_
  refine ab_istore_n (lv' := [(2, .int (0 : Int32)), (0, .ref a0), (1, .ref a1)]) C dX7_readCells_1 rfl (by decide) rfl ?_
  have L2 : ∀ (n2 : Nat) (v1 : Int32) (Z2 : Rec) (Z3 : Rec) (g4 : aH), (X7_at g4 a0 Z2) → (X2_at g4 a1 Z3) → (∀ q, (q < a0 ∨ a0 + 2 ≤ q) → (q < a1 ∨ a1 + 8 ≤ q) → g4 q = h q) → ∀ (res2 : (Int32 × Rec × Rec) ⊕ (Int32 × Rec × Rec)), X7_readCells_L2 n2 v1 Z2 Z3 = some res2 → (∀ (s : Int32 × Rec × Rec) (q9 : aH), (X7_at q9 a0 s.2.1) → (X2_at q9 a1 s.2.2) → (∀ q, (q < a0 ∨ a0 + 2 ≤ q) → (q < a1 ∨ a1 + 8 ≤ q) → q9 q = h q) → res2 = .inr s → aV X G 3 31 [(1, .ref a1), (2, .int s.1)] [] q9 nx 0 0) → (∀ (t : Int32 × Rec × Rec) (q9 : aH), (X7_at q9 a0 t.2.1) → (X2_at q9 a1 t.2.2) → (∀ q, (q < a0 ∨ a0 + 2 ≤ q) → (q < a1 ∨ a1 + 8 ≤ q) → q9 q = h q) → res2 = .inl t → (aMt (some (.int r.1)) nx (fun h1 => X7_at h1 a0 r.2.1 ∧ X2_at h1 a1 r.2.2 ∧ (∀ q, (q < a0 ∨ a0 + 2 ≤ q) → (q < a1 ∨ a1 + 8 ≤ q) → h1 q = h q))) (some (.int t.1)) q9 nx) → aV X G 3 2 [(0, .ref a0), (1, .ref a1), (2, .int v1)] [] g4 nx 0 0 := by
    intro n2
    induction n2 with
    | zero => intro v1 Z2 Z3 g4 hB0 hB1 hFr res2 hF KX2 KR2; cases (show (none : Option ((Int32 × Rec × Rec) ⊕ (Int32 × Rec × Rec))) = some res2 from hF)
    | succ n2 ih2 =>
      intro v1 Z2 Z3 g4 hB0 hB1 hFr res2 hF KX2 KR2
      rw [X7_readCells_L2] at hF
      refine ab_aload_n C 0 rfl rfl dX7_readCells_2 ?_
      refine ab_aload_n C 1 rfl rfl dX7_readCells_3 ?_
      refine ab_iload_n C 2 rfl rfl dX7_readCells_4 ?_
      obtain ⟨v5, hxv5, hF⟩ := Option.bind_eq_some_iff.mp hF
      refine ab_cVM (v := .int v5.1) (st := []) C lm_X7_69 (X7_readRow_ok (xl X) hB0 hB1 (by omega) (r := v5) hxv5) [.ref a1, .int v1] rfl hB0.1 rfl rfl rfl (by decide) ⟨Nat.zero_le _, Nat.zero_le _⟩ (Nat.le_of_ble_eq_true rfl) dX7_readCells_5 (fun g6 pg6 => ?_)
      obtain ⟨k0, k1, Og6⟩ := pg6
      have hB0 : X7_at g6 a0 v5.2.1 := k0
      have hB1 : X2_at g6 a1 v5.2.2 := k1
      have hFr : ∀ q, (q < a0 ∨ a0 + 2 ≤ q) → (q < a1 ∨ a1 + 8 ≤ q) → g6 q = h q := fun q u0 u1 => (Og6 q (by omega) (by omega)).trans (hFr q u0 u1)
      refine ab_if_ne C 13 dX7_readCells_8 (by decide) (fun c7 => ?_) (fun c7 => ?_)
      · replace hF := (if_neg c7).symm.trans hF
        obtain ⟨v8, qv8⟩ : ∃ y : Int32, y = (v1 + (1 : Int32)) := ⟨_, rfl⟩
        replace hF := aLet_e hF v8 qv8
        refine ab_iinc (lv' := [(2, .int v8), (0, .ref a0), (1, .ref a1)]) C 2 rfl dX7_readCells_13 (by rw [qv8]; rfl) (by decide) rfl ?_
        refine ab_iload_n C 0 rfl rfl dX7_readCells_16 ?_
        refine ab_bipush (v := (6 : Int32)) C dX7_readCells_17 (by decide) ?_
        refine ab_icmp_ge C 31 dX7_readCells_19 (by decide) (fun c9 => ?_) (fun c9 => ?_)
        · replace hF := (if_pos c9).symm.trans hF
          obtain rfl := Option.some.inj hF
          refine aV.sub (lv' := [(1, .ref a1), (2, .int v8)]) [2, 0] rfl ?_
          exact KX2 (v8, v5.2.1, v5.2.2) g6 hB0 hB1 hFr rfl
        · replace hF := (if_neg c9).symm.trans hF
          refine ab_aload_n C 1 rfl rfl dX7_readCells_22 ?_
          refine ab_bipush (v := (47 : Int32)) C dX7_readCells_23 (by decide) ?_
          obtain ⟨v10, hxv10, hF⟩ := Option.bind_eq_some_iff.mp hF
          refine ab_cVM (v := .int v10.1) (st := []) C lm_X7_27 (X7_passes_ok (xl X) hB0 (r := v10) hxv10) [.int (47 : Int32)] rfl hB0.1 rfl rfl rfl (by decide) ⟨Nat.zero_le _, Nat.zero_le _⟩ (Nat.le_of_ble_eq_true rfl) dX7_readCells_25 (fun g11 pg11 => ?_)
          obtain ⟨k0, Og11⟩ := pg11
          have hB0 : X7_at g11 a0 v10.2 := k0
          have hB1 : X2_at g11 a1 v5.2.2 := X2_off hB1 (fun q i1 i2 => Og11 q (by omega))
          have hFr : ∀ q, (q < a0 ∨ a0 + 2 ≤ q) → (q < a1 ∨ a1 + 8 ≤ q) → g11 q = h q := fun q u0 u1 => (Og11 q (by omega)).trans (hFr q u0 u1)
          refine ab_if_ne C 2 dX7_readCells_28 (by decide) (fun c12 => ?_) (fun c12 => ?_)
          · replace hF := (if_neg c12).symm.trans hF
            refine aV.sub (lv' := [(0, .ref a0), (1, .ref a1), (2, .int v8)]) [1, 2, 0] rfl ?_
            exact ih2 v8 v10.2 v5.2.2 g11 hB0 hB1 hFr res2 hF KX2 KR2
          · replace hF := (if_pos c12).symm.trans hF
            obtain rfl := Option.some.inj hF
            refine aV.sub (lv' := [(1, .ref a1), (2, .int v8)]) [2, 0] rfl ?_
            exact KX2 (v8, v10.2, v5.2.2) g11 hB0 hB1 hFr rfl
      · replace hF := (if_pos c7).symm.trans hF
        refine ab_iconst (v := (0 : Int32)) C dX7_readCells_11 (by decide) ?_
        obtain rfl := Option.some.inj hF
        exact ab_iret C R0 rfl dX7_readCells_12 (KR2 ((0 : Int32), v5.2.1, v5.2.2) g6 hB0 hB1 hFr rfl)
  refine aV.sub (lv' := [(0, .ref a0), (1, .ref a1), (2, .int (0 : Int32))]) [1, 2, 0] rfl ?_
  obtain ⟨e13, he13, hF⟩ := Option.bind_eq_some_iff.mp hF
  refine L2 aFu (0 : Int32) S0 S1 h hB0 hB1 hFr e13 he13 (fun s15 g14 hB0 hB1 hFr eqs15 => ?_) (fun t16 g17 hB0 hB1 hFr eqt16 => ?_)
  · subst eqs15
    replace hF := aCs_r hF
    refine ab_aload_n C 0 rfl rfl dX7_readCells_31 ?_
    refine ab_iload_n C 1 rfl rfl dX7_readCells_32 ?_
    refine ab_p2 (ty := .int) C lf_X7_73 rfl (by decide +kernel) rfl rfl (Nat.le_of_ble_eq_true rfl) hB1.1 dX7_readCells_33 (fun g18 eg18 og18 => ?_)
    have hB1 : X2_at g18 a1 (sI s15.2.2 2 s15.1) := X2_p2 hB1 eg18 og18
    have hB0 : X7_at g18 a0 s15.2.1 := X7_off hB0 (fun q i1 i2 => og18 q (by omega))
    have hFr : ∀ q, (q < a0 ∨ a0 + 2 ≤ q) → (q < a1 ∨ a1 + 8 ≤ q) → g18 q = h q := fun q u0 u1 => (og18 q (by omega)).trans (hFr q u0 u1)
    refine ab_iconst (v := (1 : Int32)) C dX7_readCells_36 (by decide) ?_
    obtain rfl := Option.some.inj hF
    exact ab_iret C R0 rfl dX7_readCells_37 ⟨rfl, rfl, hB0, hB1, hFr⟩
  · subst eqt16
    replace hF := aCs_l hF
    obtain rfl := Option.some.inj hF
    exact ⟨rfl, rfl, hB0, hB1, hFr⟩
theorem dX7_figure_0 : decode cX7_figure 0 = .ok (.aload_n 0, 1) := by decide +kernel
theorem dX7_figure_1 : decode cX7_figure 1 = .ok (.invokevirtual 47, 3) := by decide +kernel
theorem dX7_figure_4 : decode cX7_figure 4 = .ok (.istore_n 2, 1) := by decide +kernel
theorem dX7_figure_5 : decode cX7_figure 5 = .ok (.iload_n 2, 1) := by decide +kernel
theorem dX7_figure_6 : decode cX7_figure 6 = .ok (.bipush 46, 2) := by decide +kernel
theorem dX7_figure_8 : decode cX7_figure 8 = .ok (.if_icmp .ne 6, 3) := by decide +kernel
theorem dX7_figure_11 : decode cX7_figure 11 = .ok (.bipush 6, 2) := by decide +kernel
theorem dX7_figure_13 : decode cX7_figure 13 = .ok (.ireturn, 1) := by decide +kernel
theorem dX7_figure_14 : decode cX7_figure 14 = .ok (.iload_n 2, 1) := by decide +kernel
theorem dX7_figure_15 : decode cX7_figure 15 = .ok (.bipush 48, 2) := by decide +kernel
theorem dX7_figure_17 : decode cX7_figure 17 = .ok (.if_icmp .lt 18, 3) := by decide +kernel
theorem dX7_figure_20 : decode cX7_figure 20 = .ok (.iload_n 2, 1) := by decide +kernel
theorem dX7_figure_21 : decode cX7_figure 21 = .ok (.bipush 48, 2) := by decide +kernel
theorem dX7_figure_23 : decode cX7_figure 23 = .ok (.iload_n 1, 1) := by decide +kernel
theorem dX7_figure_24 : decode cX7_figure 24 = .ok (.iadd, 1) := by decide +kernel
theorem dX7_figure_25 : decode cX7_figure 25 = .ok (.if_icmp .ge 10, 3) := by decide +kernel
theorem dX7_figure_28 : decode cX7_figure 28 = .ok (.iload_n 2, 1) := by decide +kernel
theorem dX7_figure_29 : decode cX7_figure 29 = .ok (.bipush 48, 2) := by decide +kernel
theorem dX7_figure_31 : decode cX7_figure 31 = .ok (.isub, 1) := by decide +kernel
theorem dX7_figure_32 : decode cX7_figure 32 = .ok (.goto 4, 3) := by decide +kernel
theorem dX7_figure_35 : decode cX7_figure 35 = .ok (.iconst (-1), 1) := by decide +kernel
theorem dX7_figure_36 : decode cX7_figure 36 = .ok (.ireturn, 1) := by decide +kernel
def X7_figure (S0 : Rec) (x1 : Int32) : Option (Int32) :=
  (X7_sign S0).bind fun v1 =>
  if v1 = (46 : Int32) then
    some (6 : Int32)
  else
    if v1 < (48 : Int32) then
      some (-1 : Int32)
    else
      if ((48 : Int32) + x1) ≤ v1 then
        some (-1 : Int32)
      else
        some (v1 - (48 : Int32))
set_option maxRecDepth 100000 in
set_option maxHeartbeats 4000000 in
theorem X7_figure_ok (l : Launch) {h : aH} {nx : Nat} {a0 : Nat} {S0 : Rec} {x1 : Int32} (hB0 : X7_at h a0 S0) {r : Int32} (hF : X7_figure S0 x1 = some r) : aOk l 1 0 0 yX7_figure cX7_figure 3 (some .int) [.ref a0, .int x1] h nx (aRd (.int r) h nx) := by
  refine aOk.of (by decide +kernel) (Nat.le_of_ble_eq_true rfl) (fun X G hX C R0 _ => ?_)
  subst hX
  show aV X G 3 0 [(0, .ref a0), (1, .int x1)] [] h nx 0 0
  rw [X7_figure] at hF
  refine ab_aload_n C 0 rfl rfl dX7_figure_0 ?_
  obtain ⟨v1, hxv1, hF⟩ := Option.bind_eq_some_iff.mp hF
  refine ab_cVR (v := .int v1) (st := []) C lm_X7_47 (X7_sign_ok (xl X) hB0 (r := v1) hxv1) [] rfl hB0.1 rfl rfl rfl (by decide) ⟨Nat.zero_le _, Nat.zero_le _⟩ (Nat.le_of_ble_eq_true rfl) dX7_figure_1 ?_
  refine ab_istore_n (lv' := [(2, .int v1), (0, .ref a0), (1, .int x1)]) C dX7_figure_4 rfl (by decide) rfl ?_
  refine ab_iload_n C 0 rfl rfl dX7_figure_5 ?_
  refine ab_bipush (v := (46 : Int32)) C dX7_figure_6 (by decide) ?_
  refine ab_icmp_ne C 14 dX7_figure_8 (by decide) (fun c2 => ?_) (fun c2 => ?_)
  · replace hF := (if_neg c2).symm.trans hF
    refine ab_iload_n C 0 rfl rfl dX7_figure_14 ?_
    refine ab_bipush (v := (48 : Int32)) C dX7_figure_15 (by decide) ?_
    refine ab_icmp_lt C 35 dX7_figure_17 (by decide) (fun c3 => ?_) (fun c3 => ?_)
    · replace hF := (if_pos c3).symm.trans hF
      refine ab_iconst (v := (-1 : Int32)) C dX7_figure_35 (by decide) ?_
      obtain rfl := Option.some.inj hF
      exact ab_iret C R0 rfl dX7_figure_36 ⟨rfl, rfl, rfl⟩
    · replace hF := (if_neg c3).symm.trans hF
      refine ab_iload_n C 0 rfl rfl dX7_figure_20 ?_
      refine ab_bipush (v := (48 : Int32)) C dX7_figure_21 (by decide) ?_
      refine ab_iload_n C 2 rfl rfl dX7_figure_23 ?_
      refine ab_iadd C dX7_figure_24 ?_
      refine ab_icmp_ge C 35 dX7_figure_25 (by decide) (fun c4 => ?_) (fun c4 => ?_)
      · replace hF := (if_pos c4).symm.trans hF
        refine ab_iconst (v := (-1 : Int32)) C dX7_figure_35 (by decide) ?_
        obtain rfl := Option.some.inj hF
        exact ab_iret C R0 rfl dX7_figure_36 ⟨rfl, rfl, rfl⟩
      · replace hF := (if_neg c4).symm.trans hF
        refine ab_iload_n C 0 rfl rfl dX7_figure_28 ?_
        refine ab_bipush (v := (48 : Int32)) C dX7_figure_29 (by decide) ?_
        refine ab_isub C dX7_figure_31 ?_
        refine ab_goto C 36 dX7_figure_32 (by decide) ?_
        obtain rfl := Option.some.inj hF
        exact ab_iret C R0 rfl dX7_figure_36 ⟨rfl, rfl, rfl⟩
  · replace hF := (if_pos c2).symm.trans hF
    refine ab_bipush (v := (6 : Int32)) C dX7_figure_11 (by decide) ?_
    obtain rfl := Option.some.inj hF
    exact ab_iret C R0 rfl dX7_figure_13 ⟨rfl, rfl, rfl⟩
theorem dX7_readWhose_0 : decode cX7_readWhose 0 = .ok (.iconst 0, 1) := by decide +kernel
theorem dX7_readWhose_1 : decode cX7_readWhose 1 = .ok (.istore_n 2, 1) := by decide +kernel
theorem dX7_readWhose_2 : decode cX7_readWhose 2 = .ok (.iload_n 2, 1) := by decide +kernel
theorem dX7_readWhose_3 : decode cX7_readWhose 3 = .ok (.aload_n 1, 1) := by decide +kernel
theorem dX7_readWhose_4 : decode cX7_readWhose 4 = .ok (.getfield 73, 3) := by decide +kernel
theorem dX7_readWhose_7 : decode cX7_readWhose 7 = .ok (.if_icmp .ge 95, 3) := by decide +kernel
theorem dX7_readWhose_10 : decode cX7_readWhose 10 = .ok (.iload_n 2, 1) := by decide +kernel
theorem dX7_readWhose_11 : decode cX7_readWhose 11 = .ok (.ifCond .le 14, 3) := by decide +kernel
theorem dX7_readWhose_14 : decode cX7_readWhose 14 = .ok (.aload_n 0, 1) := by decide +kernel
theorem dX7_readWhose_15 : decode cX7_readWhose 15 = .ok (.bipush 47, 2) := by decide +kernel
theorem dX7_readWhose_17 : decode cX7_readWhose 17 = .ok (.invokevirtual 27, 3) := by decide +kernel
theorem dX7_readWhose_20 : decode cX7_readWhose 20 = .ok (.ifCond .ne 5, 3) := by decide +kernel
theorem dX7_readWhose_23 : decode cX7_readWhose 23 = .ok (.iconst 0, 1) := by decide +kernel
theorem dX7_readWhose_24 : decode cX7_readWhose 24 = .ok (.ireturn, 1) := by decide +kernel
theorem dX7_readWhose_25 : decode cX7_readWhose 25 = .ok (.iconst 0, 1) := by decide +kernel
theorem dX7_readWhose_26 : decode cX7_readWhose 26 = .ok (.istore_n 3, 1) := by decide +kernel
theorem dX7_readWhose_27 : decode cX7_readWhose 27 = .ok (.iload_n 3, 1) := by decide +kernel
theorem dX7_readWhose_28 : decode cX7_readWhose 28 = .ok (.aload_n 1, 1) := by decide +kernel
theorem dX7_readWhose_29 : decode cX7_readWhose 29 = .ok (.getfield 76, 3) := by decide +kernel
theorem dX7_readWhose_32 : decode cX7_readWhose 32 = .ok (.if_icmp .ge 64, 3) := by decide +kernel
theorem dX7_readWhose_35 : decode cX7_readWhose 35 = .ok (.aload_n 0, 1) := by decide +kernel
theorem dX7_readWhose_36 : decode cX7_readWhose 36 = .ok (.aload_n 1, 1) := by decide +kernel
theorem dX7_readWhose_37 : decode cX7_readWhose 37 = .ok (.getfield 66, 3) := by decide +kernel
theorem dX7_readWhose_40 : decode cX7_readWhose 40 = .ok (.invokevirtual 85, 3) := by decide +kernel
theorem dX7_readWhose_43 : decode cX7_readWhose 43 = .ok (.istore 4, 2) := by decide +kernel
theorem dX7_readWhose_45 : decode cX7_readWhose 45 = .ok (.iload 4, 2) := by decide +kernel
theorem dX7_readWhose_47 : decode cX7_readWhose 47 = .ok (.ifCond .lt 13, 3) := by decide +kernel
theorem dX7_readWhose_50 : decode cX7_readWhose 50 = .ok (.iload 4, 2) := by decide +kernel
theorem dX7_readWhose_52 : decode cX7_readWhose 52 = .ok (.aload_n 1, 1) := by decide +kernel
theorem dX7_readWhose_53 : decode cX7_readWhose 53 = .ok (.getfield 88, 3) := by decide +kernel
theorem dX7_readWhose_56 : decode cX7_readWhose 56 = .ok (.arraylength, 1) := by decide +kernel
theorem dX7_readWhose_57 : decode cX7_readWhose 57 = .ok (.if_icmp .lt 5, 3) := by decide +kernel
theorem dX7_readWhose_60 : decode cX7_readWhose 60 = .ok (.iconst 0, 1) := by decide +kernel
theorem dX7_readWhose_61 : decode cX7_readWhose 61 = .ok (.ireturn, 1) := by decide +kernel
theorem dX7_readWhose_62 : decode cX7_readWhose 62 = .ok (.aload_n 1, 1) := by decide +kernel
theorem dX7_readWhose_63 : decode cX7_readWhose 63 = .ok (.getfield 88, 3) := by decide +kernel
theorem dX7_readWhose_66 : decode cX7_readWhose 66 = .ok (.iload 4, 2) := by decide +kernel
theorem dX7_readWhose_68 : decode cX7_readWhose 68 = .ok (.dup2, 1) := by decide +kernel
theorem dX7_readWhose_69 : decode cX7_readWhose 69 = .ok (.laload, 1) := by decide +kernel
theorem dX7_readWhose_70 : decode cX7_readWhose 70 = .ok (.lconst 1, 1) := by decide +kernel
theorem dX7_readWhose_71 : decode cX7_readWhose 71 = .ok (.bipush 8, 2) := by decide +kernel
theorem dX7_readWhose_73 : decode cX7_readWhose 73 = .ok (.iload_n 2, 1) := by decide +kernel
theorem dX7_readWhose_74 : decode cX7_readWhose 74 = .ok (.imul, 1) := by decide +kernel
theorem dX7_readWhose_75 : decode cX7_readWhose 75 = .ok (.iload_n 3, 1) := by decide +kernel
theorem dX7_readWhose_76 : decode cX7_readWhose 76 = .ok (.iadd, 1) := by decide +kernel
theorem dX7_readWhose_77 : decode cX7_readWhose 77 = .ok (.lshl, 1) := by decide +kernel
theorem dX7_readWhose_78 : decode cX7_readWhose 78 = .ok (.lor, 1) := by decide +kernel
theorem dX7_readWhose_79 : decode cX7_readWhose 79 = .ok (.lastore, 1) := by decide +kernel
theorem dX7_readWhose_80 : decode cX7_readWhose 80 = .ok (.aload_n 0, 1) := by decide +kernel
theorem dX7_readWhose_81 : decode cX7_readWhose 81 = .ok (.dup, 1) := by decide +kernel
theorem dX7_readWhose_82 : decode cX7_readWhose 82 = .ok (.getfield 19, 3) := by decide +kernel
theorem dX7_readWhose_85 : decode cX7_readWhose 85 = .ok (.iconst 1, 1) := by decide +kernel
theorem dX7_readWhose_86 : decode cX7_readWhose 86 = .ok (.iadd, 1) := by decide +kernel
theorem dX7_readWhose_87 : decode cX7_readWhose 87 = .ok (.putfield 19, 3) := by decide +kernel
theorem dX7_readWhose_90 : decode cX7_readWhose 90 = .ok (.iinc 3 1, 3) := by decide +kernel
theorem dX7_readWhose_93 : decode cX7_readWhose 93 = .ok (.goto (-66), 3) := by decide +kernel
theorem dX7_readWhose_96 : decode cX7_readWhose 96 = .ok (.iinc 2 1, 3) := by decide +kernel
theorem dX7_readWhose_99 : decode cX7_readWhose 99 = .ok (.goto (-97), 3) := by decide +kernel
theorem dX7_readWhose_102 : decode cX7_readWhose 102 = .ok (.iconst 1, 1) := by decide +kernel
theorem dX7_readWhose_103 : decode cX7_readWhose 103 = .ok (.ireturn, 1) := by decide +kernel
def X7_readWhose_L27 (v1 : Int32) : Nat → Int32 → Rec → Rec → Option ((Int32 × Rec × Rec) ⊕ (Rec × Rec))
  | 0, _, _, _ => none
  | n27 + 1, v8, Z9, Z10 => if (Z10.1 3) ≤ v8 then
      some (.inr (Z9, Z10))
    else
      (X7_figure Z9 (Z10.1 0)).bind fun v13 =>
      if v13 < 0 then
        some (.inl ((0 : Int32), Z9, Z10))
      else
        if v13 < (Int32.ofNat 7) then
          (rdL (Z10.2.2 10) 7 v13).bind fun v16 =>
          (wrL (Z10.2.2 10) 7 v13 (v16 ||| ((1 : Int64) <<< ((((8 : Int32) * v1) + v8).toInt64 &&& 63)))).bind fun w17 =>
          aLet (v8 + (1 : Int32)) fun v20 =>
          X7_readWhose_L27 v1 n27 v20 (sI Z9 2 ((Z9.1 2) + (1 : Int32))) (sL Z10 10 w17)
        else
          some (.inl ((0 : Int32), Z9, Z10))
def X7_readWhose_J25 (v1 : Int32) (Z3 : Rec) (k2 : Int32 → Rec → Rec → Option ((Int32 × Rec × Rec) ⊕ (Rec × Rec))) (Z6 : Rec) : Option ((Int32 × Rec × Rec) ⊕ (Rec × Rec)) :=
  (X7_readWhose_L27 v1 aFu (0 : Int32) Z6 Z3).bind fun e21 =>
  aCs e21 (fun t24 => some (.inl t24)) (fun s23 =>
    aLet (v1 + (1 : Int32)) fun v26 =>
    k2 v26 s23.1 s23.2)
def X7_readWhose_L2 : Nat → Int32 → Rec → Rec → Option ((Int32 × Rec × Rec) ⊕ (Rec × Rec))
  | 0, _, _, _ => none
  | n2 + 1, v1, Z2, Z3 => if (Z3.1 2) ≤ v1 then
      some (.inr (Z2, Z3))
    else
      if v1 ≤ 0 then
        X7_readWhose_J25 v1 Z3 (X7_readWhose_L2 n2) Z2
      else
        (X7_passes Z2 (47 : Int32)).bind fun v28 =>
        if v28.1 = 0 then
          some (.inl ((0 : Int32), v28.2, Z3))
        else
          X7_readWhose_J25 v1 Z3 (X7_readWhose_L2 n2) v28.2
def X7_readWhose (S0 : Rec) (S1 : Rec) : Option (Int32 × Rec × Rec) :=
  (X7_readWhose_L2 aFu (0 : Int32) S0 S1).bind fun e31 =>
  aCs e31 (fun t34 => some t34) (fun s33 =>
    some ((1 : Int32), s33.1, s33.2))
set_option maxRecDepth 100000 in
set_option maxHeartbeats 4000000 in
theorem X7_readWhose_ok (l : Launch) {h : aH} {nx : Nat} {a0 : Nat} {a1 : Nat} {S0 : Rec} {S1 : Rec} (hB0 : X7_at h a0 S0) (hB1 : X2_at h a1 S1) (hs01 : a0 + 2 ≤ a1 ∨ a1 + 8 ≤ a0) {r : Int32 × Rec × Rec} (hF : X7_readWhose S0 S1 = some r) : aOk l 2 0 0 yX7_readWhose cX7_readWhose 5 (some .boolean) [.ref a0, .ref a1] h nx (aMt (some (.int r.1)) nx (fun h1 => X7_at h1 a0 r.2.1 ∧ X2_at h1 a1 r.2.2 ∧ (∀ q, (q < a0 ∨ a0 + 2 ≤ q) → (q < a1 ∨ a1 + 8 ≤ q) → h1 q = h q))) := by
  refine aOk.of (by decide +kernel) (Nat.le_of_ble_eq_true rfl) (fun X G hX C R0 _ => ?_)
  subst hX
  show aV X G 5 0 [(0, .ref a0), (1, .ref a1)] [] h nx 0 0
  have hFr : ∀ q, (q < a0 ∨ a0 + 2 ≤ q) → (q < a1 ∨ a1 + 8 ≤ q) → h q = h q := fun _ _ _ => rfl
  rw [X7_readWhose] at hF
  refine ab_iconst (v := (0 : Int32)) C dX7_readWhose_0 (by decide) ?_
  refine ab_istore_n (lv' := [(2, .int (0 : Int32)), (0, .ref a0), (1, .ref a1)]) C dX7_readWhose_1 rfl (by decide) rfl ?_
  have L2 : ∀ (n2 : Nat) (v1 : Int32) (Z2 : Rec) (Z3 : Rec) (g4 : aH), (X7_at g4 a0 Z2) → (X2_at g4 a1 Z3) → (∀ q, (q < a0 ∨ a0 + 2 ≤ q) → (q < a1 ∨ a1 + 8 ≤ q) → g4 q = h q) → ∀ (res2 : (Int32 × Rec × Rec) ⊕ (Rec × Rec)), X7_readWhose_L2 n2 v1 Z2 Z3 = some res2 → (∀ (s : Rec × Rec) (q9 : aH), (X7_at q9 a0 s.1) → (X2_at q9 a1 s.2) → (∀ q, (q < a0 ∨ a0 + 2 ≤ q) → (q < a1 ∨ a1 + 8 ≤ q) → q9 q = h q) → res2 = .inr s → aV X G 5 102 [] [] q9 nx 0 0) → (∀ (t : Int32 × Rec × Rec) (q9 : aH), (X7_at q9 a0 t.2.1) → (X2_at q9 a1 t.2.2) → (∀ q, (q < a0 ∨ a0 + 2 ≤ q) → (q < a1 ∨ a1 + 8 ≤ q) → q9 q = h q) → res2 = .inl t → (aMt (some (.int r.1)) nx (fun h1 => X7_at h1 a0 r.2.1 ∧ X2_at h1 a1 r.2.2 ∧ (∀ q, (q < a0 ∨ a0 + 2 ≤ q) → (q < a1 ∨ a1 + 8 ≤ q) → h1 q = h q))) (some (.int t.1)) q9 nx) → aV X G 5 2 [(0, .ref a0), (1, .ref a1), (2, .int v1)] [] g4 nx 0 0 := by
    intro n2
    induction n2 with
    | zero => intro v1 Z2 Z3 g4 hB0 hB1 hFr res2 hF KX2 KR2; cases (show (none : Option ((Int32 × Rec × Rec) ⊕ (Rec × Rec))) = some res2 from hF)
    | succ n2 ih2 =>
      intro v1 Z2 Z3 g4 hB0 hB1 hFr res2 hF KX2 KR2
      rw [X7_readWhose_L2] at hF
      refine ab_iload_n C 2 rfl rfl dX7_readWhose_2 ?_
      refine ab_aload_n C 1 rfl rfl dX7_readWhose_3 ?_
      refine ab_g2 (v := .int (Z3.1 2)) C lf_X7_73 hB1.1 rfl dX7_readWhose_4 ?_
      refine ab_icmp_ge C 102 dX7_readWhose_7 (by decide) (fun c5 => ?_) (fun c5 => ?_)
      · replace hF := (if_pos c5).symm.trans hF
        obtain rfl := Option.some.inj hF
        refine aV.sub (lv' := []) [] rfl ?_
        exact KX2 (Z2, Z3) g4 hB0 hB1 hFr rfl
      · replace hF := (if_neg c5).symm.trans hF
        refine ab_iload_n C 2 rfl rfl dX7_readWhose_10 ?_
        have J25 : ∀ (Z6 : Rec) (g7 : aH), (X7_at g7 a0 Z6) → (X2_at g7 a1 Z3) → (∀ q, (q < a0 ∨ a0 + 2 ≤ q) → (q < a1 ∨ a1 + 8 ≤ q) → g7 q = h q) → X7_readWhose_J25 v1 Z3 (X7_readWhose_L2 n2) Z6 = some res2 → aV X G 5 25 [(0, .ref a0), (1, .ref a1), (2, .int v1)] [] g7 nx 0 0 := by
          intro Z6 g7 hB0 hB1 hFr hF
          rw [X7_readWhose_J25] at hF
          refine ab_iconst (v := (0 : Int32)) C dX7_readWhose_25 (by decide) ?_
          refine ab_istore_n (lv' := [(3, .int (0 : Int32)), (0, .ref a0), (1, .ref a1), (2, .int v1)]) C dX7_readWhose_26 rfl (by decide) rfl ?_
          have L27 : ∀ (n27 : Nat) (v8 : Int32) (Z9 : Rec) (Z10 : Rec) (g11 : aH), (X7_at g11 a0 Z9) → (X2_at g11 a1 Z10) → (∀ q, (q < a0 ∨ a0 + 2 ≤ q) → (q < a1 ∨ a1 + 8 ≤ q) → g11 q = h q) → ∀ (res27 : (Int32 × Rec × Rec) ⊕ (Rec × Rec)), X7_readWhose_L27 v1 n27 v8 Z9 Z10 = some res27 → (∀ (s : Rec × Rec) (q9 : aH), (X7_at q9 a0 s.1) → (X2_at q9 a1 s.2) → (∀ q, (q < a0 ∨ a0 + 2 ≤ q) → (q < a1 ∨ a1 + 8 ≤ q) → q9 q = h q) → res27 = .inr s → aV X G 5 96 [(0, .ref a0), (1, .ref a1), (2, .int v1)] [] q9 nx 0 0) → (∀ (t : Int32 × Rec × Rec) (q9 : aH), (X7_at q9 a0 t.2.1) → (X2_at q9 a1 t.2.2) → (∀ q, (q < a0 ∨ a0 + 2 ≤ q) → (q < a1 ∨ a1 + 8 ≤ q) → q9 q = h q) → res27 = .inl t → (aMt (some (.int r.1)) nx (fun h1 => X7_at h1 a0 r.2.1 ∧ X2_at h1 a1 r.2.2 ∧ (∀ q, (q < a0 ∨ a0 + 2 ≤ q) → (q < a1 ∨ a1 + 8 ≤ q) → h1 q = h q))) (some (.int t.1)) q9 nx) → aV X G 5 27 [(0, .ref a0), (1, .ref a1), (2, .int v1), (3, .int v8)] [] g11 nx 0 0 := by
            intro n27
            induction n27 with
            | zero => intro v8 Z9 Z10 g11 hB0 hB1 hFr res27 hF KX27 KR27; cases (show (none : Option ((Int32 × Rec × Rec) ⊕ (Rec × Rec))) = some res27 from hF)
            | succ n27 ih27 =>
              intro v8 Z9 Z10 g11 hB0 hB1 hFr res27 hF KX27 KR27
              rw [X7_readWhose_L27] at hF
              refine ab_iload_n C 3 rfl rfl dX7_readWhose_27 ?_
              refine ab_aload_n C 1 rfl rfl dX7_readWhose_28 ?_
              refine ab_g2 (v := .int (Z10.1 3)) C lf_X7_76 hB1.1 rfl dX7_readWhose_29 ?_
              refine ab_icmp_ge C 96 dX7_readWhose_32 (by decide) (fun c12 => ?_) (fun c12 => ?_)
              · replace hF := (if_pos c12).symm.trans hF
                obtain rfl := Option.some.inj hF
                refine aV.sub (lv' := [(0, .ref a0), (1, .ref a1), (2, .int v1)]) [0, 1, 2] rfl ?_
                exact KX27 (Z9, Z10) g11 hB0 hB1 hFr rfl
              · replace hF := (if_neg c12).symm.trans hF
                refine ab_aload_n C 0 rfl rfl dX7_readWhose_35 ?_
                refine ab_aload_n C 1 rfl rfl dX7_readWhose_36 ?_
                refine ab_g2 (v := .int (Z10.1 0)) C lf_X7_66 hB1.1 rfl dX7_readWhose_37 ?_
                obtain ⟨v13, hxv13, hF⟩ := Option.bind_eq_some_iff.mp hF
                refine ab_cVR (v := .int v13) (st := []) C lm_X7_85 (X7_figure_ok (xl X) hB0 (r := v13) hxv13) [.int (Z10.1 0)] rfl hB0.1 rfl rfl rfl (by decide) ⟨Nat.zero_le _, Nat.zero_le _⟩ (Nat.le_of_ble_eq_true rfl) dX7_readWhose_40 ?_
                refine ab_istore (lv' := [(4, .int v13), (0, .ref a0), (1, .ref a1), (2, .int v1), (3, .int v8)]) C dX7_readWhose_43 (by decide) rfl ?_
                refine ab_iload C 0 rfl dX7_readWhose_45 ?_
                refine ab_if_lt C 60 dX7_readWhose_47 (by decide) (fun c14 => ?_) (fun c14 => ?_)
                · replace hF := (if_pos c14).symm.trans hF
                  refine ab_iconst (v := (0 : Int32)) C dX7_readWhose_60 (by decide) ?_
                  obtain rfl := Option.some.inj hF
                  exact ab_iret C R0 rfl dX7_readWhose_61 (KR27 ((0 : Int32), Z9, Z10) g11 hB0 hB1 hFr rfl)
                · replace hF := (if_neg c14).symm.trans hF
                  refine ab_iload C 0 rfl dX7_readWhose_50 ?_
                  refine ab_aload_n C 2 rfl rfl dX7_readWhose_52 ?_
                  refine ab_g2 (v := .ref (a1 + 6)) C lf_X7_88 hB1.1 rfl dX7_readWhose_53 ?_
                  refine ab_alen1 C (X2_r10 hB1) dX7_readWhose_56 ?_
                  refine ab_icmp_lt C 62 dX7_readWhose_57 (by decide) (fun c15 => ?_) (fun c15 => ?_)
                  · replace hF := (if_pos c15).symm.trans hF
                    refine ab_aload_n C 2 rfl rfl dX7_readWhose_62 ?_
                    refine ab_g2 (v := .ref (a1 + 6)) C lf_X7_88 hB1.1 rfl dX7_readWhose_63 ?_
                    refine ab_iload C 0 rfl dX7_readWhose_66 ?_
                    refine ab_dup2_11 C rfl rfl dX7_readWhose_68 ?_
                    obtain ⟨v16, hxv16, hF⟩ := Option.bind_eq_some_iff.mp hF
                    refine ab_lald C (X2_r10 hB1) hxv16 dX7_readWhose_69 ?_
                    refine ab_lconst (v := (1 : Int64)) C dX7_readWhose_70 (by decide) ?_
                    refine ab_bipush (v := (8 : Int32)) C dX7_readWhose_71 (by decide) ?_
                    refine ab_iload_n C 3 rfl rfl dX7_readWhose_73 ?_
                    refine ab_imul C dX7_readWhose_74 ?_
                    refine ab_iload_n C 4 rfl rfl dX7_readWhose_75 ?_
                    refine ab_iadd C dX7_readWhose_76 ?_
                    refine ab_lshl C dX7_readWhose_77 ?_
                    refine ab_lor C dX7_readWhose_78 ?_
                    obtain ⟨w17, hxw17, hF⟩ := Option.bind_eq_some_iff.mp hF
                    refine ab_last C (X2_r10 hB1) hxw17 dX7_readWhose_79 (fun g18 eg18 og18 => ?_)
                    have hB1 : X2_at g18 a1 (sL Z10 10 w17) := X2_w10 hB1 eg18 og18
                    have hB0 : X7_at g18 a0 Z9 := X7_off hB0 (fun q i1 i2 => og18 q (by omega))
                    have hFr : ∀ q, (q < a0 ∨ a0 + 2 ≤ q) → (q < a1 ∨ a1 + 8 ≤ q) → g18 q = h q := fun q u0 u1 => (og18 q (by omega)).trans (hFr q u0 u1)
                    refine ab_aload_n C 1 rfl rfl dX7_readWhose_80 ?_
                    refine ab_dup C rfl dX7_readWhose_81 ?_
                    refine ab_g7 (v := .int (Z9.1 2)) C lf_X7_19 hB0.1 rfl dX7_readWhose_82 ?_
                    refine ab_iconst (v := (1 : Int32)) C dX7_readWhose_85 (by decide) ?_
                    refine ab_iadd C dX7_readWhose_86 ?_
                    refine ab_p7 (ty := .int) C lf_X7_19 rfl (by decide +kernel) rfl rfl (Nat.le_of_ble_eq_true rfl) hB0.1 dX7_readWhose_87 (fun g19 eg19 og19 => ?_)
                    have hB0 : X7_at g19 a0 (sI Z9 2 ((Z9.1 2) + (1 : Int32))) := X7_p2 hB0 eg19 og19
                    have hB1 : X2_at g19 a1 (sL Z10 10 w17) := X2_off hB1 (fun q i1 i2 => og19 q (by omega))
                    have hFr : ∀ q, (q < a0 ∨ a0 + 2 ≤ q) → (q < a1 ∨ a1 + 8 ≤ q) → g19 q = h q := fun q u0 u1 => (og19 q (by omega)).trans (hFr q u0 u1)
                    obtain ⟨v20, qv20⟩ : ∃ y : Int32, y = (v8 + (1 : Int32)) := ⟨_, rfl⟩
                    replace hF := aLet_e hF v20 qv20
                    refine ab_iinc (lv' := [(3, .int v20), (4, .int v13), (0, .ref a0), (1, .ref a1), (2, .int v1)]) C 4 rfl dX7_readWhose_90 (by rw [qv20]; rfl) (by decide) rfl ?_
                    refine ab_goto C 27 dX7_readWhose_93 (by decide) ?_
                    refine aV.sub (lv' := [(0, .ref a0), (1, .ref a1), (2, .int v1), (3, .int v20)]) [2, 3, 4, 0] rfl ?_
                    exact ih27 v20 (sI Z9 2 ((Z9.1 2) + (1 : Int32))) (sL Z10 10 w17) g19 hB0 hB1 hFr res27 hF KX27 KR27
                  · replace hF := (if_neg c15).symm.trans hF
                    refine ab_iconst (v := (0 : Int32)) C dX7_readWhose_60 (by decide) ?_
                    obtain rfl := Option.some.inj hF
                    exact ab_iret C R0 rfl dX7_readWhose_61 (KR27 ((0 : Int32), Z9, Z10) g11 hB0 hB1 hFr rfl)
          refine aV.sub (lv' := [(0, .ref a0), (1, .ref a1), (2, .int v1), (3, .int (0 : Int32))]) [1, 2, 3, 0] rfl ?_
          obtain ⟨e21, he21, hF⟩ := Option.bind_eq_some_iff.mp hF
          refine L27 aFu (0 : Int32) Z6 Z3 g7 hB0 hB1 hFr e21 he21 (fun s23 g22 hB0 hB1 hFr eqs23 => ?_) (fun t24 g25 hB0 hB1 hFr eqt24 => ?_)
          · subst eqs23
            replace hF := aCs_r hF
            obtain ⟨v26, qv26⟩ : ∃ y : Int32, y = (v1 + (1 : Int32)) := ⟨_, rfl⟩
            replace hF := aLet_e hF v26 qv26
            refine ab_iinc (lv' := [(2, .int v26), (0, .ref a0), (1, .ref a1)]) C 2 rfl dX7_readWhose_96 (by rw [qv26]; rfl) (by decide) rfl ?_
            refine ab_goto C 2 dX7_readWhose_99 (by decide) ?_
            refine aV.sub (lv' := [(0, .ref a0), (1, .ref a1), (2, .int v26)]) [1, 2, 0] rfl ?_
            exact ih2 v26 s23.1 s23.2 g22 hB0 hB1 hFr res2 hF KX2 KR2
          · subst eqt24
            replace hF := aCs_l hF
            obtain rfl := Option.some.inj hF
            exact KR2 t24 g25 hB0 hB1 hFr rfl
        refine ab_if_le C 25 dX7_readWhose_11 (by decide) (fun c27 => ?_) (fun c27 => ?_)
        · replace hF := (if_pos c27).symm.trans hF
          exact J25 Z2 g4 hB0 hB1 hFr hF
        · replace hF := (if_neg c27).symm.trans hF
          refine ab_aload_n C 0 rfl rfl dX7_readWhose_14 ?_
          refine ab_bipush (v := (47 : Int32)) C dX7_readWhose_15 (by decide) ?_
          obtain ⟨v28, hxv28, hF⟩ := Option.bind_eq_some_iff.mp hF
          refine ab_cVM (v := .int v28.1) (st := []) C lm_X7_27 (X7_passes_ok (xl X) hB0 (r := v28) hxv28) [.int (47 : Int32)] rfl hB0.1 rfl rfl rfl (by decide) ⟨Nat.zero_le _, Nat.zero_le _⟩ (Nat.le_of_ble_eq_true rfl) dX7_readWhose_17 (fun g29 pg29 => ?_)
          obtain ⟨k0, Og29⟩ := pg29
          have hB0 : X7_at g29 a0 v28.2 := k0
          have hB1 : X2_at g29 a1 Z3 := X2_off hB1 (fun q i1 i2 => Og29 q (by omega))
          have hFr : ∀ q, (q < a0 ∨ a0 + 2 ≤ q) → (q < a1 ∨ a1 + 8 ≤ q) → g29 q = h q := fun q u0 u1 => (Og29 q (by omega)).trans (hFr q u0 u1)
          refine ab_if_ne C 25 dX7_readWhose_20 (by decide) (fun c30 => ?_) (fun c30 => ?_)
          · replace hF := (if_neg c30).symm.trans hF
            exact J25 v28.2 g29 hB0 hB1 hFr hF
          · replace hF := (if_pos c30).symm.trans hF
            refine ab_iconst (v := (0 : Int32)) C dX7_readWhose_23 (by decide) ?_
            obtain rfl := Option.some.inj hF
            exact ab_iret C R0 rfl dX7_readWhose_24 (KR2 ((0 : Int32), v28.2, Z3) g29 hB0 hB1 hFr rfl)
  refine aV.sub (lv' := [(0, .ref a0), (1, .ref a1), (2, .int (0 : Int32))]) [1, 2, 0] rfl ?_
  obtain ⟨e31, he31, hF⟩ := Option.bind_eq_some_iff.mp hF
  refine L2 aFu (0 : Int32) S0 S1 h hB0 hB1 hFr e31 he31 (fun s33 g32 hB0 hB1 hFr eqs33 => ?_) (fun t34 g35 hB0 hB1 hFr eqt34 => ?_)
  · subst eqs33
    replace hF := aCs_r hF
    refine ab_iconst (v := (1 : Int32)) C dX7_readWhose_102 (by decide) ?_
    obtain rfl := Option.some.inj hF
    exact ab_iret C R0 rfl dX7_readWhose_103 ⟨rfl, rfl, hB0, hB1, hFr⟩
  · subst eqt34
    replace hF := aCs_l hF
    obtain rfl := Option.some.inj hF
    exact ⟨rfl, rfl, hB0, hB1, hFr⟩
theorem dX7_readWord_0 : decode cX7_readWord 0 = .ok (.iload_n 2, 1) := by decide +kernel
theorem dX7_readWord_1 : decode cX7_readWord 1 = .ok (.ifCond .lt 8, 3) := by decide +kernel
theorem dX7_readWord_4 : decode cX7_readWord 4 = .ok (.iload_n 2, 1) := by decide +kernel
theorem dX7_readWord_5 : decode cX7_readWord 5 = .ok (.iconst 4, 1) := by decide +kernel
theorem dX7_readWord_6 : decode cX7_readWord 6 = .ok (.if_icmp .lt 5, 3) := by decide +kernel
theorem dX7_readWord_9 : decode cX7_readWord 9 = .ok (.iconst 0, 1) := by decide +kernel
theorem dX7_readWord_10 : decode cX7_readWord 10 = .ok (.ireturn, 1) := by decide +kernel
theorem dX7_readWord_11 : decode cX7_readWord 11 = .ok (.iconst 0, 1) := by decide +kernel
theorem dX7_readWord_12 : decode cX7_readWord 12 = .ok (.istore_n 3, 1) := by decide +kernel
theorem dX7_readWord_13 : decode cX7_readWord 13 = .ok (.iconst 0, 1) := by decide +kernel
theorem dX7_readWord_14 : decode cX7_readWord 14 = .ok (.istore 4, 2) := by decide +kernel
theorem dX7_readWord_16 : decode cX7_readWord 16 = .ok (.iload_n 3, 1) := by decide +kernel
theorem dX7_readWord_17 : decode cX7_readWord 17 = .ok (.bipush 6, 2) := by decide +kernel
theorem dX7_readWord_19 : decode cX7_readWord 19 = .ok (.if_icmp .ge 59, 3) := by decide +kernel
theorem dX7_readWord_22 : decode cX7_readWord 22 = .ok (.aload_n 0, 1) := by decide +kernel
theorem dX7_readWord_23 : decode cX7_readWord 23 = .ok (.invokevirtual 47, 3) := by decide +kernel
theorem dX7_readWord_26 : decode cX7_readWord 26 = .ok (.bipush 97, 2) := by decide +kernel
theorem dX7_readWord_28 : decode cX7_readWord 28 = .ok (.if_icmp .lt 50, 3) := by decide +kernel
theorem dX7_readWord_31 : decode cX7_readWord 31 = .ok (.aload_n 0, 1) := by decide +kernel
theorem dX7_readWord_32 : decode cX7_readWord 32 = .ok (.invokevirtual 47, 3) := by decide +kernel
theorem dX7_readWord_35 : decode cX7_readWord 35 = .ok (.bipush 122, 2) := by decide +kernel
theorem dX7_readWord_37 : decode cX7_readWord 37 = .ok (.if_icmp .gt 41, 3) := by decide +kernel
theorem dX7_readWord_40 : decode cX7_readWord 40 = .ok (.aload_n 0, 1) := by decide +kernel
theorem dX7_readWord_41 : decode cX7_readWord 41 = .ok (.ldc 79, 2) := by decide +kernel
theorem dX7_readWord_43 : decode cX7_readWord 43 = .ok (.invokevirtual 59, 3) := by decide +kernel
theorem dX7_readWord_46 : decode cX7_readWord 46 = .ok (.istore 5, 2) := by decide +kernel
theorem dX7_readWord_48 : decode cX7_readWord 48 = .ok (.iload 5, 2) := by decide +kernel
theorem dX7_readWord_50 : decode cX7_readWord 50 = .ok (.ifCond .lt 12, 3) := by decide +kernel
theorem dX7_readWord_53 : decode cX7_readWord 53 = .ok (.iload 4, 2) := by decide +kernel
theorem dX7_readWord_55 : decode cX7_readWord 55 = .ok (.iconst 1, 1) := by decide +kernel
theorem dX7_readWord_56 : decode cX7_readWord 56 = .ok (.iload 5, 2) := by decide +kernel
theorem dX7_readWord_58 : decode cX7_readWord 58 = .ok (.ishl, 1) := by decide +kernel
theorem dX7_readWord_59 : decode cX7_readWord 59 = .ok (.ior, 1) := by decide +kernel
theorem dX7_readWord_60 : decode cX7_readWord 60 = .ok (.istore 4, 2) := by decide +kernel
theorem dX7_readWord_62 : decode cX7_readWord 62 = .ok (.iinc 3 1, 3) := by decide +kernel
theorem dX7_readWord_65 : decode cX7_readWord 65 = .ok (.aload_n 0, 1) := by decide +kernel
theorem dX7_readWord_66 : decode cX7_readWord 66 = .ok (.dup, 1) := by decide +kernel
theorem dX7_readWord_67 : decode cX7_readWord 67 = .ok (.getfield 19, 3) := by decide +kernel
theorem dX7_readWord_70 : decode cX7_readWord 70 = .ok (.iconst 1, 1) := by decide +kernel
theorem dX7_readWord_71 : decode cX7_readWord 71 = .ok (.iadd, 1) := by decide +kernel
theorem dX7_readWord_72 : decode cX7_readWord 72 = .ok (.putfield 19, 3) := by decide +kernel
theorem dX7_readWord_75 : decode cX7_readWord 75 = .ok (.goto (-59), 3) := by decide +kernel
theorem dX7_readWord_78 : decode cX7_readWord 78 = .ok (.aload_n 1, 1) := by decide +kernel
theorem dX7_readWord_79 : decode cX7_readWord 79 = .ok (.getfield 97, 3) := by decide +kernel
theorem dX7_readWord_82 : decode cX7_readWord 82 = .ok (.iload_n 2, 1) := by decide +kernel
theorem dX7_readWord_83 : decode cX7_readWord 83 = .ok (.iload_n 3, 1) := by decide +kernel
theorem dX7_readWord_84 : decode cX7_readWord 84 = .ok (.iastore, 1) := by decide +kernel
theorem dX7_readWord_85 : decode cX7_readWord 85 = .ok (.aload_n 1, 1) := by decide +kernel
theorem dX7_readWord_86 : decode cX7_readWord 86 = .ok (.getfield 100, 3) := by decide +kernel
theorem dX7_readWord_89 : decode cX7_readWord 89 = .ok (.iload_n 2, 1) := by decide +kernel
theorem dX7_readWord_90 : decode cX7_readWord 90 = .ok (.iload 4, 2) := by decide +kernel
theorem dX7_readWord_92 : decode cX7_readWord 92 = .ok (.iastore, 1) := by decide +kernel
theorem dX7_readWord_93 : decode cX7_readWord 93 = .ok (.iload_n 3, 1) := by decide +kernel
theorem dX7_readWord_94 : decode cX7_readWord 94 = .ok (.ifCond .le 7, 3) := by decide +kernel
theorem dX7_readWord_97 : decode cX7_readWord 97 = .ok (.iconst 1, 1) := by decide +kernel
theorem dX7_readWord_98 : decode cX7_readWord 98 = .ok (.goto 4, 3) := by decide +kernel
theorem dX7_readWord_101 : decode cX7_readWord 101 = .ok (.iconst 0, 1) := by decide +kernel
theorem dX7_readWord_102 : decode cX7_readWord 102 = .ok (.ireturn, 1) := by decide +kernel
def X7_readWord_L16 : Nat → Int32 → Int32 → Rec → Option (Int32 × Int32 × Rec)
  | 0, _, _, _ => none
  | n16 + 1, v3, v4, Z5 => if (6 : Int32) ≤ v3 then
      some (v3, v4, Z5)
    else
      (X7_sign Z5).bind fun v8 =>
      if v8 < (97 : Int32) then
        some (v3, v4, Z5)
      else
        (X7_sign Z5).bind fun v10 =>
        if (122 : Int32) < v10 then
          some (v3, v4, Z5)
        else
          (X7_signAmong_1 Z5).bind fun v12 =>
          if v12 < 0 then
            aLet (v3 + (1 : Int32)) fun v14 =>
            X7_readWord_L16 n16 v14 v4 (sI Z5 2 ((Z5.1 2) + (1 : Int32)))
          else
            aLet (v4 ||| ((1 : Int32) <<< (v12 &&& 31))) fun v16 =>
            aLet (v3 + (1 : Int32)) fun v17 =>
            X7_readWord_L16 n16 v17 v16 (sI Z5 2 ((Z5.1 2) + (1 : Int32)))
def X7_readWord (S0 : Rec) (S1 : Rec) (x2 : Int32) : Option (Int32 × Rec × Rec) :=
  if x2 < 0 then
    some ((0 : Int32), S0, S1)
  else
    if x2 < (4 : Int32) then
      (X7_readWord_L16 aFu (0 : Int32) (0 : Int32) S0).bind fun e19 =>
      (wrI (S1.2.1 5) 4 x2 e19.1).bind fun w21 =>
      (wrI ((sA S1 5 w21).2.1 6) 4 x2 e19.2.1).bind fun w23 =>
      if e19.1 ≤ 0 then
        some ((0 : Int32), e19.2.2, (sA (sA S1 5 w21) 6 w23))
      else
        some ((1 : Int32), e19.2.2, (sA (sA S1 5 w21) 6 w23))
    else
      some ((0 : Int32), S0, S1)
set_option maxRecDepth 100000 in
set_option maxHeartbeats 4000000 in
theorem X7_readWord_ok (l : Launch) {h : aH} {nx : Nat} {a0 : Nat} {a1 : Nat} {S0 : Rec} {S1 : Rec} {x2 : Int32} (hB0 : X7_at h a0 S0) (hB1 : X2_at h a1 S1) (hs01 : a0 + 2 ≤ a1 ∨ a1 + 8 ≤ a0) {r : Int32 × Rec × Rec} (hF : X7_readWord S0 S1 x2 = some r) : aOk l 9 0 0 yX7_readWord cX7_readWord 6 (some .boolean) [.ref a0, .ref a1, .int x2] h nx (aMt (some (.int r.1)) nx (fun h1 => X7_at h1 a0 r.2.1 ∧ X2_at h1 a1 r.2.2 ∧ (∀ q, (q < a0 ∨ a0 + 2 ≤ q) → (q < a1 ∨ a1 + 8 ≤ q) → h1 q = h q))) := by
  refine aOk.of (by decide +kernel) (Nat.le_of_ble_eq_true rfl) (fun X G hX C R0 _ => ?_)
  subst hX
  show aV X G 6 0 [(0, .ref a0), (1, .ref a1), (2, .int x2)] [] h nx 0 0
  have hFr : ∀ q, (q < a0 ∨ a0 + 2 ≤ q) → (q < a1 ∨ a1 + 8 ≤ q) → h q = h q := fun _ _ _ => rfl
  rw [X7_readWord] at hF
  refine ab_iload_n C 2 rfl rfl dX7_readWord_0 ?_
  refine ab_if_lt C 9 dX7_readWord_1 (by decide) (fun c1 => ?_) (fun c1 => ?_)
  · replace hF := (if_pos c1).symm.trans hF
    refine ab_iconst (v := (0 : Int32)) C dX7_readWord_9 (by decide) ?_
    obtain rfl := Option.some.inj hF
    exact ab_iret C R0 rfl dX7_readWord_10 ⟨rfl, rfl, hB0, hB1, hFr⟩
  · replace hF := (if_neg c1).symm.trans hF
    refine ab_iload_n C 2 rfl rfl dX7_readWord_4 ?_
    refine ab_iconst (v := (4 : Int32)) C dX7_readWord_5 (by decide) ?_
    refine ab_icmp_lt C 11 dX7_readWord_6 (by decide) (fun c2 => ?_) (fun c2 => ?_)
    · replace hF := (if_pos c2).symm.trans hF
      refine ab_iconst (v := (0 : Int32)) C dX7_readWord_11 (by decide) ?_
      refine ab_istore_n (lv' := [(3, .int (0 : Int32)), (0, .ref a0), (1, .ref a1), (2, .int x2)]) C dX7_readWord_12 rfl (by decide) rfl ?_
      refine ab_iconst (v := (0 : Int32)) C dX7_readWord_13 (by decide) ?_
      refine ab_istore (lv' := [(4, .int (0 : Int32)), (3, .int (0 : Int32)), (0, .ref a0), (1, .ref a1), (2, .int x2)]) C dX7_readWord_14 (by decide) rfl ?_
      have L16 : ∀ (n16 : Nat) (v3 : Int32) (v4 : Int32) (Z5 : Rec) (g6 : aH), (X7_at g6 a0 Z5) → (X2_at g6 a1 S1) → (∀ q, (q < a0 ∨ a0 + 2 ≤ q) → (q < a1 ∨ a1 + 8 ≤ q) → g6 q = h q) → ∀ (res16 : Int32 × Int32 × Rec), X7_readWord_L16 n16 v3 v4 Z5 = some res16 → (∀ (q9 : aH), (X7_at q9 a0 res16.2.2) → (X2_at q9 a1 S1) → (∀ q, (q < a0 ∨ a0 + 2 ≤ q) → (q < a1 ∨ a1 + 8 ≤ q) → q9 q = h q) → aV X G 6 78 [(1, .ref a1), (2, .int x2), (3, .int res16.1), (4, .int res16.2.1)] [] q9 nx 0 0) → aV X G 6 16 [(0, .ref a0), (1, .ref a1), (2, .int x2), (3, .int v3), (4, .int v4)] [] g6 nx 0 0 := by
        intro n16
        induction n16 with
        | zero => intro v3 v4 Z5 g6 hB0 hB1 hFr res16 hF KX16; cases (show (none : Option (Int32 × Int32 × Rec)) = some res16 from hF)
        | succ n16 ih16 =>
          intro v3 v4 Z5 g6 hB0 hB1 hFr res16 hF KX16
          rw [X7_readWord_L16] at hF
          refine ab_iload_n C 3 rfl rfl dX7_readWord_16 ?_
          refine ab_bipush (v := (6 : Int32)) C dX7_readWord_17 (by decide) ?_
          refine ab_icmp_ge C 78 dX7_readWord_19 (by decide) (fun c7 => ?_) (fun c7 => ?_)
          · replace hF := (if_pos c7).symm.trans hF
            obtain rfl := Option.some.inj hF
            refine aV.sub (lv' := [(1, .ref a1), (2, .int x2), (3, .int v3), (4, .int v4)]) [1, 2, 3, 4] rfl ?_
            exact KX16 g6 hB0 hB1 hFr
          · replace hF := (if_neg c7).symm.trans hF
            refine ab_aload_n C 0 rfl rfl dX7_readWord_22 ?_
            obtain ⟨v8, hxv8, hF⟩ := Option.bind_eq_some_iff.mp hF
            refine ab_cVR (v := .int v8) (st := []) C lm_X7_47 (X7_sign_ok (xl X) hB0 (r := v8) hxv8) [] rfl hB0.1 rfl rfl rfl (by decide) ⟨Nat.zero_le _, Nat.zero_le _⟩ (Nat.le_of_ble_eq_true rfl) dX7_readWord_23 ?_
            refine ab_bipush (v := (97 : Int32)) C dX7_readWord_26 (by decide) ?_
            refine ab_icmp_lt C 78 dX7_readWord_28 (by decide) (fun c9 => ?_) (fun c9 => ?_)
            · replace hF := (if_pos c9).symm.trans hF
              obtain rfl := Option.some.inj hF
              refine aV.sub (lv' := [(1, .ref a1), (2, .int x2), (3, .int v3), (4, .int v4)]) [1, 2, 3, 4] rfl ?_
              exact KX16 g6 hB0 hB1 hFr
            · replace hF := (if_neg c9).symm.trans hF
              refine ab_aload_n C 0 rfl rfl dX7_readWord_31 ?_
              obtain ⟨v10, hxv10, hF⟩ := Option.bind_eq_some_iff.mp hF
              refine ab_cVR (v := .int v10) (st := []) C lm_X7_47 (X7_sign_ok (xl X) hB0 (r := v10) hxv10) [] rfl hB0.1 rfl rfl rfl (by decide) ⟨Nat.zero_le _, Nat.zero_le _⟩ (Nat.le_of_ble_eq_true rfl) dX7_readWord_32 ?_
              refine ab_bipush (v := (122 : Int32)) C dX7_readWord_35 (by decide) ?_
              refine ab_icmp_gt C 78 dX7_readWord_37 (by decide) (fun c11 => ?_) (fun c11 => ?_)
              · replace hF := (if_pos c11).symm.trans hF
                obtain rfl := Option.some.inj hF
                refine aV.sub (lv' := [(1, .ref a1), (2, .int x2), (3, .int v3), (4, .int v4)]) [1, 2, 3, 4] rfl ?_
                exact KX16 g6 hB0 hB1 hFr
              · replace hF := (if_neg c11).symm.trans hF
                refine ab_aload_n C 0 rfl rfl dX7_readWord_40 ?_
                refine ab_text1 C dX7_readWord_41 ?_
                obtain ⟨v12, hxv12, hF⟩ := Option.bind_eq_some_iff.mp hF
                refine ab_cVR (v := .int v12) (st := []) C lm_X7_59 (X7_signAmong_1_ok (xl X) hB0 (r := v12) hxv12) [.ref 1] rfl hB0.1 rfl rfl rfl (by decide) ⟨Nat.zero_le _, Nat.zero_le _⟩ (Nat.le_of_ble_eq_true rfl) dX7_readWord_43 ?_
                refine ab_istore (lv' := [(5, .int v12), (0, .ref a0), (1, .ref a1), (2, .int x2), (3, .int v3), (4, .int v4)]) C dX7_readWord_46 (by decide) rfl ?_
                refine ab_iload C 0 rfl dX7_readWord_48 ?_
                refine ab_if_lt C 62 dX7_readWord_50 (by decide) (fun c13 => ?_) (fun c13 => ?_)
                · replace hF := (if_pos c13).symm.trans hF
                  obtain ⟨v14, qv14⟩ : ∃ y : Int32, y = (v3 + (1 : Int32)) := ⟨_, rfl⟩
                  replace hF := aLet_e hF v14 qv14
                  refine ab_iinc (lv' := [(3, .int v14), (5, .int v12), (0, .ref a0), (1, .ref a1), (2, .int x2), (4, .int v4)]) C 4 rfl dX7_readWord_62 (by rw [qv14]; rfl) (by decide) rfl ?_
                  refine ab_aload_n C 2 rfl rfl dX7_readWord_65 ?_
                  refine ab_dup C rfl dX7_readWord_66 ?_
                  refine ab_g7 (v := .int (Z5.1 2)) C lf_X7_19 hB0.1 rfl dX7_readWord_67 ?_
                  refine ab_iconst (v := (1 : Int32)) C dX7_readWord_70 (by decide) ?_
                  refine ab_iadd C dX7_readWord_71 ?_
                  refine ab_p7 (ty := .int) C lf_X7_19 rfl (by decide +kernel) rfl rfl (Nat.le_of_ble_eq_true rfl) hB0.1 dX7_readWord_72 (fun g15 eg15 og15 => ?_)
                  have hB0 : X7_at g15 a0 (sI Z5 2 ((Z5.1 2) + (1 : Int32))) := X7_p2 hB0 eg15 og15
                  have hB1 : X2_at g15 a1 S1 := X2_off hB1 (fun q i1 i2 => og15 q (by omega))
                  have hFr : ∀ q, (q < a0 ∨ a0 + 2 ≤ q) → (q < a1 ∨ a1 + 8 ≤ q) → g15 q = h q := fun q u0 u1 => (og15 q (by omega)).trans (hFr q u0 u1)
                  refine ab_goto C 16 dX7_readWord_75 (by decide) ?_
                  refine aV.sub (lv' := [(0, .ref a0), (1, .ref a1), (2, .int x2), (3, .int v14), (4, .int v4)]) [2, 3, 4, 0, 5] rfl ?_
                  exact ih16 v14 v4 (sI Z5 2 ((Z5.1 2) + (1 : Int32))) g15 hB0 hB1 hFr res16 hF KX16
                · replace hF := (if_neg c13).symm.trans hF
                  refine ab_iload C 5 rfl dX7_readWord_53 ?_
                  refine ab_iconst (v := (1 : Int32)) C dX7_readWord_55 (by decide) ?_
                  refine ab_iload C 0 rfl dX7_readWord_56 ?_
                  refine ab_ishl C dX7_readWord_58 ?_
                  refine ab_ior C dX7_readWord_59 ?_
                  refine ab_topi (fun v16 qv16 => ?_)
                  replace hF := aLet_e hF v16 qv16
                  refine ab_istore (lv' := [(4, .int v16), (5, .int v12), (0, .ref a0), (1, .ref a1), (2, .int x2), (3, .int v3)]) C dX7_readWord_60 (by decide) rfl ?_
                  obtain ⟨v17, qv17⟩ : ∃ y : Int32, y = (v3 + (1 : Int32)) := ⟨_, rfl⟩
                  replace hF := aLet_e hF v17 qv17
                  refine ab_iinc (lv' := [(3, .int v17), (4, .int v16), (5, .int v12), (0, .ref a0), (1, .ref a1), (2, .int x2)]) C 5 rfl dX7_readWord_62 (by rw [qv17]; rfl) (by decide) rfl ?_
                  refine ab_aload_n C 3 rfl rfl dX7_readWord_65 ?_
                  refine ab_dup C rfl dX7_readWord_66 ?_
                  refine ab_g7 (v := .int (Z5.1 2)) C lf_X7_19 hB0.1 rfl dX7_readWord_67 ?_
                  refine ab_iconst (v := (1 : Int32)) C dX7_readWord_70 (by decide) ?_
                  refine ab_iadd C dX7_readWord_71 ?_
                  refine ab_p7 (ty := .int) C lf_X7_19 rfl (by decide +kernel) rfl rfl (Nat.le_of_ble_eq_true rfl) hB0.1 dX7_readWord_72 (fun g18 eg18 og18 => ?_)
                  have hB0 : X7_at g18 a0 (sI Z5 2 ((Z5.1 2) + (1 : Int32))) := X7_p2 hB0 eg18 og18
                  have hB1 : X2_at g18 a1 S1 := X2_off hB1 (fun q i1 i2 => og18 q (by omega))
                  have hFr : ∀ q, (q < a0 ∨ a0 + 2 ≤ q) → (q < a1 ∨ a1 + 8 ≤ q) → g18 q = h q := fun q u0 u1 => (og18 q (by omega)).trans (hFr q u0 u1)
                  refine ab_goto C 16 dX7_readWord_75 (by decide) ?_
                  refine aV.sub (lv' := [(0, .ref a0), (1, .ref a1), (2, .int x2), (3, .int v17), (4, .int v16)]) [3, 4, 5, 0, 1] rfl ?_
                  exact ih16 v17 v16 (sI Z5 2 ((Z5.1 2) + (1 : Int32))) g18 hB0 hB1 hFr res16 hF KX16
      refine aV.sub (lv' := [(0, .ref a0), (1, .ref a1), (2, .int x2), (3, .int (0 : Int32)), (4, .int (0 : Int32))]) [2, 3, 4, 1, 0] rfl ?_
      obtain ⟨e19, he19, hF⟩ := Option.bind_eq_some_iff.mp hF
      refine L16 aFu (0 : Int32) (0 : Int32) S0 h hB0 hB1 hFr e19 he19 (fun g20 hB0 hB1 hFr => ?_)
      refine ab_aload_n C 0 rfl rfl dX7_readWord_78 ?_
      refine ab_g2 (v := .ref (a1 + 2)) C lf_X7_97 hB1.1 rfl dX7_readWord_79 ?_
      refine ab_iload_n C 1 rfl rfl dX7_readWord_82 ?_
      refine ab_iload_n C 2 rfl rfl dX7_readWord_83 ?_
      obtain ⟨w21, hxw21, hF⟩ := Option.bind_eq_some_iff.mp hF
      refine ab_iast C (X2_r5 hB1) hxw21 dX7_readWord_84 (fun g22 eg22 og22 => ?_)
      have hB1 : X2_at g22 a1 (sA S1 5 w21) := X2_w5 hB1 eg22 og22
      have hB0 : X7_at g22 a0 e19.2.2 := X7_off hB0 (fun q i1 i2 => og22 q (by omega))
      have hFr : ∀ q, (q < a0 ∨ a0 + 2 ≤ q) → (q < a1 ∨ a1 + 8 ≤ q) → g22 q = h q := fun q u0 u1 => (og22 q (by omega)).trans (hFr q u0 u1)
      refine ab_aload_n C 0 rfl rfl dX7_readWord_85 ?_
      refine ab_g2 (v := .ref (a1 + 3)) C lf_X7_100 hB1.1 rfl dX7_readWord_86 ?_
      refine ab_iload_n C 1 rfl rfl dX7_readWord_89 ?_
      refine ab_iload C 3 rfl dX7_readWord_90 ?_
      obtain ⟨w23, hxw23, hF⟩ := Option.bind_eq_some_iff.mp hF
      refine ab_iast C (X2_r6 hB1) hxw23 dX7_readWord_92 (fun g24 eg24 og24 => ?_)
      have hB1 : X2_at g24 a1 (sA (sA S1 5 w21) 6 w23) := X2_w6 hB1 eg24 og24
      have hB0 : X7_at g24 a0 e19.2.2 := X7_off hB0 (fun q i1 i2 => og24 q (by omega))
      have hFr : ∀ q, (q < a0 ∨ a0 + 2 ≤ q) → (q < a1 ∨ a1 + 8 ≤ q) → g24 q = h q := fun q u0 u1 => (og24 q (by omega)).trans (hFr q u0 u1)
      refine ab_iload_n C 2 rfl rfl dX7_readWord_93 ?_
      refine ab_if_le C 101 dX7_readWord_94 (by decide) (fun c25 => ?_) (fun c25 => ?_)
      · replace hF := (if_pos c25).symm.trans hF
        refine ab_iconst (v := (0 : Int32)) C dX7_readWord_101 (by decide) ?_
        obtain rfl := Option.some.inj hF
        exact ab_iret C R0 rfl dX7_readWord_102 ⟨rfl, rfl, hB0, hB1, hFr⟩
      · replace hF := (if_neg c25).symm.trans hF
        refine ab_iconst (v := (1 : Int32)) C dX7_readWord_97 (by decide) ?_
        refine ab_goto C 102 dX7_readWord_98 (by decide) ?_
        obtain rfl := Option.some.inj hF
        exact ab_iret C R0 rfl dX7_readWord_102 ⟨rfl, rfl, hB0, hB1, hFr⟩
    · replace hF := (if_neg c2).symm.trans hF
      refine ab_iconst (v := (0 : Int32)) C dX7_readWord_9 (by decide) ?_
      obtain rfl := Option.some.inj hF
      exact ab_iret C R0 rfl dX7_readWord_10 ⟨rfl, rfl, hB0, hB1, hFr⟩
theorem dX7_readWords_0 : decode cX7_readWords 0 = .ok (.iconst 0, 1) := by decide +kernel
theorem dX7_readWords_1 : decode cX7_readWords 1 = .ok (.istore_n 2, 1) := by decide +kernel
theorem dX7_readWords_2 : decode cX7_readWords 2 = .ok (.aload_n 0, 1) := by decide +kernel
theorem dX7_readWords_3 : decode cX7_readWords 3 = .ok (.aload_n 1, 1) := by decide +kernel
theorem dX7_readWords_4 : decode cX7_readWords 4 = .ok (.iload_n 2, 1) := by decide +kernel
theorem dX7_readWords_5 : decode cX7_readWords 5 = .ok (.invokevirtual 91, 3) := by decide +kernel
theorem dX7_readWords_8 : decode cX7_readWords 8 = .ok (.ifCond .ne 5, 3) := by decide +kernel
theorem dX7_readWords_11 : decode cX7_readWords 11 = .ok (.iconst 0, 1) := by decide +kernel
theorem dX7_readWords_12 : decode cX7_readWords 12 = .ok (.ireturn, 1) := by decide +kernel
theorem dX7_readWords_13 : decode cX7_readWords 13 = .ok (.iinc 2 1, 3) := by decide +kernel
theorem dX7_readWords_16 : decode cX7_readWords 16 = .ok (.iload_n 2, 1) := by decide +kernel
theorem dX7_readWords_17 : decode cX7_readWords 17 = .ok (.iconst 4, 1) := by decide +kernel
theorem dX7_readWords_18 : decode cX7_readWords 18 = .ok (.if_icmp .ge 12, 3) := by decide +kernel
theorem dX7_readWords_21 : decode cX7_readWords 21 = .ok (.aload_n 0, 1) := by decide +kernel
theorem dX7_readWords_22 : decode cX7_readWords 22 = .ok (.bipush 44, 2) := by decide +kernel
theorem dX7_readWords_24 : decode cX7_readWords 24 = .ok (.invokevirtual 27, 3) := by decide +kernel
theorem dX7_readWords_27 : decode cX7_readWords 27 = .ok (.ifCond .ne (-25), 3) := by decide +kernel
theorem dX7_readWords_30 : decode cX7_readWords 30 = .ok (.aload_n 1, 1) := by decide +kernel
theorem dX7_readWords_31 : decode cX7_readWords 31 = .ok (.iload_n 2, 1) := by decide +kernel
theorem dX7_readWords_32 : decode cX7_readWords 32 = .ok (.putfield 94, 3) := by decide +kernel
theorem dX7_readWords_35 : decode cX7_readWords 35 = .ok (.iconst 1, 1) := by decide +kernel
theorem dX7_readWords_36 : decode cX7_readWords 36 = .ok (.ireturn, 1) := by decide +kernel
def X7_readWords_L2 : Nat → Int32 → Rec → Rec → Option ((Int32 × Rec × Rec) ⊕ (Int32 × Rec × Rec))
  | 0, _, _, _ => none
  | n2 + 1, v1, Z2, Z3 => (X7_readWord Z2 Z3 v1).bind fun v5 =>
    if v5.1 = 0 then
      some (.inl ((0 : Int32), v5.2.1, v5.2.2))
    else
      aLet (v1 + (1 : Int32)) fun v8 =>
      if (4 : Int32) ≤ v8 then
        some (.inr (v8, v5.2.1, v5.2.2))
      else
        (X7_passes v5.2.1 (44 : Int32)).bind fun v10 =>
        if v10.1 = 0 then
          some (.inr (v8, v10.2, v5.2.2))
        else
          X7_readWords_L2 n2 v8 v10.2 v5.2.2
def X7_readWords (S0 : Rec) (S1 : Rec) : Option (Int32 × Rec × Rec) :=
  (X7_readWords_L2 aFu (0 : Int32) S0 S1).bind fun e13 =>
  aCs e13 (fun t16 => some t16) (fun s15 =>
    some ((1 : Int32), s15.2.1, (sI s15.2.2 4 s15.1)))
set_option maxRecDepth 100000 in
set_option maxHeartbeats 4000000 in
theorem X7_readWords_ok (l : Launch) {h : aH} {nx : Nat} {a0 : Nat} {a1 : Nat} {S0 : Rec} {S1 : Rec} (hB0 : X7_at h a0 S0) (hB1 : X2_at h a1 S1) (hs01 : a0 + 2 ≤ a1 ∨ a1 + 8 ≤ a0) {r : Int32 × Rec × Rec} (hF : X7_readWords S0 S1 = some r) : aOk l 10 0 0 yX7_readWords cX7_readWords 3 (some .boolean) [.ref a0, .ref a1] h nx (aMt (some (.int r.1)) nx (fun h1 => X7_at h1 a0 r.2.1 ∧ X2_at h1 a1 r.2.2 ∧ (∀ q, (q < a0 ∨ a0 + 2 ≤ q) → (q < a1 ∨ a1 + 8 ≤ q) → h1 q = h q))) := by
  refine aOk.of (by decide +kernel) (Nat.le_of_ble_eq_true rfl) (fun X G hX C R0 _ => ?_)
  subst hX
  show aV X G 3 0 [(0, .ref a0), (1, .ref a1)] [] h nx 0 0
  have hFr : ∀ q, (q < a0 ∨ a0 + 2 ≤ q) → (q < a1 ∨ a1 + 8 ≤ q) → h q = h q := fun _ _ _ => rfl
  rw [X7_readWords] at hF
  refine ab_iconst (v := (0 : Int32)) C dX7_readWords_0 (by decide) ?_
  refine ab_istore_n (lv' := [(2, .int (0 : Int32)), (0, .ref a0), (1, .ref a1)]) C dX7_readWords_1 rfl (by decide) rfl ?_
  have L2 : ∀ (n2 : Nat) (v1 : Int32) (Z2 : Rec) (Z3 : Rec) (g4 : aH), (X7_at g4 a0 Z2) → (X2_at g4 a1 Z3) → (∀ q, (q < a0 ∨ a0 + 2 ≤ q) → (q < a1 ∨ a1 + 8 ≤ q) → g4 q = h q) → ∀ (res2 : (Int32 × Rec × Rec) ⊕ (Int32 × Rec × Rec)), X7_readWords_L2 n2 v1 Z2 Z3 = some res2 → (∀ (s : Int32 × Rec × Rec) (q9 : aH), (X7_at q9 a0 s.2.1) → (X2_at q9 a1 s.2.2) → (∀ q, (q < a0 ∨ a0 + 2 ≤ q) → (q < a1 ∨ a1 + 8 ≤ q) → q9 q = h q) → res2 = .inr s → aV X G 3 30 [(1, .ref a1), (2, .int s.1)] [] q9 nx 0 0) → (∀ (t : Int32 × Rec × Rec) (q9 : aH), (X7_at q9 a0 t.2.1) → (X2_at q9 a1 t.2.2) → (∀ q, (q < a0 ∨ a0 + 2 ≤ q) → (q < a1 ∨ a1 + 8 ≤ q) → q9 q = h q) → res2 = .inl t → (aMt (some (.int r.1)) nx (fun h1 => X7_at h1 a0 r.2.1 ∧ X2_at h1 a1 r.2.2 ∧ (∀ q, (q < a0 ∨ a0 + 2 ≤ q) → (q < a1 ∨ a1 + 8 ≤ q) → h1 q = h q))) (some (.int t.1)) q9 nx) → aV X G 3 2 [(0, .ref a0), (1, .ref a1), (2, .int v1)] [] g4 nx 0 0 := by
    intro n2
    induction n2 with
    | zero => intro v1 Z2 Z3 g4 hB0 hB1 hFr res2 hF KX2 KR2; cases (show (none : Option ((Int32 × Rec × Rec) ⊕ (Int32 × Rec × Rec))) = some res2 from hF)
    | succ n2 ih2 =>
      intro v1 Z2 Z3 g4 hB0 hB1 hFr res2 hF KX2 KR2
      rw [X7_readWords_L2] at hF
      refine ab_aload_n C 0 rfl rfl dX7_readWords_2 ?_
      refine ab_aload_n C 1 rfl rfl dX7_readWords_3 ?_
      refine ab_iload_n C 2 rfl rfl dX7_readWords_4 ?_
      obtain ⟨v5, hxv5, hF⟩ := Option.bind_eq_some_iff.mp hF
      refine ab_cVM (v := .int v5.1) (st := []) C lm_X7_91 (X7_readWord_ok (xl X) hB0 hB1 (by omega) (r := v5) hxv5) [.ref a1, .int v1] rfl hB0.1 rfl rfl rfl (by decide) ⟨Nat.zero_le _, Nat.zero_le _⟩ (Nat.le_of_ble_eq_true rfl) dX7_readWords_5 (fun g6 pg6 => ?_)
      obtain ⟨k0, k1, Og6⟩ := pg6
      have hB0 : X7_at g6 a0 v5.2.1 := k0
      have hB1 : X2_at g6 a1 v5.2.2 := k1
      have hFr : ∀ q, (q < a0 ∨ a0 + 2 ≤ q) → (q < a1 ∨ a1 + 8 ≤ q) → g6 q = h q := fun q u0 u1 => (Og6 q (by omega) (by omega)).trans (hFr q u0 u1)
      refine ab_if_ne C 13 dX7_readWords_8 (by decide) (fun c7 => ?_) (fun c7 => ?_)
      · replace hF := (if_neg c7).symm.trans hF
        obtain ⟨v8, qv8⟩ : ∃ y : Int32, y = (v1 + (1 : Int32)) := ⟨_, rfl⟩
        replace hF := aLet_e hF v8 qv8
        refine ab_iinc (lv' := [(2, .int v8), (0, .ref a0), (1, .ref a1)]) C 2 rfl dX7_readWords_13 (by rw [qv8]; rfl) (by decide) rfl ?_
        refine ab_iload_n C 0 rfl rfl dX7_readWords_16 ?_
        refine ab_iconst (v := (4 : Int32)) C dX7_readWords_17 (by decide) ?_
        refine ab_icmp_ge C 30 dX7_readWords_18 (by decide) (fun c9 => ?_) (fun c9 => ?_)
        · replace hF := (if_pos c9).symm.trans hF
          obtain rfl := Option.some.inj hF
          refine aV.sub (lv' := [(1, .ref a1), (2, .int v8)]) [2, 0] rfl ?_
          exact KX2 (v8, v5.2.1, v5.2.2) g6 hB0 hB1 hFr rfl
        · replace hF := (if_neg c9).symm.trans hF
          refine ab_aload_n C 1 rfl rfl dX7_readWords_21 ?_
          refine ab_bipush (v := (44 : Int32)) C dX7_readWords_22 (by decide) ?_
          obtain ⟨v10, hxv10, hF⟩ := Option.bind_eq_some_iff.mp hF
          refine ab_cVM (v := .int v10.1) (st := []) C lm_X7_27 (X7_passes_ok (xl X) hB0 (r := v10) hxv10) [.int (44 : Int32)] rfl hB0.1 rfl rfl rfl (by decide) ⟨Nat.zero_le _, Nat.zero_le _⟩ (Nat.le_of_ble_eq_true rfl) dX7_readWords_24 (fun g11 pg11 => ?_)
          obtain ⟨k0, Og11⟩ := pg11
          have hB0 : X7_at g11 a0 v10.2 := k0
          have hB1 : X2_at g11 a1 v5.2.2 := X2_off hB1 (fun q i1 i2 => Og11 q (by omega))
          have hFr : ∀ q, (q < a0 ∨ a0 + 2 ≤ q) → (q < a1 ∨ a1 + 8 ≤ q) → g11 q = h q := fun q u0 u1 => (Og11 q (by omega)).trans (hFr q u0 u1)
          refine ab_if_ne C 2 dX7_readWords_27 (by decide) (fun c12 => ?_) (fun c12 => ?_)
          · replace hF := (if_neg c12).symm.trans hF
            refine aV.sub (lv' := [(0, .ref a0), (1, .ref a1), (2, .int v8)]) [1, 2, 0] rfl ?_
            exact ih2 v8 v10.2 v5.2.2 g11 hB0 hB1 hFr res2 hF KX2 KR2
          · replace hF := (if_pos c12).symm.trans hF
            obtain rfl := Option.some.inj hF
            refine aV.sub (lv' := [(1, .ref a1), (2, .int v8)]) [2, 0] rfl ?_
            exact KX2 (v8, v10.2, v5.2.2) g11 hB0 hB1 hFr rfl
      · replace hF := (if_pos c7).symm.trans hF
        refine ab_iconst (v := (0 : Int32)) C dX7_readWords_11 (by decide) ?_
        obtain rfl := Option.some.inj hF
        exact ab_iret C R0 rfl dX7_readWords_12 (KR2 ((0 : Int32), v5.2.1, v5.2.2) g6 hB0 hB1 hFr rfl)
  refine aV.sub (lv' := [(0, .ref a0), (1, .ref a1), (2, .int (0 : Int32))]) [1, 2, 0] rfl ?_
  obtain ⟨e13, he13, hF⟩ := Option.bind_eq_some_iff.mp hF
  refine L2 aFu (0 : Int32) S0 S1 h hB0 hB1 hFr e13 he13 (fun s15 g14 hB0 hB1 hFr eqs15 => ?_) (fun t16 g17 hB0 hB1 hFr eqt16 => ?_)
  · subst eqs15
    replace hF := aCs_r hF
    refine ab_aload_n C 0 rfl rfl dX7_readWords_30 ?_
    refine ab_iload_n C 1 rfl rfl dX7_readWords_31 ?_
    refine ab_p2 (ty := .int) C lf_X7_94 rfl (by decide +kernel) rfl rfl (Nat.le_of_ble_eq_true rfl) hB1.1 dX7_readWords_32 (fun g18 eg18 og18 => ?_)
    have hB1 : X2_at g18 a1 (sI s15.2.2 4 s15.1) := X2_p4 hB1 eg18 og18
    have hB0 : X7_at g18 a0 s15.2.1 := X7_off hB0 (fun q i1 i2 => og18 q (by omega))
    have hFr : ∀ q, (q < a0 ∨ a0 + 2 ≤ q) → (q < a1 ∨ a1 + 8 ≤ q) → g18 q = h q := fun q u0 u1 => (og18 q (by omega)).trans (hFr q u0 u1)
    refine ab_iconst (v := (1 : Int32)) C dX7_readWords_35 (by decide) ?_
    obtain rfl := Option.some.inj hF
    exact ab_iret C R0 rfl dX7_readWords_36 ⟨rfl, rfl, hB0, hB1, hFr⟩
  · subst eqt16
    replace hF := aCs_l hF
    obtain rfl := Option.some.inj hF
    exact ⟨rfl, rfl, hB0, hB1, hFr⟩
theorem dX7_readChange_0 : decode cX7_readChange 0 = .ok (.iconst 0, 1) := by decide +kernel
theorem dX7_readChange_1 : decode cX7_readChange 1 = .ok (.istore_n 2, 1) := by decide +kernel
theorem dX7_readChange_2 : decode cX7_readChange 2 = .ok (.iload_n 2, 1) := by decide +kernel
theorem dX7_readChange_3 : decode cX7_readChange 3 = .ok (.iconst 5, 1) := by decide +kernel
theorem dX7_readChange_4 : decode cX7_readChange 4 = .ok (.if_icmp .ge 44, 3) := by decide +kernel
theorem dX7_readChange_7 : decode cX7_readChange 7 = .ok (.aload_n 0, 1) := by decide +kernel
theorem dX7_readChange_8 : decode cX7_readChange 8 = .ok (.ldc 79, 2) := by decide +kernel
theorem dX7_readChange_10 : decode cX7_readChange 10 = .ok (.invokevirtual 59, 3) := by decide +kernel
theorem dX7_readChange_13 : decode cX7_readChange 13 = .ok (.istore_n 3, 1) := by decide +kernel
theorem dX7_readChange_14 : decode cX7_readChange 14 = .ok (.iload_n 3, 1) := by decide +kernel
theorem dX7_readChange_15 : decode cX7_readChange 15 = .ok (.ifCond .lt 8, 3) := by decide +kernel
theorem dX7_readChange_18 : decode cX7_readChange 18 = .ok (.iload_n 3, 1) := by decide +kernel
theorem dX7_readChange_19 : decode cX7_readChange 19 = .ok (.iconst 5, 1) := by decide +kernel
theorem dX7_readChange_20 : decode cX7_readChange 20 = .ok (.if_icmp .lt 5, 3) := by decide +kernel
theorem dX7_readChange_23 : decode cX7_readChange 23 = .ok (.iconst 0, 1) := by decide +kernel
theorem dX7_readChange_24 : decode cX7_readChange 24 = .ok (.ireturn, 1) := by decide +kernel
theorem dX7_readChange_25 : decode cX7_readChange 25 = .ok (.aload_n 1, 1) := by decide +kernel
theorem dX7_readChange_26 : decode cX7_readChange 26 = .ok (.getfield 103, 3) := by decide +kernel
theorem dX7_readChange_29 : decode cX7_readChange 29 = .ok (.iload_n 2, 1) := by decide +kernel
theorem dX7_readChange_30 : decode cX7_readChange 30 = .ok (.iload_n 3, 1) := by decide +kernel
theorem dX7_readChange_31 : decode cX7_readChange 31 = .ok (.iastore, 1) := by decide +kernel
theorem dX7_readChange_32 : decode cX7_readChange 32 = .ok (.aload_n 0, 1) := by decide +kernel
theorem dX7_readChange_33 : decode cX7_readChange 33 = .ok (.dup, 1) := by decide +kernel
theorem dX7_readChange_34 : decode cX7_readChange 34 = .ok (.getfield 19, 3) := by decide +kernel
theorem dX7_readChange_37 : decode cX7_readChange 37 = .ok (.iconst 1, 1) := by decide +kernel
theorem dX7_readChange_38 : decode cX7_readChange 38 = .ok (.iadd, 1) := by decide +kernel
theorem dX7_readChange_39 : decode cX7_readChange 39 = .ok (.putfield 19, 3) := by decide +kernel
theorem dX7_readChange_42 : decode cX7_readChange 42 = .ok (.iinc 2 1, 3) := by decide +kernel
theorem dX7_readChange_45 : decode cX7_readChange 45 = .ok (.goto (-43), 3) := by decide +kernel
theorem dX7_readChange_48 : decode cX7_readChange 48 = .ok (.iconst 1, 1) := by decide +kernel
theorem dX7_readChange_49 : decode cX7_readChange 49 = .ok (.ireturn, 1) := by decide +kernel
def X7_readChange_L2 : Nat → Int32 → Rec → Rec → Option ((Int32 × Rec × Rec) ⊕ (Rec × Rec))
  | 0, _, _, _ => none
  | n2 + 1, v1, Z2, Z3 => if (5 : Int32) ≤ v1 then
      some (.inr (Z2, Z3))
    else
      (X7_signAmong_1 Z2).bind fun v6 =>
      if v6 < 0 then
        some (.inl ((0 : Int32), Z2, Z3))
      else
        if v6 < (5 : Int32) then
          (wrI (Z3.2.1 7) 5 v1 v6).bind fun w9 =>
          aLet (v1 + (1 : Int32)) fun v12 =>
          X7_readChange_L2 n2 v12 (sI Z2 2 ((Z2.1 2) + (1 : Int32))) (sA Z3 7 w9)
        else
          some (.inl ((0 : Int32), Z2, Z3))
def X7_readChange (S0 : Rec) (S1 : Rec) : Option (Int32 × Rec × Rec) :=
  (X7_readChange_L2 aFu (0 : Int32) S0 S1).bind fun e13 =>
  aCs e13 (fun t16 => some t16) (fun s15 =>
    some ((1 : Int32), s15.1, s15.2))
set_option maxRecDepth 100000 in
set_option maxHeartbeats 4000000 in
theorem X7_readChange_ok (l : Launch) {h : aH} {nx : Nat} {a0 : Nat} {a1 : Nat} {S0 : Rec} {S1 : Rec} (hB0 : X7_at h a0 S0) (hB1 : X2_at h a1 S1) (hs01 : a0 + 2 ≤ a1 ∨ a1 + 8 ≤ a0) {r : Int32 × Rec × Rec} (hF : X7_readChange S0 S1 = some r) : aOk l 9 0 0 yX7_readChange cX7_readChange 4 (some .boolean) [.ref a0, .ref a1] h nx (aMt (some (.int r.1)) nx (fun h1 => X7_at h1 a0 r.2.1 ∧ X2_at h1 a1 r.2.2 ∧ (∀ q, (q < a0 ∨ a0 + 2 ≤ q) → (q < a1 ∨ a1 + 8 ≤ q) → h1 q = h q))) := by
  refine aOk.of (by decide +kernel) (Nat.le_of_ble_eq_true rfl) (fun X G hX C R0 _ => ?_)
  subst hX
  show aV X G 4 0 [(0, .ref a0), (1, .ref a1)] [] h nx 0 0
  have hFr : ∀ q, (q < a0 ∨ a0 + 2 ≤ q) → (q < a1 ∨ a1 + 8 ≤ q) → h q = h q := fun _ _ _ => rfl
  rw [X7_readChange] at hF
  refine ab_iconst (v := (0 : Int32)) C dX7_readChange_0 (by decide) ?_
  refine ab_istore_n (lv' := [(2, .int (0 : Int32)), (0, .ref a0), (1, .ref a1)]) C dX7_readChange_1 rfl (by decide) rfl ?_
  have L2 : ∀ (n2 : Nat) (v1 : Int32) (Z2 : Rec) (Z3 : Rec) (g4 : aH), (X7_at g4 a0 Z2) → (X2_at g4 a1 Z3) → (∀ q, (q < a0 ∨ a0 + 2 ≤ q) → (q < a1 ∨ a1 + 8 ≤ q) → g4 q = h q) → ∀ (res2 : (Int32 × Rec × Rec) ⊕ (Rec × Rec)), X7_readChange_L2 n2 v1 Z2 Z3 = some res2 → (∀ (s : Rec × Rec) (q9 : aH), (X7_at q9 a0 s.1) → (X2_at q9 a1 s.2) → (∀ q, (q < a0 ∨ a0 + 2 ≤ q) → (q < a1 ∨ a1 + 8 ≤ q) → q9 q = h q) → res2 = .inr s → aV X G 4 48 [] [] q9 nx 0 0) → (∀ (t : Int32 × Rec × Rec) (q9 : aH), (X7_at q9 a0 t.2.1) → (X2_at q9 a1 t.2.2) → (∀ q, (q < a0 ∨ a0 + 2 ≤ q) → (q < a1 ∨ a1 + 8 ≤ q) → q9 q = h q) → res2 = .inl t → (aMt (some (.int r.1)) nx (fun h1 => X7_at h1 a0 r.2.1 ∧ X2_at h1 a1 r.2.2 ∧ (∀ q, (q < a0 ∨ a0 + 2 ≤ q) → (q < a1 ∨ a1 + 8 ≤ q) → h1 q = h q))) (some (.int t.1)) q9 nx) → aV X G 4 2 [(0, .ref a0), (1, .ref a1), (2, .int v1)] [] g4 nx 0 0 := by
    intro n2
    induction n2 with
    | zero => intro v1 Z2 Z3 g4 hB0 hB1 hFr res2 hF KX2 KR2; cases (show (none : Option ((Int32 × Rec × Rec) ⊕ (Rec × Rec))) = some res2 from hF)
    | succ n2 ih2 =>
      intro v1 Z2 Z3 g4 hB0 hB1 hFr res2 hF KX2 KR2
      rw [X7_readChange_L2] at hF
      refine ab_iload_n C 2 rfl rfl dX7_readChange_2 ?_
      refine ab_iconst (v := (5 : Int32)) C dX7_readChange_3 (by decide) ?_
      refine ab_icmp_ge C 48 dX7_readChange_4 (by decide) (fun c5 => ?_) (fun c5 => ?_)
      · replace hF := (if_pos c5).symm.trans hF
        obtain rfl := Option.some.inj hF
        refine aV.sub (lv' := []) [] rfl ?_
        exact KX2 (Z2, Z3) g4 hB0 hB1 hFr rfl
      · replace hF := (if_neg c5).symm.trans hF
        refine ab_aload_n C 0 rfl rfl dX7_readChange_7 ?_
        refine ab_text1 C dX7_readChange_8 ?_
        obtain ⟨v6, hxv6, hF⟩ := Option.bind_eq_some_iff.mp hF
        refine ab_cVR (v := .int v6) (st := []) C lm_X7_59 (X7_signAmong_1_ok (xl X) hB0 (r := v6) hxv6) [.ref 1] rfl hB0.1 rfl rfl rfl (by decide) ⟨Nat.zero_le _, Nat.zero_le _⟩ (Nat.le_of_ble_eq_true rfl) dX7_readChange_10 ?_
        refine ab_istore_n (lv' := [(3, .int v6), (0, .ref a0), (1, .ref a1), (2, .int v1)]) C dX7_readChange_13 rfl (by decide) rfl ?_
        refine ab_iload_n C 0 rfl rfl dX7_readChange_14 ?_
        refine ab_if_lt C 23 dX7_readChange_15 (by decide) (fun c7 => ?_) (fun c7 => ?_)
        · replace hF := (if_pos c7).symm.trans hF
          refine ab_iconst (v := (0 : Int32)) C dX7_readChange_23 (by decide) ?_
          obtain rfl := Option.some.inj hF
          exact ab_iret C R0 rfl dX7_readChange_24 (KR2 ((0 : Int32), Z2, Z3) g4 hB0 hB1 hFr rfl)
        · replace hF := (if_neg c7).symm.trans hF
          refine ab_iload_n C 0 rfl rfl dX7_readChange_18 ?_
          refine ab_iconst (v := (5 : Int32)) C dX7_readChange_19 (by decide) ?_
          refine ab_icmp_lt C 25 dX7_readChange_20 (by decide) (fun c8 => ?_) (fun c8 => ?_)
          · replace hF := (if_pos c8).symm.trans hF
            refine ab_aload_n C 2 rfl rfl dX7_readChange_25 ?_
            refine ab_g2 (v := .ref (a1 + 4)) C lf_X7_103 hB1.1 rfl dX7_readChange_26 ?_
            refine ab_iload_n C 3 rfl rfl dX7_readChange_29 ?_
            refine ab_iload_n C 0 rfl rfl dX7_readChange_30 ?_
            obtain ⟨w9, hxw9, hF⟩ := Option.bind_eq_some_iff.mp hF
            refine ab_iast C (X2_r7 hB1) hxw9 dX7_readChange_31 (fun g10 eg10 og10 => ?_)
            have hB1 : X2_at g10 a1 (sA Z3 7 w9) := X2_w7 hB1 eg10 og10
            have hB0 : X7_at g10 a0 Z2 := X7_off hB0 (fun q i1 i2 => og10 q (by omega))
            have hFr : ∀ q, (q < a0 ∨ a0 + 2 ≤ q) → (q < a1 ∨ a1 + 8 ≤ q) → g10 q = h q := fun q u0 u1 => (og10 q (by omega)).trans (hFr q u0 u1)
            refine ab_aload_n C 1 rfl rfl dX7_readChange_32 ?_
            refine ab_dup C rfl dX7_readChange_33 ?_
            refine ab_g7 (v := .int (Z2.1 2)) C lf_X7_19 hB0.1 rfl dX7_readChange_34 ?_
            refine ab_iconst (v := (1 : Int32)) C dX7_readChange_37 (by decide) ?_
            refine ab_iadd C dX7_readChange_38 ?_
            refine ab_p7 (ty := .int) C lf_X7_19 rfl (by decide +kernel) rfl rfl (Nat.le_of_ble_eq_true rfl) hB0.1 dX7_readChange_39 (fun g11 eg11 og11 => ?_)
            have hB0 : X7_at g11 a0 (sI Z2 2 ((Z2.1 2) + (1 : Int32))) := X7_p2 hB0 eg11 og11
            have hB1 : X2_at g11 a1 (sA Z3 7 w9) := X2_off hB1 (fun q i1 i2 => og11 q (by omega))
            have hFr : ∀ q, (q < a0 ∨ a0 + 2 ≤ q) → (q < a1 ∨ a1 + 8 ≤ q) → g11 q = h q := fun q u0 u1 => (og11 q (by omega)).trans (hFr q u0 u1)
            obtain ⟨v12, qv12⟩ : ∃ y : Int32, y = (v1 + (1 : Int32)) := ⟨_, rfl⟩
            replace hF := aLet_e hF v12 qv12
            refine ab_iinc (lv' := [(2, .int v12), (3, .int v6), (0, .ref a0), (1, .ref a1)]) C 3 rfl dX7_readChange_42 (by rw [qv12]; rfl) (by decide) rfl ?_
            refine ab_goto C 2 dX7_readChange_45 (by decide) ?_
            refine aV.sub (lv' := [(0, .ref a0), (1, .ref a1), (2, .int v12)]) [2, 3, 0] rfl ?_
            exact ih2 v12 (sI Z2 2 ((Z2.1 2) + (1 : Int32))) (sA Z3 7 w9) g11 hB0 hB1 hFr res2 hF KX2 KR2
          · replace hF := (if_neg c8).symm.trans hF
            refine ab_iconst (v := (0 : Int32)) C dX7_readChange_23 (by decide) ?_
            obtain rfl := Option.some.inj hF
            exact ab_iret C R0 rfl dX7_readChange_24 (KR2 ((0 : Int32), Z2, Z3) g4 hB0 hB1 hFr rfl)
  refine aV.sub (lv' := [(0, .ref a0), (1, .ref a1), (2, .int (0 : Int32))]) [1, 2, 0] rfl ?_
  obtain ⟨e13, he13, hF⟩ := Option.bind_eq_some_iff.mp hF
  refine L2 aFu (0 : Int32) S0 S1 h hB0 hB1 hFr e13 he13 (fun s15 g14 hB0 hB1 hFr eqs15 => ?_) (fun t16 g17 hB0 hB1 hFr eqt16 => ?_)
  · subst eqs15
    replace hF := aCs_r hF
    refine ab_iconst (v := (1 : Int32)) C dX7_readChange_48 (by decide) ?_
    obtain rfl := Option.some.inj hF
    exact ab_iret C R0 rfl dX7_readChange_49 ⟨rfl, rfl, hB0, hB1, hFr⟩
  · subst eqt16
    replace hF := aCs_l hF
    obtain rfl := Option.some.inj hF
    exact ⟨rfl, rfl, hB0, hB1, hFr⟩
theorem dX7_readInto_0 : decode cX7_readInto 0 = .ok (.aload_n 0, 1) := by decide +kernel
theorem dX7_readInto_1 : decode cX7_readInto 1 = .ok (.iconst 0, 1) := by decide +kernel
theorem dX7_readInto_2 : decode cX7_readInto 2 = .ok (.putfield 19, 3) := by decide +kernel
theorem dX7_readInto_5 : decode cX7_readInto 5 = .ok (.aload_n 1, 1) := by decide +kernel
theorem dX7_readInto_6 : decode cX7_readInto 6 = .ok (.invokevirtual 22, 3) := by decide +kernel
theorem dX7_readInto_9 : decode cX7_readInto 9 = .ok (.aload_n 0, 1) := by decide +kernel
theorem dX7_readInto_10 : decode cX7_readInto 10 = .ok (.bipush 108, 2) := by decide +kernel
theorem dX7_readInto_12 : decode cX7_readInto 12 = .ok (.invokevirtual 27, 3) := by decide +kernel
theorem dX7_readInto_15 : decode cX7_readInto 15 = .ok (.ifCond .eq 94, 3) := by decide +kernel
theorem dX7_readInto_18 : decode cX7_readInto 18 = .ok (.aload_n 0, 1) := by decide +kernel
theorem dX7_readInto_19 : decode cX7_readInto 19 = .ok (.aload_n 1, 1) := by decide +kernel
theorem dX7_readInto_20 : decode cX7_readInto 20 = .ok (.invokevirtual 31, 3) := by decide +kernel
theorem dX7_readInto_23 : decode cX7_readInto 23 = .ok (.ifCond .eq 86, 3) := by decide +kernel
theorem dX7_readInto_26 : decode cX7_readInto 26 = .ok (.aload_n 0, 1) := by decide +kernel
theorem dX7_readInto_27 : decode cX7_readInto 27 = .ok (.bipush 59, 2) := by decide +kernel
theorem dX7_readInto_29 : decode cX7_readInto 29 = .ok (.invokevirtual 27, 3) := by decide +kernel
theorem dX7_readInto_32 : decode cX7_readInto 32 = .ok (.ifCond .eq 77, 3) := by decide +kernel
theorem dX7_readInto_35 : decode cX7_readInto 35 = .ok (.aload_n 0, 1) := by decide +kernel
theorem dX7_readInto_36 : decode cX7_readInto 36 = .ok (.aload_n 1, 1) := by decide +kernel
theorem dX7_readInto_37 : decode cX7_readInto 37 = .ok (.invokevirtual 35, 3) := by decide +kernel
theorem dX7_readInto_40 : decode cX7_readInto 40 = .ok (.ifCond .eq 69, 3) := by decide +kernel
theorem dX7_readInto_43 : decode cX7_readInto 43 = .ok (.aload_n 0, 1) := by decide +kernel
theorem dX7_readInto_44 : decode cX7_readInto 44 = .ok (.bipush 59, 2) := by decide +kernel
theorem dX7_readInto_46 : decode cX7_readInto 46 = .ok (.invokevirtual 27, 3) := by decide +kernel
theorem dX7_readInto_49 : decode cX7_readInto 49 = .ok (.ifCond .eq 60, 3) := by decide +kernel
theorem dX7_readInto_52 : decode cX7_readInto 52 = .ok (.aload_n 0, 1) := by decide +kernel
theorem dX7_readInto_53 : decode cX7_readInto 53 = .ok (.aload_n 1, 1) := by decide +kernel
theorem dX7_readInto_54 : decode cX7_readInto 54 = .ok (.invokevirtual 38, 3) := by decide +kernel
theorem dX7_readInto_57 : decode cX7_readInto 57 = .ok (.ifCond .eq 52, 3) := by decide +kernel
theorem dX7_readInto_60 : decode cX7_readInto 60 = .ok (.aload_n 0, 1) := by decide +kernel
theorem dX7_readInto_61 : decode cX7_readInto 61 = .ok (.bipush 59, 2) := by decide +kernel
theorem dX7_readInto_63 : decode cX7_readInto 63 = .ok (.invokevirtual 27, 3) := by decide +kernel
theorem dX7_readInto_66 : decode cX7_readInto 66 = .ok (.ifCond .eq 43, 3) := by decide +kernel
theorem dX7_readInto_69 : decode cX7_readInto 69 = .ok (.aload_n 0, 1) := by decide +kernel
theorem dX7_readInto_70 : decode cX7_readInto 70 = .ok (.aload_n 1, 1) := by decide +kernel
theorem dX7_readInto_71 : decode cX7_readInto 71 = .ok (.invokevirtual 41, 3) := by decide +kernel
theorem dX7_readInto_74 : decode cX7_readInto 74 = .ok (.ifCond .eq 35, 3) := by decide +kernel
theorem dX7_readInto_77 : decode cX7_readInto 77 = .ok (.aload_n 0, 1) := by decide +kernel
theorem dX7_readInto_78 : decode cX7_readInto 78 = .ok (.bipush 59, 2) := by decide +kernel
theorem dX7_readInto_80 : decode cX7_readInto 80 = .ok (.invokevirtual 27, 3) := by decide +kernel
theorem dX7_readInto_83 : decode cX7_readInto 83 = .ok (.ifCond .eq 26, 3) := by decide +kernel
theorem dX7_readInto_86 : decode cX7_readInto 86 = .ok (.aload_n 0, 1) := by decide +kernel
theorem dX7_readInto_87 : decode cX7_readInto 87 = .ok (.aload_n 1, 1) := by decide +kernel
theorem dX7_readInto_88 : decode cX7_readInto 88 = .ok (.invokevirtual 44, 3) := by decide +kernel
theorem dX7_readInto_91 : decode cX7_readInto 91 = .ok (.ifCond .eq 18, 3) := by decide +kernel
theorem dX7_readInto_94 : decode cX7_readInto 94 = .ok (.aload_n 0, 1) := by decide +kernel
theorem dX7_readInto_95 : decode cX7_readInto 95 = .ok (.getfield 19, 3) := by decide +kernel
theorem dX7_readInto_98 : decode cX7_readInto 98 = .ok (.aload_n 0, 1) := by decide +kernel
theorem dX7_readInto_99 : decode cX7_readInto 99 = .ok (.getfield 15, 3) := by decide +kernel
theorem dX7_readInto_102 : decode cX7_readInto 102 = .ok (.if_icmp .ne 7, 3) := by decide +kernel
theorem dX7_readInto_105 : decode cX7_readInto 105 = .ok (.iconst 1, 1) := by decide +kernel
theorem dX7_readInto_106 : decode cX7_readInto 106 = .ok (.goto 4, 3) := by decide +kernel
theorem dX7_readInto_109 : decode cX7_readInto 109 = .ok (.iconst 0, 1) := by decide +kernel
theorem dX7_readInto_110 : decode cX7_readInto 110 = .ok (.ireturn, 1) := by decide +kernel
def X7_readInto (S0 : Rec) (S1 : Rec) : Option (Int32 × Rec × Rec) :=
  (X2_clear S1).bind fun v2 =>
  (X7_passes (sI S0 2 (0 : Int32)) (108 : Int32)).bind fun v4 =>
  if v4.1 = 0 then
    some ((0 : Int32), v4.2, v2)
  else
    (X7_readHolders v4.2 v2).bind fun v7 =>
    if v7.1 = 0 then
      some ((0 : Int32), v7.2.1, v7.2.2)
    else
      (X7_passes v7.2.1 (59 : Int32)).bind fun v10 =>
      if v10.1 = 0 then
        some ((0 : Int32), v10.2, v7.2.2)
      else
        (X7_readCells v10.2 v7.2.2).bind fun v13 =>
        if v13.1 = 0 then
          some ((0 : Int32), v13.2.1, v13.2.2)
        else
          (X7_passes v13.2.1 (59 : Int32)).bind fun v16 =>
          if v16.1 = 0 then
            some ((0 : Int32), v16.2, v13.2.2)
          else
            (X7_readWhose v16.2 v13.2.2).bind fun v19 =>
            if v19.1 = 0 then
              some ((0 : Int32), v19.2.1, v19.2.2)
            else
              (X7_passes v19.2.1 (59 : Int32)).bind fun v22 =>
              if v22.1 = 0 then
                some ((0 : Int32), v22.2, v19.2.2)
              else
                (X7_readWords v22.2 v19.2.2).bind fun v25 =>
                if v25.1 = 0 then
                  some ((0 : Int32), v25.2.1, v25.2.2)
                else
                  (X7_passes v25.2.1 (59 : Int32)).bind fun v28 =>
                  if v28.1 = 0 then
                    some ((0 : Int32), v28.2, v25.2.2)
                  else
                    (X7_readChange v28.2 v25.2.2).bind fun v31 =>
                    if v31.1 = 0 then
                      some ((0 : Int32), v31.2.1, v31.2.2)
                    else
                      if (v31.2.1.1 2) = (v31.2.1.1 1) then
                        some ((1 : Int32), v31.2.1, v31.2.2)
                      else
                        some ((0 : Int32), v31.2.1, v31.2.2)
set_option maxRecDepth 100000 in
set_option maxHeartbeats 4000000 in
theorem X7_readInto_ok (l : Launch) {h : aH} {nx : Nat} {a0 : Nat} {a1 : Nat} {S0 : Rec} {S1 : Rec} (hB0 : X7_at h a0 S0) (hB1 : X2_at h a1 S1) (hs01 : a0 + 2 ≤ a1 ∨ a1 + 8 ≤ a0) {r : Int32 × Rec × Rec} (hF : X7_readInto S0 S1 = some r) : aOk l 11 0 0 yX7_readInto cX7_readInto 2 (some .boolean) [.ref a0, .ref a1] h nx (aMt (some (.int r.1)) nx (fun h1 => X7_at h1 a0 r.2.1 ∧ X2_at h1 a1 r.2.2 ∧ (∀ q, (q < a0 ∨ a0 + 2 ≤ q) → (q < a1 ∨ a1 + 8 ≤ q) → h1 q = h q))) := by
  refine aOk.of (by decide +kernel) (Nat.le_of_ble_eq_true rfl) (fun X G hX C R0 _ => ?_)
  subst hX
  show aV X G 2 0 [(0, .ref a0), (1, .ref a1)] [] h nx 0 0
  have hFr : ∀ q, (q < a0 ∨ a0 + 2 ≤ q) → (q < a1 ∨ a1 + 8 ≤ q) → h q = h q := fun _ _ _ => rfl
  rw [X7_readInto] at hF
  refine ab_aload_n C 0 rfl rfl dX7_readInto_0 ?_
  refine ab_iconst (v := (0 : Int32)) C dX7_readInto_1 (by decide) ?_
  refine ab_p7 (ty := .int) C lf_X7_19 rfl (by decide +kernel) rfl rfl (Nat.le_of_ble_eq_true rfl) hB0.1 dX7_readInto_2 (fun g1 eg1 og1 => ?_)
  have hB0 : X7_at g1 a0 (sI S0 2 (0 : Int32)) := X7_p2 hB0 eg1 og1
  have hB1 : X2_at g1 a1 S1 := X2_off hB1 (fun q i1 i2 => og1 q (by omega))
  have hFr : ∀ q, (q < a0 ∨ a0 + 2 ≤ q) → (q < a1 ∨ a1 + 8 ≤ q) → g1 q = h q := fun q u0 u1 => (og1 q (by omega)).trans (hFr q u0 u1)
  refine ab_aload_n C 1 rfl rfl dX7_readInto_5 ?_
  obtain ⟨v2, hxv2, hF⟩ := Option.bind_eq_some_iff.mp hF
  refine ab_cVN (st := []) C lm_X7_22 (X2_clear_ok (xl X) hB1 (r := v2) hxv2) [] rfl hB1.1 rfl rfl rfl (by decide) ⟨Nat.zero_le _, Nat.zero_le _⟩ (Nat.le_of_ble_eq_true rfl) dX7_readInto_6 (fun g3 pg3 => ?_)
  obtain ⟨k0, Og3⟩ := pg3
  have hB1 : X2_at g3 a1 v2 := k0
  have hB0 : X7_at g3 a0 (sI S0 2 (0 : Int32)) := X7_off hB0 (fun q i1 i2 => Og3 q (by omega))
  have hFr : ∀ q, (q < a0 ∨ a0 + 2 ≤ q) → (q < a1 ∨ a1 + 8 ≤ q) → g3 q = h q := fun q u0 u1 => (Og3 q (by omega)).trans (hFr q u0 u1)
  refine ab_aload_n C 0 rfl rfl dX7_readInto_9 ?_
  refine ab_bipush (v := (108 : Int32)) C dX7_readInto_10 (by decide) ?_
  obtain ⟨v4, hxv4, hF⟩ := Option.bind_eq_some_iff.mp hF
  refine ab_cVM (v := .int v4.1) (st := []) C lm_X7_27 (X7_passes_ok (xl X) hB0 (r := v4) hxv4) [.int (108 : Int32)] rfl hB0.1 rfl rfl rfl (by decide) ⟨Nat.zero_le _, Nat.zero_le _⟩ (Nat.le_of_ble_eq_true rfl) dX7_readInto_12 (fun g5 pg5 => ?_)
  obtain ⟨k0, Og5⟩ := pg5
  have hB0 : X7_at g5 a0 v4.2 := k0
  have hB1 : X2_at g5 a1 v2 := X2_off hB1 (fun q i1 i2 => Og5 q (by omega))
  have hFr : ∀ q, (q < a0 ∨ a0 + 2 ≤ q) → (q < a1 ∨ a1 + 8 ≤ q) → g5 q = h q := fun q u0 u1 => (Og5 q (by omega)).trans (hFr q u0 u1)
  refine ab_if_eq C 109 dX7_readInto_15 (by decide) (fun c6 => ?_) (fun c6 => ?_)
  · replace hF := (if_pos c6).symm.trans hF
    refine ab_iconst (v := (0 : Int32)) C dX7_readInto_109 (by decide) ?_
    obtain rfl := Option.some.inj hF
    exact ab_iret C R0 rfl dX7_readInto_110 ⟨rfl, rfl, hB0, hB1, hFr⟩
  · replace hF := (if_neg c6).symm.trans hF
    refine ab_aload_n C 0 rfl rfl dX7_readInto_18 ?_
    refine ab_aload_n C 1 rfl rfl dX7_readInto_19 ?_
    obtain ⟨v7, hxv7, hF⟩ := Option.bind_eq_some_iff.mp hF
    refine ab_cVM (v := .int v7.1) (st := []) C lm_X7_31 (X7_readHolders_ok (xl X) hB0 hB1 (by omega) (r := v7) hxv7) [.ref a1] rfl hB0.1 rfl rfl rfl (by decide) ⟨Nat.zero_le _, Nat.zero_le _⟩ (Nat.le_of_ble_eq_true rfl) dX7_readInto_20 (fun g8 pg8 => ?_)
    obtain ⟨k0, k1, Og8⟩ := pg8
    have hB0 : X7_at g8 a0 v7.2.1 := k0
    have hB1 : X2_at g8 a1 v7.2.2 := k1
    have hFr : ∀ q, (q < a0 ∨ a0 + 2 ≤ q) → (q < a1 ∨ a1 + 8 ≤ q) → g8 q = h q := fun q u0 u1 => (Og8 q (by omega) (by omega)).trans (hFr q u0 u1)
    refine ab_if_eq C 109 dX7_readInto_23 (by decide) (fun c9 => ?_) (fun c9 => ?_)
    · replace hF := (if_pos c9).symm.trans hF
      refine ab_iconst (v := (0 : Int32)) C dX7_readInto_109 (by decide) ?_
      obtain rfl := Option.some.inj hF
      exact ab_iret C R0 rfl dX7_readInto_110 ⟨rfl, rfl, hB0, hB1, hFr⟩
    · replace hF := (if_neg c9).symm.trans hF
      refine ab_aload_n C 0 rfl rfl dX7_readInto_26 ?_
      refine ab_bipush (v := (59 : Int32)) C dX7_readInto_27 (by decide) ?_
      obtain ⟨v10, hxv10, hF⟩ := Option.bind_eq_some_iff.mp hF
      refine ab_cVM (v := .int v10.1) (st := []) C lm_X7_27 (X7_passes_ok (xl X) hB0 (r := v10) hxv10) [.int (59 : Int32)] rfl hB0.1 rfl rfl rfl (by decide) ⟨Nat.zero_le _, Nat.zero_le _⟩ (Nat.le_of_ble_eq_true rfl) dX7_readInto_29 (fun g11 pg11 => ?_)
      obtain ⟨k0, Og11⟩ := pg11
      have hB0 : X7_at g11 a0 v10.2 := k0
      have hB1 : X2_at g11 a1 v7.2.2 := X2_off hB1 (fun q i1 i2 => Og11 q (by omega))
      have hFr : ∀ q, (q < a0 ∨ a0 + 2 ≤ q) → (q < a1 ∨ a1 + 8 ≤ q) → g11 q = h q := fun q u0 u1 => (Og11 q (by omega)).trans (hFr q u0 u1)
      refine ab_if_eq C 109 dX7_readInto_32 (by decide) (fun c12 => ?_) (fun c12 => ?_)
      · replace hF := (if_pos c12).symm.trans hF
        refine ab_iconst (v := (0 : Int32)) C dX7_readInto_109 (by decide) ?_
        obtain rfl := Option.some.inj hF
        exact ab_iret C R0 rfl dX7_readInto_110 ⟨rfl, rfl, hB0, hB1, hFr⟩
      · replace hF := (if_neg c12).symm.trans hF
        refine ab_aload_n C 0 rfl rfl dX7_readInto_35 ?_
        refine ab_aload_n C 1 rfl rfl dX7_readInto_36 ?_
        obtain ⟨v13, hxv13, hF⟩ := Option.bind_eq_some_iff.mp hF
        refine ab_cVM (v := .int v13.1) (st := []) C lm_X7_35 (X7_readCells_ok (xl X) hB0 hB1 (by omega) (r := v13) hxv13) [.ref a1] rfl hB0.1 rfl rfl rfl (by decide) ⟨Nat.zero_le _, Nat.zero_le _⟩ (Nat.le_of_ble_eq_true rfl) dX7_readInto_37 (fun g14 pg14 => ?_)
        obtain ⟨k0, k1, Og14⟩ := pg14
        have hB0 : X7_at g14 a0 v13.2.1 := k0
        have hB1 : X2_at g14 a1 v13.2.2 := k1
        have hFr : ∀ q, (q < a0 ∨ a0 + 2 ≤ q) → (q < a1 ∨ a1 + 8 ≤ q) → g14 q = h q := fun q u0 u1 => (Og14 q (by omega) (by omega)).trans (hFr q u0 u1)
        refine ab_if_eq C 109 dX7_readInto_40 (by decide) (fun c15 => ?_) (fun c15 => ?_)
        · replace hF := (if_pos c15).symm.trans hF
          refine ab_iconst (v := (0 : Int32)) C dX7_readInto_109 (by decide) ?_
          obtain rfl := Option.some.inj hF
          exact ab_iret C R0 rfl dX7_readInto_110 ⟨rfl, rfl, hB0, hB1, hFr⟩
        · replace hF := (if_neg c15).symm.trans hF
          refine ab_aload_n C 0 rfl rfl dX7_readInto_43 ?_
          refine ab_bipush (v := (59 : Int32)) C dX7_readInto_44 (by decide) ?_
          obtain ⟨v16, hxv16, hF⟩ := Option.bind_eq_some_iff.mp hF
          refine ab_cVM (v := .int v16.1) (st := []) C lm_X7_27 (X7_passes_ok (xl X) hB0 (r := v16) hxv16) [.int (59 : Int32)] rfl hB0.1 rfl rfl rfl (by decide) ⟨Nat.zero_le _, Nat.zero_le _⟩ (Nat.le_of_ble_eq_true rfl) dX7_readInto_46 (fun g17 pg17 => ?_)
          obtain ⟨k0, Og17⟩ := pg17
          have hB0 : X7_at g17 a0 v16.2 := k0
          have hB1 : X2_at g17 a1 v13.2.2 := X2_off hB1 (fun q i1 i2 => Og17 q (by omega))
          have hFr : ∀ q, (q < a0 ∨ a0 + 2 ≤ q) → (q < a1 ∨ a1 + 8 ≤ q) → g17 q = h q := fun q u0 u1 => (Og17 q (by omega)).trans (hFr q u0 u1)
          refine ab_if_eq C 109 dX7_readInto_49 (by decide) (fun c18 => ?_) (fun c18 => ?_)
          · replace hF := (if_pos c18).symm.trans hF
            refine ab_iconst (v := (0 : Int32)) C dX7_readInto_109 (by decide) ?_
            obtain rfl := Option.some.inj hF
            exact ab_iret C R0 rfl dX7_readInto_110 ⟨rfl, rfl, hB0, hB1, hFr⟩
          · replace hF := (if_neg c18).symm.trans hF
            refine ab_aload_n C 0 rfl rfl dX7_readInto_52 ?_
            refine ab_aload_n C 1 rfl rfl dX7_readInto_53 ?_
            obtain ⟨v19, hxv19, hF⟩ := Option.bind_eq_some_iff.mp hF
            refine ab_cVM (v := .int v19.1) (st := []) C lm_X7_38 (X7_readWhose_ok (xl X) hB0 hB1 (by omega) (r := v19) hxv19) [.ref a1] rfl hB0.1 rfl rfl rfl (by decide) ⟨Nat.zero_le _, Nat.zero_le _⟩ (Nat.le_of_ble_eq_true rfl) dX7_readInto_54 (fun g20 pg20 => ?_)
            obtain ⟨k0, k1, Og20⟩ := pg20
            have hB0 : X7_at g20 a0 v19.2.1 := k0
            have hB1 : X2_at g20 a1 v19.2.2 := k1
            have hFr : ∀ q, (q < a0 ∨ a0 + 2 ≤ q) → (q < a1 ∨ a1 + 8 ≤ q) → g20 q = h q := fun q u0 u1 => (Og20 q (by omega) (by omega)).trans (hFr q u0 u1)
            refine ab_if_eq C 109 dX7_readInto_57 (by decide) (fun c21 => ?_) (fun c21 => ?_)
            · replace hF := (if_pos c21).symm.trans hF
              refine ab_iconst (v := (0 : Int32)) C dX7_readInto_109 (by decide) ?_
              obtain rfl := Option.some.inj hF
              exact ab_iret C R0 rfl dX7_readInto_110 ⟨rfl, rfl, hB0, hB1, hFr⟩
            · replace hF := (if_neg c21).symm.trans hF
              refine ab_aload_n C 0 rfl rfl dX7_readInto_60 ?_
              refine ab_bipush (v := (59 : Int32)) C dX7_readInto_61 (by decide) ?_
              obtain ⟨v22, hxv22, hF⟩ := Option.bind_eq_some_iff.mp hF
              refine ab_cVM (v := .int v22.1) (st := []) C lm_X7_27 (X7_passes_ok (xl X) hB0 (r := v22) hxv22) [.int (59 : Int32)] rfl hB0.1 rfl rfl rfl (by decide) ⟨Nat.zero_le _, Nat.zero_le _⟩ (Nat.le_of_ble_eq_true rfl) dX7_readInto_63 (fun g23 pg23 => ?_)
              obtain ⟨k0, Og23⟩ := pg23
              have hB0 : X7_at g23 a0 v22.2 := k0
              have hB1 : X2_at g23 a1 v19.2.2 := X2_off hB1 (fun q i1 i2 => Og23 q (by omega))
              have hFr : ∀ q, (q < a0 ∨ a0 + 2 ≤ q) → (q < a1 ∨ a1 + 8 ≤ q) → g23 q = h q := fun q u0 u1 => (Og23 q (by omega)).trans (hFr q u0 u1)
              refine ab_if_eq C 109 dX7_readInto_66 (by decide) (fun c24 => ?_) (fun c24 => ?_)
              · replace hF := (if_pos c24).symm.trans hF
                refine ab_iconst (v := (0 : Int32)) C dX7_readInto_109 (by decide) ?_
                obtain rfl := Option.some.inj hF
                exact ab_iret C R0 rfl dX7_readInto_110 ⟨rfl, rfl, hB0, hB1, hFr⟩
              · replace hF := (if_neg c24).symm.trans hF
                refine ab_aload_n C 0 rfl rfl dX7_readInto_69 ?_
                refine ab_aload_n C 1 rfl rfl dX7_readInto_70 ?_
                obtain ⟨v25, hxv25, hF⟩ := Option.bind_eq_some_iff.mp hF
                refine ab_cVM (v := .int v25.1) (st := []) C lm_X7_41 (X7_readWords_ok (xl X) hB0 hB1 (by omega) (r := v25) hxv25) [.ref a1] rfl hB0.1 rfl rfl rfl (by decide) ⟨Nat.zero_le _, Nat.zero_le _⟩ (Nat.le_of_ble_eq_true rfl) dX7_readInto_71 (fun g26 pg26 => ?_)
                obtain ⟨k0, k1, Og26⟩ := pg26
                have hB0 : X7_at g26 a0 v25.2.1 := k0
                have hB1 : X2_at g26 a1 v25.2.2 := k1
                have hFr : ∀ q, (q < a0 ∨ a0 + 2 ≤ q) → (q < a1 ∨ a1 + 8 ≤ q) → g26 q = h q := fun q u0 u1 => (Og26 q (by omega) (by omega)).trans (hFr q u0 u1)
                refine ab_if_eq C 109 dX7_readInto_74 (by decide) (fun c27 => ?_) (fun c27 => ?_)
                · replace hF := (if_pos c27).symm.trans hF
                  refine ab_iconst (v := (0 : Int32)) C dX7_readInto_109 (by decide) ?_
                  obtain rfl := Option.some.inj hF
                  exact ab_iret C R0 rfl dX7_readInto_110 ⟨rfl, rfl, hB0, hB1, hFr⟩
                · replace hF := (if_neg c27).symm.trans hF
                  refine ab_aload_n C 0 rfl rfl dX7_readInto_77 ?_
                  refine ab_bipush (v := (59 : Int32)) C dX7_readInto_78 (by decide) ?_
                  obtain ⟨v28, hxv28, hF⟩ := Option.bind_eq_some_iff.mp hF
                  refine ab_cVM (v := .int v28.1) (st := []) C lm_X7_27 (X7_passes_ok (xl X) hB0 (r := v28) hxv28) [.int (59 : Int32)] rfl hB0.1 rfl rfl rfl (by decide) ⟨Nat.zero_le _, Nat.zero_le _⟩ (Nat.le_of_ble_eq_true rfl) dX7_readInto_80 (fun g29 pg29 => ?_)
                  obtain ⟨k0, Og29⟩ := pg29
                  have hB0 : X7_at g29 a0 v28.2 := k0
                  have hB1 : X2_at g29 a1 v25.2.2 := X2_off hB1 (fun q i1 i2 => Og29 q (by omega))
                  have hFr : ∀ q, (q < a0 ∨ a0 + 2 ≤ q) → (q < a1 ∨ a1 + 8 ≤ q) → g29 q = h q := fun q u0 u1 => (Og29 q (by omega)).trans (hFr q u0 u1)
                  refine ab_if_eq C 109 dX7_readInto_83 (by decide) (fun c30 => ?_) (fun c30 => ?_)
                  · replace hF := (if_pos c30).symm.trans hF
                    refine ab_iconst (v := (0 : Int32)) C dX7_readInto_109 (by decide) ?_
                    obtain rfl := Option.some.inj hF
                    exact ab_iret C R0 rfl dX7_readInto_110 ⟨rfl, rfl, hB0, hB1, hFr⟩
                  · replace hF := (if_neg c30).symm.trans hF
                    refine ab_aload_n C 0 rfl rfl dX7_readInto_86 ?_
                    refine ab_aload_n C 1 rfl rfl dX7_readInto_87 ?_
                    obtain ⟨v31, hxv31, hF⟩ := Option.bind_eq_some_iff.mp hF
                    refine ab_cVM (v := .int v31.1) (st := []) C lm_X7_44 (X7_readChange_ok (xl X) hB0 hB1 (by omega) (r := v31) hxv31) [.ref a1] rfl hB0.1 rfl rfl rfl (by decide) ⟨Nat.zero_le _, Nat.zero_le _⟩ (Nat.le_of_ble_eq_true rfl) dX7_readInto_88 (fun g32 pg32 => ?_)
                    obtain ⟨k0, k1, Og32⟩ := pg32
                    have hB0 : X7_at g32 a0 v31.2.1 := k0
                    have hB1 : X2_at g32 a1 v31.2.2 := k1
                    have hFr : ∀ q, (q < a0 ∨ a0 + 2 ≤ q) → (q < a1 ∨ a1 + 8 ≤ q) → g32 q = h q := fun q u0 u1 => (Og32 q (by omega) (by omega)).trans (hFr q u0 u1)
                    refine ab_if_eq C 109 dX7_readInto_91 (by decide) (fun c33 => ?_) (fun c33 => ?_)
                    · replace hF := (if_pos c33).symm.trans hF
                      refine ab_iconst (v := (0 : Int32)) C dX7_readInto_109 (by decide) ?_
                      obtain rfl := Option.some.inj hF
                      exact ab_iret C R0 rfl dX7_readInto_110 ⟨rfl, rfl, hB0, hB1, hFr⟩
                    · replace hF := (if_neg c33).symm.trans hF
                      refine ab_aload_n C 0 rfl rfl dX7_readInto_94 ?_
                      refine ab_g7 (v := .int (v31.2.1.1 2)) C lf_X7_19 hB0.1 rfl dX7_readInto_95 ?_
                      refine ab_aload_n C 0 rfl rfl dX7_readInto_98 ?_
                      refine ab_g7 (v := .int (v31.2.1.1 1)) C lf_X7_15 hB0.1 rfl dX7_readInto_99 ?_
                      refine ab_icmp_ne C 109 dX7_readInto_102 (by decide) (fun c34 => ?_) (fun c34 => ?_)
                      · replace hF := (if_neg c34).symm.trans hF
                        refine ab_iconst (v := (0 : Int32)) C dX7_readInto_109 (by decide) ?_
                        obtain rfl := Option.some.inj hF
                        exact ab_iret C R0 rfl dX7_readInto_110 ⟨rfl, rfl, hB0, hB1, hFr⟩
                      · replace hF := (if_pos c34).symm.trans hF
                        refine ab_iconst (v := (1 : Int32)) C dX7_readInto_105 (by decide) ?_
                        refine ab_goto C 110 dX7_readInto_106 (by decide) ?_
                        obtain rfl := Option.some.inj hF
                        exact ab_iret C R0 rfl dX7_readInto_110 ⟨rfl, rfl, hB0, hB1, hFr⟩
