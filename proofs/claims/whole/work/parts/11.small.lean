/-! printed by a program from the bytecode: what each method answers, as numbers, and that it answers so -/
theorem dX0_begin_0 : decode cX0_begin 0 = .ok (.aload_n 0, 1) := by decide +kernel
theorem dX0_begin_1 : decode cX0_begin 1 = .ok (.iconst 0, 1) := by decide +kernel
theorem dX0_begin_2 : decode cX0_begin 2 = .ok (.putfield 25, 3) := by decide +kernel
theorem dX0_begin_5 : decode cX0_begin 5 = .ok (.lload_n 1, 1) := by decide +kernel
theorem dX0_begin_6 : decode cX0_begin 6 = .ok (.lstore 4, 2) := by decide +kernel
theorem dX0_begin_8 : decode cX0_begin 8 = .ok (.aload_n 0, 1) := by decide +kernel
theorem dX0_begin_9 : decode cX0_begin 9 = .ok (.getfield 25, 3) := by decide +kernel
theorem dX0_begin_12 : decode cX0_begin 12 = .ok (.aload_n 0, 1) := by decide +kernel
theorem dX0_begin_13 : decode cX0_begin 13 = .ok (.getfield 9, 3) := by decide +kernel
theorem dX0_begin_16 : decode cX0_begin 16 = .ok (.arraylength, 1) := by decide +kernel
theorem dX0_begin_17 : decode cX0_begin 17 = .ok (.if_icmp .ge 47, 3) := by decide +kernel
theorem dX0_begin_20 : decode cX0_begin 20 = .ok (.lload 4, 2) := by decide +kernel
theorem dX0_begin_22 : decode cX0_begin 22 = .ok (.lconst 0, 1) := by decide +kernel
theorem dX0_begin_23 : decode cX0_begin 23 = .ok (.lcmp, 1) := by decide +kernel
theorem dX0_begin_24 : decode cX0_begin 24 = .ok (.ifCond .eq 40, 3) := by decide +kernel
theorem dX0_begin_27 : decode cX0_begin 27 = .ok (.aload_n 0, 1) := by decide +kernel
theorem dX0_begin_28 : decode cX0_begin 28 = .ok (.getfield 9, 3) := by decide +kernel
theorem dX0_begin_31 : decode cX0_begin 31 = .ok (.aload_n 0, 1) := by decide +kernel
theorem dX0_begin_32 : decode cX0_begin 32 = .ok (.getfield 25, 3) := by decide +kernel
theorem dX0_begin_35 : decode cX0_begin 35 = .ok (.lload 4, 2) := by decide +kernel
theorem dX0_begin_37 : decode cX0_begin 37 = .ok (.lload 4, 2) := by decide +kernel
theorem dX0_begin_39 : decode cX0_begin 39 = .ok (.lneg, 1) := by decide +kernel
theorem dX0_begin_40 : decode cX0_begin 40 = .ok (.land, 1) := by decide +kernel
theorem dX0_begin_41 : decode cX0_begin 41 = .ok (.lastore, 1) := by decide +kernel
theorem dX0_begin_42 : decode cX0_begin 42 = .ok (.lload 4, 2) := by decide +kernel
theorem dX0_begin_44 : decode cX0_begin 44 = .ok (.lload 4, 2) := by decide +kernel
theorem dX0_begin_46 : decode cX0_begin 46 = .ok (.lconst 1, 1) := by decide +kernel
theorem dX0_begin_47 : decode cX0_begin 47 = .ok (.lsub, 1) := by decide +kernel
theorem dX0_begin_48 : decode cX0_begin 48 = .ok (.land, 1) := by decide +kernel
theorem dX0_begin_49 : decode cX0_begin 49 = .ok (.lstore 4, 2) := by decide +kernel
theorem dX0_begin_51 : decode cX0_begin 51 = .ok (.aload_n 0, 1) := by decide +kernel
theorem dX0_begin_52 : decode cX0_begin 52 = .ok (.dup, 1) := by decide +kernel
theorem dX0_begin_53 : decode cX0_begin 53 = .ok (.getfield 25, 3) := by decide +kernel
theorem dX0_begin_56 : decode cX0_begin 56 = .ok (.iconst 1, 1) := by decide +kernel
theorem dX0_begin_57 : decode cX0_begin 57 = .ok (.iadd, 1) := by decide +kernel
theorem dX0_begin_58 : decode cX0_begin 58 = .ok (.putfield 25, 3) := by decide +kernel
theorem dX0_begin_61 : decode cX0_begin 61 = .ok (.goto (-53), 3) := by decide +kernel
theorem dX0_begin_64 : decode cX0_begin 64 = .ok (.aload_n 0, 1) := by decide +kernel
theorem dX0_begin_65 : decode cX0_begin 65 = .ok (.iconst 0, 1) := by decide +kernel
theorem dX0_begin_66 : decode cX0_begin 66 = .ok (.iload_n 3, 1) := by decide +kernel
theorem dX0_begin_67 : decode cX0_begin 67 = .ok (.aload_n 0, 1) := by decide +kernel
theorem dX0_begin_68 : decode cX0_begin 68 = .ok (.getfield 21, 3) := by decide +kernel
theorem dX0_begin_71 : decode cX0_begin 71 = .ok (.arraylength, 1) := by decide +kernel
theorem dX0_begin_72 : decode cX0_begin 72 = .ok (.invokestatic 29, 3) := by decide +kernel
theorem dX0_begin_75 : decode cX0_begin 75 = .ok (.invokestatic 15, 3) := by decide +kernel
theorem dX0_begin_78 : decode cX0_begin 78 = .ok (.putfield 32, 3) := by decide +kernel
theorem dX0_begin_81 : decode cX0_begin 81 = .ok (.iconst 1, 1) := by decide +kernel
theorem dX0_begin_82 : decode cX0_begin 82 = .ok (.istore 6, 2) := by decide +kernel
theorem dX0_begin_84 : decode cX0_begin 84 = .ok (.iconst 0, 1) := by decide +kernel
theorem dX0_begin_85 : decode cX0_begin 85 = .ok (.istore 7, 2) := by decide +kernel
theorem dX0_begin_87 : decode cX0_begin 87 = .ok (.iload 7, 2) := by decide +kernel
theorem dX0_begin_89 : decode cX0_begin 89 = .ok (.aload_n 0, 1) := by decide +kernel
theorem dX0_begin_90 : decode cX0_begin 90 = .ok (.getfield 32, 3) := by decide +kernel
theorem dX0_begin_93 : decode cX0_begin 93 = .ok (.if_icmp .ge 39, 3) := by decide +kernel
theorem dX0_begin_96 : decode cX0_begin 96 = .ok (.aload_n 0, 1) := by decide +kernel
theorem dX0_begin_97 : decode cX0_begin 97 = .ok (.getfield 21, 3) := by decide +kernel
theorem dX0_begin_100 : decode cX0_begin 100 = .ok (.iload 7, 2) := by decide +kernel
theorem dX0_begin_102 : decode cX0_begin 102 = .ok (.iload 7, 2) := by decide +kernel
theorem dX0_begin_104 : decode cX0_begin 104 = .ok (.iastore, 1) := by decide +kernel
theorem dX0_begin_105 : decode cX0_begin 105 = .ok (.iload 6, 2) := by decide +kernel
theorem dX0_begin_107 : decode cX0_begin 107 = .ok (.iconst 0, 1) := by decide +kernel
theorem dX0_begin_108 : decode cX0_begin 108 = .ok (.aload_n 0, 1) := by decide +kernel
theorem dX0_begin_109 : decode cX0_begin 109 = .ok (.getfield 25, 3) := by decide +kernel
theorem dX0_begin_112 : decode cX0_begin 112 = .ok (.iload 7, 2) := by decide +kernel
theorem dX0_begin_114 : decode cX0_begin 114 = .ok (.isub, 1) := by decide +kernel
theorem dX0_begin_115 : decode cX0_begin 115 = .ok (.invokestatic 15, 3) := by decide +kernel
theorem dX0_begin_118 : decode cX0_begin 118 = .ok (.imul, 1) := by decide +kernel
theorem dX0_begin_119 : decode cX0_begin 119 = .ok (.iload 7, 2) := by decide +kernel
theorem dX0_begin_121 : decode cX0_begin 121 = .ok (.iconst 1, 1) := by decide +kernel
theorem dX0_begin_122 : decode cX0_begin 122 = .ok (.iadd, 1) := by decide +kernel
theorem dX0_begin_123 : decode cX0_begin 123 = .ok (.idiv, 1) := by decide +kernel
theorem dX0_begin_124 : decode cX0_begin 124 = .ok (.istore 6, 2) := by decide +kernel
theorem dX0_begin_126 : decode cX0_begin 126 = .ok (.iinc 7 1, 3) := by decide +kernel
theorem dX0_begin_129 : decode cX0_begin 129 = .ok (.goto (-42), 3) := by decide +kernel
theorem dX0_begin_132 : decode cX0_begin 132 = .ok (.iload 6, 2) := by decide +kernel
theorem dX0_begin_134 : decode cX0_begin 134 = .ok (.ireturn, 1) := by decide +kernel
def X0_begin_L8 : Nat → Int64 → Rec → Option (Rec)
  | 0, _, _ => none
  | n8 + 1, v2, Z3 => if (Int32.ofNat 36) ≤ (Z3.1 1) then
      some Z3
    else
      if (lg_cmp v2 (0 : Int64)) = 0 then
        some Z3
      else
        (wrL (Z3.2.2 0) 36 (Z3.1 1) (v2 &&& (-v2))).bind fun w7 =>
        aLet (v2 &&& (v2 - (1 : Int64))) fun v9 =>
        X0_begin_L8 n8 v9 (sI (sL Z3 0 w7) 1 (((sL Z3 0 w7).1 1) + (1 : Int32)))
def X0_begin_L87 : Nat → Int32 → Int32 → Rec → Option (Int32 × Rec)
  | 0, _, _, _ => none
  | n87 + 1, v14, v15, Z16 => if (Z16.1 3) ≤ v15 then
      some (v14, Z16)
    else
      (wrI (Z16.2.1 2) 3 v15 v15).bind fun w19 =>
      if (v15 + (1 : Int32)) = (0 : Int32) then none else
      aLet ((v14 * (a_max (0 : Int32) (((sA Z16 2 w19).1 1) - v15))) / (v15 + (1 : Int32))) fun v22 =>
      aLet (v15 + (1 : Int32)) fun v23 =>
      X0_begin_L87 n87 v22 v23 (sA Z16 2 w19)
def X0_begin (S0 : Rec) (y1 : Int64) (x3 : Int32) : Option (Int32 × Rec) :=
  (X0_begin_L8 aFu y1 (sI S0 1 (0 : Int32))).bind fun e11 =>
  (X0_begin_L87 aFu (1 : Int32) (0 : Int32) (sI e11 3 (a_max (0 : Int32) (a_min x3 (Int32.ofNat 3))))).bind fun e24 =>
  some (e24.1, e24.2)
set_option maxRecDepth 100000 in
set_option maxHeartbeats 4000000 in
theorem X0_begin_ok (l : Launch) {h : aH} {nx : Nat} {a0 : Nat} {S0 : Rec} {y1 : Int64} {x3 : Int32} (hB0 : X0_at h a0 S0) {r : Int32 × Rec} (hF : X0_begin S0 y1 x3 = some r) : aOk l 1 0 0 yX0_begin cX0_begin 8 (some .int) [.ref a0, .long y1, .int x3] h nx (aMt (some (.int r.1)) nx (fun h1 => X0_at h1 a0 r.2 ∧ (∀ q, (q < a0 ∨ a0 + 3 ≤ q) → h1 q = h q))) := by
  refine aOk.of (by decide +kernel) (Nat.le_of_ble_eq_true rfl) (fun X G hX C R0 _ => ?_)
  subst hX
  show aV X G 8 0 [(0, .ref a0), (1, .long y1), (3, .int x3)] [] h nx 0 0
  have hFr : ∀ q, (q < a0 ∨ a0 + 3 ≤ q) → h q = h q := fun _ _ => rfl
  rw [X0_begin] at hF
  refine ab_aload_n C 0 rfl rfl dX0_begin_0 ?_
  refine ab_iconst (v := (0 : Int32)) C dX0_begin_1 (by decide) ?_
  refine ab_p0 (ty := .int) C lf_X0_25 rfl (by decide +kernel) rfl rfl (Nat.le_of_ble_eq_true rfl) hB0.1 dX0_begin_2 (fun g1 eg1 og1 => ?_)
  have hB0 : X0_at g1 a0 (sI S0 1 (0 : Int32)) := X0_p1 hB0 eg1 og1
  have hFr : ∀ q, (q < a0 ∨ a0 + 3 ≤ q) → g1 q = h q := fun q u0 => (og1 q (by omega)).trans (hFr q u0)
  refine ab_lload_n C 1 rfl rfl dX0_begin_5 ?_
  refine ab_lstore (lv' := [(4, .long y1), (0, .ref a0), (1, .long y1), (3, .int x3)]) C dX0_begin_6 ⟨by decide, by decide⟩ rfl ?_
  have L8 : ∀ (n8 : Nat) (v2 : Int64) (Z3 : Rec) (g4 : aH), (X0_at g4 a0 Z3) → (∀ q, (q < a0 ∨ a0 + 3 ≤ q) → g4 q = h q) → ∀ (res8 : Rec), X0_begin_L8 n8 v2 Z3 = some res8 → (∀ (q9 : aH), (X0_at q9 a0 res8) → (∀ q, (q < a0 ∨ a0 + 3 ≤ q) → q9 q = h q) → aV X G 8 64 [(0, .ref a0), (3, .int x3)] [] q9 nx 0 0) → aV X G 8 8 [(0, .ref a0), (3, .int x3), (4, .long v2)] [] g4 nx 0 0 := by
    intro n8
    induction n8 with
    | zero => intro v2 Z3 g4 hB0 hFr res8 hF KX8; cases (show (none : Option (Rec)) = some res8 from hF)
    | succ n8 ih8 =>
      intro v2 Z3 g4 hB0 hFr res8 hF KX8
      rw [X0_begin_L8] at hF
      refine ab_aload_n C 0 rfl rfl dX0_begin_8 ?_
      refine ab_g0 (v := .int (Z3.1 1)) C lf_X0_25 hB0.1 rfl dX0_begin_9 ?_
      refine ab_aload_n C 0 rfl rfl dX0_begin_12 ?_
      refine ab_g0 (v := .ref (a0 + 1)) C lf_X0_9 hB0.1 rfl dX0_begin_13 ?_
      refine ab_alen1 C (X0_r0 hB0) dX0_begin_16 ?_
      refine ab_icmp_ge C 64 dX0_begin_17 (by decide) (fun c5 => ?_) (fun c5 => ?_)
      · replace hF := (if_pos c5).symm.trans hF
        obtain rfl := Option.some.inj hF
        refine aV.sub (lv' := [(0, .ref a0), (3, .int x3)]) [0, 1] rfl ?_
        exact KX8 g4 hB0 hFr
      · replace hF := (if_neg c5).symm.trans hF
        refine ab_lload C 2 rfl dX0_begin_20 ?_
        refine ab_lconst (v := (0 : Int64)) C dX0_begin_22 (by decide) ?_
        refine ab_lcmp C dX0_begin_23 ?_
        refine ab_if_eq C 64 dX0_begin_24 (by decide) (fun c6 => ?_) (fun c6 => ?_)
        · replace hF := (if_pos c6).symm.trans hF
          obtain rfl := Option.some.inj hF
          refine aV.sub (lv' := [(0, .ref a0), (3, .int x3)]) [0, 1] rfl ?_
          exact KX8 g4 hB0 hFr
        · replace hF := (if_neg c6).symm.trans hF
          refine ab_aload_n C 0 rfl rfl dX0_begin_27 ?_
          refine ab_g0 (v := .ref (a0 + 1)) C lf_X0_9 hB0.1 rfl dX0_begin_28 ?_
          refine ab_aload_n C 0 rfl rfl dX0_begin_31 ?_
          refine ab_g0 (v := .int (Z3.1 1)) C lf_X0_25 hB0.1 rfl dX0_begin_32 ?_
          refine ab_lload C 2 rfl dX0_begin_35 ?_
          refine ab_lload C 2 rfl dX0_begin_37 ?_
          refine ab_lneg C dX0_begin_39 ?_
          refine ab_land C dX0_begin_40 ?_
          obtain ⟨w7, hxw7, hF⟩ := Option.bind_eq_some_iff.mp hF
          refine ab_last C (X0_r0 hB0) hxw7 dX0_begin_41 (fun g8 eg8 og8 => ?_)
          have hB0 : X0_at g8 a0 (sL Z3 0 w7) := X0_w0 hB0 eg8 og8
          have hFr : ∀ q, (q < a0 ∨ a0 + 3 ≤ q) → g8 q = h q := fun q u0 => (og8 q (by omega)).trans (hFr q u0)
          refine ab_lload C 2 rfl dX0_begin_42 ?_
          refine ab_lload C 2 rfl dX0_begin_44 ?_
          refine ab_lconst (v := (1 : Int64)) C dX0_begin_46 (by decide) ?_
          refine ab_lsub C dX0_begin_47 ?_
          refine ab_land C dX0_begin_48 ?_
          refine ab_topl (fun v9 qv9 => ?_)
          replace hF := aLet_e hF v9 qv9
          refine ab_lstore (lv' := [(4, .long v9), (0, .ref a0), (3, .int x3)]) C dX0_begin_49 ⟨by decide, by decide⟩ rfl ?_
          refine ab_aload_n C 1 rfl rfl dX0_begin_51 ?_
          refine ab_dup C rfl dX0_begin_52 ?_
          refine ab_g0 (v := .int ((sL Z3 0 w7).1 1)) C lf_X0_25 hB0.1 rfl dX0_begin_53 ?_
          refine ab_iconst (v := (1 : Int32)) C dX0_begin_56 (by decide) ?_
          refine ab_iadd C dX0_begin_57 ?_
          refine ab_p0 (ty := .int) C lf_X0_25 rfl (by decide +kernel) rfl rfl (Nat.le_of_ble_eq_true rfl) hB0.1 dX0_begin_58 (fun g10 eg10 og10 => ?_)
          have hB0 : X0_at g10 a0 (sI (sL Z3 0 w7) 1 (((sL Z3 0 w7).1 1) + (1 : Int32))) := X0_p1 hB0 eg10 og10
          have hFr : ∀ q, (q < a0 ∨ a0 + 3 ≤ q) → g10 q = h q := fun q u0 => (og10 q (by omega)).trans (hFr q u0)
          refine ab_goto C 8 dX0_begin_61 (by decide) ?_
          refine aV.sub (lv' := [(0, .ref a0), (3, .int x3), (4, .long v9)]) [1, 2, 0] rfl ?_
          exact ih8 v9 (sI (sL Z3 0 w7) 1 (((sL Z3 0 w7).1 1) + (1 : Int32))) g10 hB0 hFr res8 hF KX8
  refine aV.sub (lv' := [(0, .ref a0), (3, .int x3), (4, .long y1)]) [1, 3, 0] rfl ?_
  obtain ⟨e11, he11, hF⟩ := Option.bind_eq_some_iff.mp hF
  refine L8 aFu y1 (sI S0 1 (0 : Int32)) g1 hB0 hFr e11 he11 (fun g12 hB0 hFr => ?_)
  refine ab_aload_n C 0 rfl rfl dX0_begin_64 ?_
  refine ab_iconst (v := (0 : Int32)) C dX0_begin_65 (by decide) ?_
  refine ab_iload_n C 1 rfl rfl dX0_begin_66 ?_
  refine ab_aload_n C 0 rfl rfl dX0_begin_67 ?_
  refine ab_g0 (v := .ref (a0 + 2)) C lf_X0_21 hB0.1 rfl dX0_begin_68 ?_
  refine ab_alen0 C (X0_r2 hB0) dX0_begin_71 ?_
  refine ab_mmin C (own := RX0) (a_mem 659 (by decide +kernel) (by decide +kernel)) (Nat.le_of_ble_eq_true rfl) ⟨Nat.zero_le _, Nat.zero_le _⟩ (Nat.le_of_ble_eq_true rfl) dX0_begin_72 ?_
  refine ab_mmax C (own := RX0) (a_mem 187 (by decide +kernel) (by decide +kernel)) (Nat.le_of_ble_eq_true rfl) ⟨Nat.zero_le _, Nat.zero_le _⟩ (Nat.le_of_ble_eq_true rfl) dX0_begin_75 ?_
  refine ab_p0 (ty := .int) C lf_X0_32 rfl (by decide +kernel) rfl rfl (Nat.le_of_ble_eq_true rfl) hB0.1 dX0_begin_78 (fun g13 eg13 og13 => ?_)
  have hB0 : X0_at g13 a0 (sI e11 3 (a_max (0 : Int32) (a_min x3 (Int32.ofNat 3)))) := X0_p3 hB0 eg13 og13
  have hFr : ∀ q, (q < a0 ∨ a0 + 3 ≤ q) → g13 q = h q := fun q u0 => (og13 q (by omega)).trans (hFr q u0)
  refine ab_iconst (v := (1 : Int32)) C dX0_begin_81 (by decide) ?_
  refine ab_istore (lv' := [(6, .int (1 : Int32)), (0, .ref a0), (3, .int x3)]) C dX0_begin_82 (by decide) rfl ?_
  refine ab_iconst (v := (0 : Int32)) C dX0_begin_84 (by decide) ?_
  refine ab_istore (lv' := [(7, .int (0 : Int32)), (6, .int (1 : Int32)), (0, .ref a0), (3, .int x3)]) C dX0_begin_85 (by decide) rfl ?_
  have L87 : ∀ (n87 : Nat) (v14 : Int32) (v15 : Int32) (Z16 : Rec) (g17 : aH), (X0_at g17 a0 Z16) → (∀ q, (q < a0 ∨ a0 + 3 ≤ q) → g17 q = h q) → ∀ (res87 : Int32 × Rec), X0_begin_L87 n87 v14 v15 Z16 = some res87 → (∀ (q9 : aH), (X0_at q9 a0 res87.2) → (∀ q, (q < a0 ∨ a0 + 3 ≤ q) → q9 q = h q) → aV X G 8 132 [(6, .int res87.1)] [] q9 nx 0 0) → aV X G 8 87 [(0, .ref a0), (6, .int v14), (7, .int v15)] [] g17 nx 0 0 := by
    intro n87
    induction n87 with
    | zero => intro v14 v15 Z16 g17 hB0 hFr res87 hF KX87; cases (show (none : Option (Int32 × Rec)) = some res87 from hF)
    | succ n87 ih87 =>
      intro v14 v15 Z16 g17 hB0 hFr res87 hF KX87
      rw [X0_begin_L87] at hF
      refine ab_iload C 2 rfl dX0_begin_87 ?_
      refine ab_aload_n C 0 rfl rfl dX0_begin_89 ?_
      refine ab_g0 (v := .int (Z16.1 3)) C lf_X0_32 hB0.1 rfl dX0_begin_90 ?_
      refine ab_icmp_ge C 132 dX0_begin_93 (by decide) (fun c18 => ?_) (fun c18 => ?_)
      · replace hF := (if_pos c18).symm.trans hF
        obtain rfl := Option.some.inj hF
        refine aV.sub (lv' := [(6, .int v14)]) [1] rfl ?_
        exact KX87 g17 hB0 hFr
      · replace hF := (if_neg c18).symm.trans hF
        refine ab_aload_n C 0 rfl rfl dX0_begin_96 ?_
        refine ab_g0 (v := .ref (a0 + 2)) C lf_X0_21 hB0.1 rfl dX0_begin_97 ?_
        refine ab_iload C 2 rfl dX0_begin_100 ?_
        refine ab_iload C 2 rfl dX0_begin_102 ?_
        obtain ⟨w19, hxw19, hF⟩ := Option.bind_eq_some_iff.mp hF
        refine ab_iast C (X0_r2 hB0) hxw19 dX0_begin_104 (fun g20 eg20 og20 => ?_)
        have hB0 : X0_at g20 a0 (sA Z16 2 w19) := X0_w2 hB0 eg20 og20
        have hFr : ∀ q, (q < a0 ∨ a0 + 3 ≤ q) → g20 q = h q := fun q u0 => (og20 q (by omega)).trans (hFr q u0)
        refine ab_iload C 1 rfl dX0_begin_105 ?_
        refine ab_iconst (v := (0 : Int32)) C dX0_begin_107 (by decide) ?_
        refine ab_aload_n C 0 rfl rfl dX0_begin_108 ?_
        refine ab_g0 (v := .int ((sA Z16 2 w19).1 1)) C lf_X0_25 hB0.1 rfl dX0_begin_109 ?_
        refine ab_iload C 2 rfl dX0_begin_112 ?_
        refine ab_isub C dX0_begin_114 ?_
        refine ab_mmax C (own := RX0) (a_mem 187 (by decide +kernel) (by decide +kernel)) (Nat.le_of_ble_eq_true rfl) ⟨Nat.zero_le _, Nat.zero_le _⟩ (Nat.le_of_ble_eq_true rfl) dX0_begin_115 ?_
        refine ab_imul C dX0_begin_118 ?_
        refine ab_iload C 2 rfl dX0_begin_119 ?_
        refine ab_iconst (v := (1 : Int32)) C dX0_begin_121 (by decide) ?_
        refine ab_iadd C dX0_begin_122 ?_
        rcases Classical.em ((v15 + (1 : Int32)) = (0 : Int32)) with c21 | c21
        · replace hF := (if_pos c21).symm.trans hF
          cases hF
        replace hF := (if_neg c21).symm.trans hF
        refine ab_idiv C c21 dX0_begin_123 ?_
        refine ab_topi (fun v22 qv22 => ?_)
        replace hF := aLet_e hF v22 qv22
        refine ab_istore (lv' := [(6, .int v22), (0, .ref a0), (7, .int v15)]) C dX0_begin_124 (by decide) rfl ?_
        obtain ⟨v23, qv23⟩ : ∃ y : Int32, y = (v15 + (1 : Int32)) := ⟨_, rfl⟩
        replace hF := aLet_e hF v23 qv23
        refine ab_iinc (lv' := [(7, .int v23), (6, .int v22), (0, .ref a0)]) C 2 rfl dX0_begin_126 (by rw [qv23]; rfl) (by decide) rfl ?_
        refine ab_goto C 87 dX0_begin_129 (by decide) ?_
        refine aV.sub (lv' := [(0, .ref a0), (6, .int v22), (7, .int v23)]) [2, 1, 0] rfl ?_
        exact ih87 v22 v23 (sA Z16 2 w19) g20 hB0 hFr res87 hF KX87
  refine aV.sub (lv' := [(0, .ref a0), (6, .int (1 : Int32)), (7, .int (0 : Int32))]) [2, 1, 0] rfl ?_
  obtain ⟨e24, he24, hF⟩ := Option.bind_eq_some_iff.mp hF
  refine L87 aFu (1 : Int32) (0 : Int32) (sI e11 3 (a_max (0 : Int32) (a_min x3 (Int32.ofNat 3)))) g13 hB0 hFr e24 he24 (fun g25 hB0 hFr => ?_)
  refine ab_iload C 0 rfl dX0_begin_132 ?_
  obtain rfl := Option.some.inj hF
  exact ab_iret C R0 rfl dX0_begin_134 ⟨rfl, rfl, hB0, hFr⟩
theorem dX0_current_0 : decode cX0_current 0 = .ok (.lconst 0, 1) := by decide +kernel
theorem dX0_current_1 : decode cX0_current 1 = .ok (.lstore_n 1, 1) := by decide +kernel
theorem dX0_current_2 : decode cX0_current 2 = .ok (.iconst 0, 1) := by decide +kernel
theorem dX0_current_3 : decode cX0_current 3 = .ok (.istore_n 3, 1) := by decide +kernel
theorem dX0_current_4 : decode cX0_current 4 = .ok (.iload_n 3, 1) := by decide +kernel
theorem dX0_current_5 : decode cX0_current 5 = .ok (.aload_n 0, 1) := by decide +kernel
theorem dX0_current_6 : decode cX0_current 6 = .ok (.getfield 32, 3) := by decide +kernel
theorem dX0_current_9 : decode cX0_current 9 = .ok (.if_icmp .ge 45, 3) := by decide +kernel
theorem dX0_current_12 : decode cX0_current 12 = .ok (.aload_n 0, 1) := by decide +kernel
theorem dX0_current_13 : decode cX0_current 13 = .ok (.getfield 21, 3) := by decide +kernel
theorem dX0_current_16 : decode cX0_current 16 = .ok (.iload_n 3, 1) := by decide +kernel
theorem dX0_current_17 : decode cX0_current 17 = .ok (.iaload, 1) := by decide +kernel
theorem dX0_current_18 : decode cX0_current 18 = .ok (.ifCond .lt 30, 3) := by decide +kernel
theorem dX0_current_21 : decode cX0_current 21 = .ok (.aload_n 0, 1) := by decide +kernel
theorem dX0_current_22 : decode cX0_current 22 = .ok (.getfield 21, 3) := by decide +kernel
theorem dX0_current_25 : decode cX0_current 25 = .ok (.iload_n 3, 1) := by decide +kernel
theorem dX0_current_26 : decode cX0_current 26 = .ok (.iaload, 1) := by decide +kernel
theorem dX0_current_27 : decode cX0_current 27 = .ok (.aload_n 0, 1) := by decide +kernel
theorem dX0_current_28 : decode cX0_current 28 = .ok (.getfield 25, 3) := by decide +kernel
theorem dX0_current_31 : decode cX0_current 31 = .ok (.if_icmp .ge 17, 3) := by decide +kernel
theorem dX0_current_34 : decode cX0_current 34 = .ok (.lload_n 1, 1) := by decide +kernel
theorem dX0_current_35 : decode cX0_current 35 = .ok (.aload_n 0, 1) := by decide +kernel
theorem dX0_current_36 : decode cX0_current 36 = .ok (.getfield 9, 3) := by decide +kernel
theorem dX0_current_39 : decode cX0_current 39 = .ok (.aload_n 0, 1) := by decide +kernel
theorem dX0_current_40 : decode cX0_current 40 = .ok (.getfield 21, 3) := by decide +kernel
theorem dX0_current_43 : decode cX0_current 43 = .ok (.iload_n 3, 1) := by decide +kernel
theorem dX0_current_44 : decode cX0_current 44 = .ok (.iaload, 1) := by decide +kernel
theorem dX0_current_45 : decode cX0_current 45 = .ok (.laload, 1) := by decide +kernel
theorem dX0_current_46 : decode cX0_current 46 = .ok (.lor, 1) := by decide +kernel
theorem dX0_current_47 : decode cX0_current 47 = .ok (.lstore_n 1, 1) := by decide +kernel
theorem dX0_current_48 : decode cX0_current 48 = .ok (.iinc 3 1, 3) := by decide +kernel
theorem dX0_current_51 : decode cX0_current 51 = .ok (.goto (-47), 3) := by decide +kernel
theorem dX0_current_54 : decode cX0_current 54 = .ok (.lload_n 1, 1) := by decide +kernel
theorem dX0_current_55 : decode cX0_current 55 = .ok (.lreturn, 1) := by decide +kernel
def X0_current_L4 (S0 : Rec) : Nat → Int64 → Int32 → Option (Int64)
  | 0, _, _ => none
  | n4 + 1, v1, v2 => if (S0.1 3) ≤ v2 then
      some v1
    else
      (rdI (S0.2.1 2) 3 v2).bind fun v4 =>
      if v4 < 0 then
        aLet (v2 + (1 : Int32)) fun v6 =>
        X0_current_L4 S0 n4 v1 v6
      else
        (rdI (S0.2.1 2) 3 v2).bind fun v7 =>
        if (S0.1 1) ≤ v7 then
          aLet (v2 + (1 : Int32)) fun v9 =>
          X0_current_L4 S0 n4 v1 v9
        else
          (rdI (S0.2.1 2) 3 v2).bind fun v10 =>
          (rdL (S0.2.2 0) 36 v10).bind fun v11 =>
          aLet (v1 ||| v11) fun v12 =>
          aLet (v2 + (1 : Int32)) fun v13 =>
          X0_current_L4 S0 n4 v12 v13
def X0_current (S0 : Rec) : Option (Int64) :=
  (X0_current_L4 S0 aFu (0 : Int64) (0 : Int32)).bind fun e14 =>
  some e14
set_option maxRecDepth 100000 in
set_option maxHeartbeats 4000000 in
theorem X0_current_ok (l : Launch) {h : aH} {nx : Nat} {a0 : Nat} {S0 : Rec} (hB0 : X0_at h a0 S0) {r : Int64} (hF : X0_current S0 = some r) : aOk l 0 0 0 yX0_current cX0_current 4 (some .long) [.ref a0] h nx (aRd (.long r) h nx) := by
  refine aOk.of (by decide +kernel) (Nat.le_of_ble_eq_true rfl) (fun X G hX C R0 _ => ?_)
  subst hX
  show aV X G 4 0 [(0, .ref a0)] [] h nx 0 0
  rw [X0_current] at hF
  refine ab_lconst (v := (0 : Int64)) C dX0_current_0 (by decide) ?_
  refine ab_lstore_n (lv' := [(1, .long (0 : Int64)), (0, .ref a0)]) C dX0_current_1 rfl ⟨by decide, by decide⟩ rfl ?_
  refine ab_iconst (v := (0 : Int32)) C dX0_current_2 (by decide) ?_
  refine ab_istore_n (lv' := [(3, .int (0 : Int32)), (1, .long (0 : Int64)), (0, .ref a0)]) C dX0_current_3 rfl (by decide) rfl ?_
  have L4 : ∀ (n4 : Nat) (v1 : Int64) (v2 : Int32), ∀ (res4 : Int64), X0_current_L4 S0 n4 v1 v2 = some res4 → (aV X G 4 54 [(1, .long res4)] [] h nx 0 0) → aV X G 4 4 [(0, .ref a0), (1, .long v1), (3, .int v2)] [] h nx 0 0 := by
    intro n4
    induction n4 with
    | zero => intro v1 v2 res4 hF KX4; cases (show (none : Option (Int64)) = some res4 from hF)
    | succ n4 ih4 =>
      intro v1 v2 res4 hF KX4
      rw [X0_current_L4] at hF
      refine ab_iload_n C 2 rfl rfl dX0_current_4 ?_
      refine ab_aload_n C 0 rfl rfl dX0_current_5 ?_
      refine ab_g0 (v := .int (S0.1 3)) C lf_X0_32 hB0.1 rfl dX0_current_6 ?_
      refine ab_icmp_ge C 54 dX0_current_9 (by decide) (fun c3 => ?_) (fun c3 => ?_)
      · replace hF := (if_pos c3).symm.trans hF
        obtain rfl := Option.some.inj hF
        refine aV.sub (lv' := [(1, .long v1)]) [1] rfl ?_
        exact KX4
      · replace hF := (if_neg c3).symm.trans hF
        refine ab_aload_n C 0 rfl rfl dX0_current_12 ?_
        refine ab_g0 (v := .ref (a0 + 2)) C lf_X0_21 hB0.1 rfl dX0_current_13 ?_
        refine ab_iload_n C 2 rfl rfl dX0_current_16 ?_
        obtain ⟨v4, hxv4, hF⟩ := Option.bind_eq_some_iff.mp hF
        refine ab_iald C (X0_r2 hB0) hxv4 dX0_current_17 ?_
        refine ab_if_lt C 48 dX0_current_18 (by decide) (fun c5 => ?_) (fun c5 => ?_)
        · replace hF := (if_pos c5).symm.trans hF
          obtain ⟨v6, qv6⟩ : ∃ y : Int32, y = (v2 + (1 : Int32)) := ⟨_, rfl⟩
          replace hF := aLet_e hF v6 qv6
          refine ab_iinc (lv' := [(3, .int v6), (0, .ref a0), (1, .long v1)]) C 2 rfl dX0_current_48 (by rw [qv6]; rfl) (by decide) rfl ?_
          refine ab_goto C 4 dX0_current_51 (by decide) ?_
          refine aV.sub (lv' := [(0, .ref a0), (1, .long v1), (3, .int v6)]) [1, 2, 0] rfl ?_
          exact ih4 v1 v6 res4 hF KX4
        · replace hF := (if_neg c5).symm.trans hF
          refine ab_aload_n C 0 rfl rfl dX0_current_21 ?_
          refine ab_g0 (v := .ref (a0 + 2)) C lf_X0_21 hB0.1 rfl dX0_current_22 ?_
          refine ab_iload_n C 2 rfl rfl dX0_current_25 ?_
          obtain ⟨v7, hxv7, hF⟩ := Option.bind_eq_some_iff.mp hF
          refine ab_iald C (X0_r2 hB0) hxv7 dX0_current_26 ?_
          refine ab_aload_n C 0 rfl rfl dX0_current_27 ?_
          refine ab_g0 (v := .int (S0.1 1)) C lf_X0_25 hB0.1 rfl dX0_current_28 ?_
          refine ab_icmp_ge C 48 dX0_current_31 (by decide) (fun c8 => ?_) (fun c8 => ?_)
          · replace hF := (if_pos c8).symm.trans hF
            obtain ⟨v9, qv9⟩ : ∃ y : Int32, y = (v2 + (1 : Int32)) := ⟨_, rfl⟩
            replace hF := aLet_e hF v9 qv9
            refine ab_iinc (lv' := [(3, .int v9), (0, .ref a0), (1, .long v1)]) C 2 rfl dX0_current_48 (by rw [qv9]; rfl) (by decide) rfl ?_
            refine ab_goto C 4 dX0_current_51 (by decide) ?_
            refine aV.sub (lv' := [(0, .ref a0), (1, .long v1), (3, .int v9)]) [1, 2, 0] rfl ?_
            exact ih4 v1 v9 res4 hF KX4
          · replace hF := (if_neg c8).symm.trans hF
            refine ab_lload_n C 1 rfl rfl dX0_current_34 ?_
            refine ab_aload_n C 0 rfl rfl dX0_current_35 ?_
            refine ab_g0 (v := .ref (a0 + 1)) C lf_X0_9 hB0.1 rfl dX0_current_36 ?_
            refine ab_aload_n C 0 rfl rfl dX0_current_39 ?_
            refine ab_g0 (v := .ref (a0 + 2)) C lf_X0_21 hB0.1 rfl dX0_current_40 ?_
            refine ab_iload_n C 2 rfl rfl dX0_current_43 ?_
            obtain ⟨v10, hxv10, hF⟩ := Option.bind_eq_some_iff.mp hF
            refine ab_iald C (X0_r2 hB0) hxv10 dX0_current_44 ?_
            obtain ⟨v11, hxv11, hF⟩ := Option.bind_eq_some_iff.mp hF
            refine ab_lald C (X0_r0 hB0) hxv11 dX0_current_45 ?_
            refine ab_lor C dX0_current_46 ?_
            refine ab_topl (fun v12 qv12 => ?_)
            replace hF := aLet_e hF v12 qv12
            refine ab_lstore_n (lv' := [(1, .long v12), (0, .ref a0), (3, .int v2)]) C dX0_current_47 rfl ⟨by decide, by decide⟩ rfl ?_
            obtain ⟨v13, qv13⟩ : ∃ y : Int32, y = (v2 + (1 : Int32)) := ⟨_, rfl⟩
            replace hF := aLet_e hF v13 qv13
            refine ab_iinc (lv' := [(3, .int v13), (1, .long v12), (0, .ref a0)]) C 2 rfl dX0_current_48 (by rw [qv13]; rfl) (by decide) rfl ?_
            refine ab_goto C 4 dX0_current_51 (by decide) ?_
            refine aV.sub (lv' := [(0, .ref a0), (1, .long v12), (3, .int v13)]) [2, 1, 0] rfl ?_
            exact ih4 v12 v13 res4 hF KX4
  refine aV.sub (lv' := [(0, .ref a0), (1, .long (0 : Int64)), (3, .int (0 : Int32))]) [2, 1, 0] rfl ?_
  obtain ⟨e14, he14, hF⟩ := Option.bind_eq_some_iff.mp hF
  refine L4 aFu (0 : Int64) (0 : Int32) e14 he14 ?_
  refine ab_lload_n C 0 rfl rfl dX0_current_54 ?_
  obtain rfl := Option.some.inj hF
  exact ab_lret C R0 dX0_current_55 ⟨rfl, rfl, rfl⟩
theorem dX0_advance_0 : decode cX0_advance 0 = .ok (.aload_n 0, 1) := by decide +kernel
theorem dX0_advance_1 : decode cX0_advance 1 = .ok (.getfield 32, 3) := by decide +kernel
theorem dX0_advance_4 : decode cX0_advance 4 = .ok (.iconst 1, 1) := by decide +kernel
theorem dX0_advance_5 : decode cX0_advance 5 = .ok (.isub, 1) := by decide +kernel
theorem dX0_advance_6 : decode cX0_advance 6 = .ok (.istore_n 1, 1) := by decide +kernel
theorem dX0_advance_7 : decode cX0_advance 7 = .ok (.iload_n 1, 1) := by decide +kernel
theorem dX0_advance_8 : decode cX0_advance 8 = .ok (.ifCond .lt 29, 3) := by decide +kernel
theorem dX0_advance_11 : decode cX0_advance 11 = .ok (.aload_n 0, 1) := by decide +kernel
theorem dX0_advance_12 : decode cX0_advance 12 = .ok (.getfield 21, 3) := by decide +kernel
theorem dX0_advance_15 : decode cX0_advance 15 = .ok (.iload_n 1, 1) := by decide +kernel
theorem dX0_advance_16 : decode cX0_advance 16 = .ok (.iaload, 1) := by decide +kernel
theorem dX0_advance_17 : decode cX0_advance 17 = .ok (.aload_n 0, 1) := by decide +kernel
theorem dX0_advance_18 : decode cX0_advance 18 = .ok (.getfield 25, 3) := by decide +kernel
theorem dX0_advance_21 : decode cX0_advance 21 = .ok (.aload_n 0, 1) := by decide +kernel
theorem dX0_advance_22 : decode cX0_advance 22 = .ok (.getfield 32, 3) := by decide +kernel
theorem dX0_advance_25 : decode cX0_advance 25 = .ok (.isub, 1) := by decide +kernel
theorem dX0_advance_26 : decode cX0_advance 26 = .ok (.iload_n 1, 1) := by decide +kernel
theorem dX0_advance_27 : decode cX0_advance 27 = .ok (.iadd, 1) := by decide +kernel
theorem dX0_advance_28 : decode cX0_advance 28 = .ok (.if_icmp .lt 9, 3) := by decide +kernel
theorem dX0_advance_31 : decode cX0_advance 31 = .ok (.iinc 1 (-1), 3) := by decide +kernel
theorem dX0_advance_34 : decode cX0_advance 34 = .ok (.goto (-27), 3) := by decide +kernel
theorem dX0_advance_37 : decode cX0_advance 37 = .ok (.iload_n 1, 1) := by decide +kernel
theorem dX0_advance_38 : decode cX0_advance 38 = .ok (.ifCond .ge 4, 3) := by decide +kernel
theorem dX0_advance_41 : decode cX0_advance 41 = .ok (.return_, 1) := by decide +kernel
theorem dX0_advance_42 : decode cX0_advance 42 = .ok (.aload_n 0, 1) := by decide +kernel
theorem dX0_advance_43 : decode cX0_advance 43 = .ok (.getfield 21, 3) := by decide +kernel
theorem dX0_advance_46 : decode cX0_advance 46 = .ok (.iload_n 1, 1) := by decide +kernel
theorem dX0_advance_47 : decode cX0_advance 47 = .ok (.dup2, 1) := by decide +kernel
theorem dX0_advance_48 : decode cX0_advance 48 = .ok (.iaload, 1) := by decide +kernel
theorem dX0_advance_49 : decode cX0_advance 49 = .ok (.iconst 1, 1) := by decide +kernel
theorem dX0_advance_50 : decode cX0_advance 50 = .ok (.iadd, 1) := by decide +kernel
theorem dX0_advance_51 : decode cX0_advance 51 = .ok (.iastore, 1) := by decide +kernel
theorem dX0_advance_52 : decode cX0_advance 52 = .ok (.iload_n 1, 1) := by decide +kernel
theorem dX0_advance_53 : decode cX0_advance 53 = .ok (.iconst 1, 1) := by decide +kernel
theorem dX0_advance_54 : decode cX0_advance 54 = .ok (.iadd, 1) := by decide +kernel
theorem dX0_advance_55 : decode cX0_advance 55 = .ok (.istore_n 2, 1) := by decide +kernel
theorem dX0_advance_56 : decode cX0_advance 56 = .ok (.iload_n 2, 1) := by decide +kernel
theorem dX0_advance_57 : decode cX0_advance 57 = .ok (.aload_n 0, 1) := by decide +kernel
theorem dX0_advance_58 : decode cX0_advance 58 = .ok (.getfield 32, 3) := by decide +kernel
theorem dX0_advance_61 : decode cX0_advance 61 = .ok (.if_icmp .ge 25, 3) := by decide +kernel
theorem dX0_advance_64 : decode cX0_advance 64 = .ok (.aload_n 0, 1) := by decide +kernel
theorem dX0_advance_65 : decode cX0_advance 65 = .ok (.getfield 21, 3) := by decide +kernel
theorem dX0_advance_68 : decode cX0_advance 68 = .ok (.iload_n 2, 1) := by decide +kernel
theorem dX0_advance_69 : decode cX0_advance 69 = .ok (.aload_n 0, 1) := by decide +kernel
theorem dX0_advance_70 : decode cX0_advance 70 = .ok (.getfield 21, 3) := by decide +kernel
theorem dX0_advance_73 : decode cX0_advance 73 = .ok (.iload_n 2, 1) := by decide +kernel
theorem dX0_advance_74 : decode cX0_advance 74 = .ok (.iconst 1, 1) := by decide +kernel
theorem dX0_advance_75 : decode cX0_advance 75 = .ok (.isub, 1) := by decide +kernel
theorem dX0_advance_76 : decode cX0_advance 76 = .ok (.iaload, 1) := by decide +kernel
theorem dX0_advance_77 : decode cX0_advance 77 = .ok (.iconst 1, 1) := by decide +kernel
theorem dX0_advance_78 : decode cX0_advance 78 = .ok (.iadd, 1) := by decide +kernel
theorem dX0_advance_79 : decode cX0_advance 79 = .ok (.iastore, 1) := by decide +kernel
theorem dX0_advance_80 : decode cX0_advance 80 = .ok (.iinc 2 1, 3) := by decide +kernel
theorem dX0_advance_83 : decode cX0_advance 83 = .ok (.goto (-27), 3) := by decide +kernel
theorem dX0_advance_86 : decode cX0_advance 86 = .ok (.return_, 1) := by decide +kernel
def X0_advance_L7 (S0 : Rec) : Nat → Int32 → Option (Int32)
  | 0, _ => none
  | n7 + 1, v2 => if v2 < 0 then
      some v2
    else
      (rdI (S0.2.1 2) 3 v2).bind fun v4 =>
      if v4 < (((S0.1 1) - (S0.1 3)) + v2) then
        some v2
      else
        aLet (v2 + (-1 : Int32)) fun v6 =>
        X0_advance_L7 S0 n7 v6
def X0_advance_L56 : Nat → Int32 → Rec → Option (Rec)
  | 0, _, _ => none
  | n56 + 1, v13, Z14 => if (Z14.1 3) ≤ v13 then
      some Z14
    else
      (rdI (Z14.2.1 2) 3 (v13 - (1 : Int32))).bind fun v17 =>
      (wrI (Z14.2.1 2) 3 v13 (v17 + (1 : Int32))).bind fun w18 =>
      aLet (v13 + (1 : Int32)) fun v20 =>
      X0_advance_L56 n56 v20 (sA Z14 2 w18)
def X0_advance (S0 : Rec) : Option (Rec) :=
  aLet ((S0.1 3) - (1 : Int32)) fun v1 =>
  (X0_advance_L7 S0 aFu v1).bind fun e7 =>
  if 0 ≤ e7 then
    (rdI (S0.2.1 2) 3 e7).bind fun v9 =>
    (wrI (S0.2.1 2) 3 e7 (v9 + (1 : Int32))).bind fun w10 =>
    aLet (e7 + (1 : Int32)) fun v12 =>
    (X0_advance_L56 aFu v12 (sA S0 2 w10)).bind fun e21 =>
    some e21
  else
    some S0
set_option maxRecDepth 100000 in
set_option maxHeartbeats 4000000 in
theorem X0_advance_ok (l : Launch) {h : aH} {nx : Nat} {a0 : Nat} {S0 : Rec} (hB0 : X0_at h a0 S0) {r : Rec} (hF : X0_advance S0 = some r) : aOk l 0 0 0 yX0_advance cX0_advance 3 none [.ref a0] h nx (aMt none nx (fun h1 => X0_at h1 a0 r ∧ (∀ q, (q < a0 ∨ a0 + 3 ≤ q) → h1 q = h q))) := by
  refine aOk.of (by decide +kernel) (Nat.le_of_ble_eq_true rfl) (fun X G hX C R0 _ => ?_)
  subst hX
  show aV X G 3 0 [(0, .ref a0)] [] h nx 0 0
  have hFr : ∀ q, (q < a0 ∨ a0 + 3 ≤ q) → h q = h q := fun _ _ => rfl
  rw [X0_advance] at hF
  refine ab_aload_n C 0 rfl rfl dX0_advance_0 ?_
  refine ab_g0 (v := .int (S0.1 3)) C lf_X0_32 hB0.1 rfl dX0_advance_1 ?_
  refine ab_iconst (v := (1 : Int32)) C dX0_advance_4 (by decide) ?_
  refine ab_isub C dX0_advance_5 ?_
  refine ab_topi (fun v1 qv1 => ?_)
  replace hF := aLet_e hF v1 qv1
  refine ab_istore_n (lv' := [(1, .int v1), (0, .ref a0)]) C dX0_advance_6 rfl (by decide) rfl ?_
  have L7 : ∀ (n7 : Nat) (v2 : Int32), ∀ (res7 : Int32), X0_advance_L7 S0 n7 v2 = some res7 → (aV X G 3 37 [(0, .ref a0), (1, .int res7)] [] h nx 0 0) → aV X G 3 7 [(0, .ref a0), (1, .int v2)] [] h nx 0 0 := by
    intro n7
    induction n7 with
    | zero => intro v2 res7 hF KX7; cases (show (none : Option (Int32)) = some res7 from hF)
    | succ n7 ih7 =>
      intro v2 res7 hF KX7
      rw [X0_advance_L7] at hF
      refine ab_iload_n C 1 rfl rfl dX0_advance_7 ?_
      refine ab_if_lt C 37 dX0_advance_8 (by decide) (fun c3 => ?_) (fun c3 => ?_)
      · replace hF := (if_pos c3).symm.trans hF
        obtain rfl := Option.some.inj hF
        exact KX7
      · replace hF := (if_neg c3).symm.trans hF
        refine ab_aload_n C 0 rfl rfl dX0_advance_11 ?_
        refine ab_g0 (v := .ref (a0 + 2)) C lf_X0_21 hB0.1 rfl dX0_advance_12 ?_
        refine ab_iload_n C 1 rfl rfl dX0_advance_15 ?_
        obtain ⟨v4, hxv4, hF⟩ := Option.bind_eq_some_iff.mp hF
        refine ab_iald C (X0_r2 hB0) hxv4 dX0_advance_16 ?_
        refine ab_aload_n C 0 rfl rfl dX0_advance_17 ?_
        refine ab_g0 (v := .int (S0.1 1)) C lf_X0_25 hB0.1 rfl dX0_advance_18 ?_
        refine ab_aload_n C 0 rfl rfl dX0_advance_21 ?_
        refine ab_g0 (v := .int (S0.1 3)) C lf_X0_32 hB0.1 rfl dX0_advance_22 ?_
        refine ab_isub C dX0_advance_25 ?_
        refine ab_iload_n C 1 rfl rfl dX0_advance_26 ?_
        refine ab_iadd C dX0_advance_27 ?_
        refine ab_icmp_lt C 37 dX0_advance_28 (by decide) (fun c5 => ?_) (fun c5 => ?_)
        · replace hF := (if_pos c5).symm.trans hF
          obtain rfl := Option.some.inj hF
          exact KX7
        · replace hF := (if_neg c5).symm.trans hF
          obtain ⟨v6, qv6⟩ : ∃ y : Int32, y = (v2 + (-1 : Int32)) := ⟨_, rfl⟩
          replace hF := aLet_e hF v6 qv6
          refine ab_iinc (lv' := [(1, .int v6), (0, .ref a0)]) C 1 rfl dX0_advance_31 (by rw [qv6]; rfl) (by decide) rfl ?_
          refine ab_goto C 7 dX0_advance_34 (by decide) ?_
          refine aV.sub (lv' := [(0, .ref a0), (1, .int v6)]) [1, 0] rfl ?_
          exact ih7 v6 res7 hF KX7
  refine aV.sub (lv' := [(0, .ref a0), (1, .int v1)]) [1, 0] rfl ?_
  obtain ⟨e7, he7, hF⟩ := Option.bind_eq_some_iff.mp hF
  refine L7 aFu v1 e7 he7 ?_
  refine ab_iload_n C 1 rfl rfl dX0_advance_37 ?_
  refine ab_if_ge C 42 dX0_advance_38 (by decide) (fun c8 => ?_) (fun c8 => ?_)
  · replace hF := (if_pos c8).symm.trans hF
    refine ab_aload_n C 0 rfl rfl dX0_advance_42 ?_
    refine ab_g0 (v := .ref (a0 + 2)) C lf_X0_21 hB0.1 rfl dX0_advance_43 ?_
    refine ab_iload_n C 1 rfl rfl dX0_advance_46 ?_
    refine ab_dup2_11 C rfl rfl dX0_advance_47 ?_
    obtain ⟨v9, hxv9, hF⟩ := Option.bind_eq_some_iff.mp hF
    refine ab_iald C (X0_r2 hB0) hxv9 dX0_advance_48 ?_
    refine ab_iconst (v := (1 : Int32)) C dX0_advance_49 (by decide) ?_
    refine ab_iadd C dX0_advance_50 ?_
    obtain ⟨w10, hxw10, hF⟩ := Option.bind_eq_some_iff.mp hF
    refine ab_iast C (X0_r2 hB0) hxw10 dX0_advance_51 (fun g11 eg11 og11 => ?_)
    have hB0 : X0_at g11 a0 (sA S0 2 w10) := X0_w2 hB0 eg11 og11
    have hFr : ∀ q, (q < a0 ∨ a0 + 3 ≤ q) → g11 q = h q := fun q u0 => (og11 q (by omega)).trans (hFr q u0)
    refine ab_iload_n C 1 rfl rfl dX0_advance_52 ?_
    refine ab_iconst (v := (1 : Int32)) C dX0_advance_53 (by decide) ?_
    refine ab_iadd C dX0_advance_54 ?_
    refine ab_topi (fun v12 qv12 => ?_)
    replace hF := aLet_e hF v12 qv12
    refine ab_istore_n (lv' := [(2, .int v12), (0, .ref a0), (1, .int e7)]) C dX0_advance_55 rfl (by decide) rfl ?_
    have L56 : ∀ (n56 : Nat) (v13 : Int32) (Z14 : Rec) (g15 : aH), (X0_at g15 a0 Z14) → (∀ q, (q < a0 ∨ a0 + 3 ≤ q) → g15 q = h q) → ∀ (res56 : Rec), X0_advance_L56 n56 v13 Z14 = some res56 → (∀ (q9 : aH), (X0_at q9 a0 res56) → (∀ q, (q < a0 ∨ a0 + 3 ≤ q) → q9 q = h q) → aV X G 3 86 [] [] q9 nx 0 0) → aV X G 3 56 [(0, .ref a0), (2, .int v13)] [] g15 nx 0 0 := by
      intro n56
      induction n56 with
      | zero => intro v13 Z14 g15 hB0 hFr res56 hF KX56; cases (show (none : Option (Rec)) = some res56 from hF)
      | succ n56 ih56 =>
        intro v13 Z14 g15 hB0 hFr res56 hF KX56
        rw [X0_advance_L56] at hF
        refine ab_iload_n C 1 rfl rfl dX0_advance_56 ?_
        refine ab_aload_n C 0 rfl rfl dX0_advance_57 ?_
        refine ab_g0 (v := .int (Z14.1 3)) C lf_X0_32 hB0.1 rfl dX0_advance_58 ?_
        refine ab_icmp_ge C 86 dX0_advance_61 (by decide) (fun c16 => ?_) (fun c16 => ?_)
        · replace hF := (if_pos c16).symm.trans hF
          obtain rfl := Option.some.inj hF
          refine aV.sub (lv' := []) [] rfl ?_
          exact KX56 g15 hB0 hFr
        · replace hF := (if_neg c16).symm.trans hF
          refine ab_aload_n C 0 rfl rfl dX0_advance_64 ?_
          refine ab_g0 (v := .ref (a0 + 2)) C lf_X0_21 hB0.1 rfl dX0_advance_65 ?_
          refine ab_iload_n C 1 rfl rfl dX0_advance_68 ?_
          refine ab_aload_n C 0 rfl rfl dX0_advance_69 ?_
          refine ab_g0 (v := .ref (a0 + 2)) C lf_X0_21 hB0.1 rfl dX0_advance_70 ?_
          refine ab_iload_n C 1 rfl rfl dX0_advance_73 ?_
          refine ab_iconst (v := (1 : Int32)) C dX0_advance_74 (by decide) ?_
          refine ab_isub C dX0_advance_75 ?_
          obtain ⟨v17, hxv17, hF⟩ := Option.bind_eq_some_iff.mp hF
          refine ab_iald C (X0_r2 hB0) hxv17 dX0_advance_76 ?_
          refine ab_iconst (v := (1 : Int32)) C dX0_advance_77 (by decide) ?_
          refine ab_iadd C dX0_advance_78 ?_
          obtain ⟨w18, hxw18, hF⟩ := Option.bind_eq_some_iff.mp hF
          refine ab_iast C (X0_r2 hB0) hxw18 dX0_advance_79 (fun g19 eg19 og19 => ?_)
          have hB0 : X0_at g19 a0 (sA Z14 2 w18) := X0_w2 hB0 eg19 og19
          have hFr : ∀ q, (q < a0 ∨ a0 + 3 ≤ q) → g19 q = h q := fun q u0 => (og19 q (by omega)).trans (hFr q u0)
          obtain ⟨v20, qv20⟩ : ∃ y : Int32, y = (v13 + (1 : Int32)) := ⟨_, rfl⟩
          replace hF := aLet_e hF v20 qv20
          refine ab_iinc (lv' := [(2, .int v20), (0, .ref a0)]) C 1 rfl dX0_advance_80 (by rw [qv20]; rfl) (by decide) rfl ?_
          refine ab_goto C 56 dX0_advance_83 (by decide) ?_
          refine aV.sub (lv' := [(0, .ref a0), (2, .int v20)]) [1, 0] rfl ?_
          exact ih56 v20 (sA Z14 2 w18) g19 hB0 hFr res56 hF KX56
    refine aV.sub (lv' := [(0, .ref a0), (2, .int v12)]) [1, 0] rfl ?_
    obtain ⟨e21, he21, hF⟩ := Option.bind_eq_some_iff.mp hF
    refine L56 aFu v12 (sA S0 2 w10) g11 hB0 hFr e21 he21 (fun g22 hB0 hFr => ?_)
    obtain rfl := Option.some.inj hF
    exact ab_vret C R0 dX0_advance_86 ⟨rfl, rfl, hB0, hFr⟩
  · replace hF := (if_neg c8).symm.trans hF
    obtain rfl := Option.some.inj hF
    exact ab_vret C R0 dX0_advance_41 ⟨rfl, rfl, hB0, hFr⟩
theorem dX5_vowelAt_0 : decode cX5_vowelAt 0 = .ok (.iload_n 1, 1) := by decide +kernel
theorem dX5_vowelAt_1 : decode cX5_vowelAt 1 = .ok (.ifCond .lt 36, 3) := by decide +kernel
theorem dX5_vowelAt_4 : decode cX5_vowelAt 4 = .ok (.iload_n 1, 1) := by decide +kernel
theorem dX5_vowelAt_5 : decode cX5_vowelAt 5 = .ok (.aload_n 0, 1) := by decide +kernel
theorem dX5_vowelAt_6 : decode cX5_vowelAt 6 = .ok (.getfield 24, 3) := by decide +kernel
theorem dX5_vowelAt_9 : decode cX5_vowelAt 9 = .ok (.arraylength, 1) := by decide +kernel
theorem dX5_vowelAt_10 : decode cX5_vowelAt 10 = .ok (.if_icmp .ge 27, 3) := by decide +kernel
theorem dX5_vowelAt_13 : decode cX5_vowelAt 13 = .ok (.aload_n 0, 1) := by decide +kernel
theorem dX5_vowelAt_14 : decode cX5_vowelAt 14 = .ok (.getfield 24, 3) := by decide +kernel
theorem dX5_vowelAt_17 : decode cX5_vowelAt 17 = .ok (.iload_n 1, 1) := by decide +kernel
theorem dX5_vowelAt_18 : decode cX5_vowelAt 18 = .ok (.laload, 1) := by decide +kernel
theorem dX5_vowelAt_19 : decode cX5_vowelAt 19 = .ok (.lconst 0, 1) := by decide +kernel
theorem dX5_vowelAt_20 : decode cX5_vowelAt 20 = .ok (.lcmp, 1) := by decide +kernel
theorem dX5_vowelAt_21 : decode cX5_vowelAt 21 = .ok (.ifCond .lt 16, 3) := by decide +kernel
theorem dX5_vowelAt_24 : decode cX5_vowelAt 24 = .ok (.aload_n 0, 1) := by decide +kernel
theorem dX5_vowelAt_25 : decode cX5_vowelAt 25 = .ok (.getfield 24, 3) := by decide +kernel
theorem dX5_vowelAt_28 : decode cX5_vowelAt 28 = .ok (.iload_n 1, 1) := by decide +kernel
theorem dX5_vowelAt_29 : decode cX5_vowelAt 29 = .ok (.laload, 1) := by decide +kernel
theorem dX5_vowelAt_30 : decode cX5_vowelAt 30 = .ok (.ldc2_w 30, 3) := by decide +kernel
theorem dX5_vowelAt_33 : decode cX5_vowelAt 33 = .ok (.lcmp, 1) := by decide +kernel
theorem dX5_vowelAt_34 : decode cX5_vowelAt 34 = .ok (.ifCond .lt 5, 3) := by decide +kernel
theorem dX5_vowelAt_37 : decode cX5_vowelAt 37 = .ok (.iconst (-1), 1) := by decide +kernel
theorem dX5_vowelAt_38 : decode cX5_vowelAt 38 = .ok (.ireturn, 1) := by decide +kernel
theorem dX5_vowelAt_39 : decode cX5_vowelAt 39 = .ok (.aload_n 0, 1) := by decide +kernel
theorem dX5_vowelAt_40 : decode cX5_vowelAt 40 = .ok (.getfield 24, 3) := by decide +kernel
theorem dX5_vowelAt_43 : decode cX5_vowelAt 43 = .ok (.iload_n 1, 1) := by decide +kernel
theorem dX5_vowelAt_44 : decode cX5_vowelAt 44 = .ok (.laload, 1) := by decide +kernel
theorem dX5_vowelAt_45 : decode cX5_vowelAt 45 = .ok (.l2i, 1) := by decide +kernel
theorem dX5_vowelAt_46 : decode cX5_vowelAt 46 = .ok (.ireturn, 1) := by decide +kernel
def X5_vowelAt (m0 : Nat) (S0 : Rec) (x1 : Int32) : Option (Int32) :=
  if x1 < 0 then
    some (-1 : Int32)
  else
    if (Int32.ofNat m0) ≤ x1 then
      some (-1 : Int32)
    else
      (rdL (S0.2.2 1) m0 x1).bind fun v3 =>
      if (lg_cmp v3 (0 : Int64)) < 0 then
        some (-1 : Int32)
      else
        (rdL (S0.2.2 1) m0 x1).bind fun v5 =>
        if (lg_cmp v5 (5 : Int64)) < 0 then
          (rdL (S0.2.2 1) m0 x1).bind fun v7 =>
          some (v7.toInt32)
        else
          some (-1 : Int32)
set_option maxRecDepth 100000 in
set_option maxHeartbeats 4000000 in
theorem X5_vowelAt_ok (l : Launch) {h : aH} {nx : Nat} {a0 : Nat} {m0 : Nat} {S0 : Rec} {x1 : Int32} (hB0 : X5_at h a0 m0 S0) {r : Int32} (hF : X5_vowelAt m0 S0 x1 = some r) : aOk l 0 0 0 yX5_vowelAt cX5_vowelAt 2 (some .int) [.ref a0, .int x1] h nx (aRd (.int r) h nx) := by
  refine aOk.of (by decide +kernel) (Nat.le_of_ble_eq_true rfl) (fun X G hX C R0 _ => ?_)
  subst hX
  show aV X G 2 0 [(0, .ref a0), (1, .int x1)] [] h nx 0 0
  rw [X5_vowelAt] at hF
  refine ab_iload_n C 1 rfl rfl dX5_vowelAt_0 ?_
  refine ab_if_lt C 37 dX5_vowelAt_1 (by decide) (fun c1 => ?_) (fun c1 => ?_)
  · replace hF := (if_pos c1).symm.trans hF
    refine ab_iconst (v := (-1 : Int32)) C dX5_vowelAt_37 (by decide) ?_
    obtain rfl := Option.some.inj hF
    exact ab_iret C R0 rfl dX5_vowelAt_38 ⟨rfl, rfl, rfl⟩
  · replace hF := (if_neg c1).symm.trans hF
    refine ab_iload_n C 1 rfl rfl dX5_vowelAt_4 ?_
    refine ab_aload_n C 0 rfl rfl dX5_vowelAt_5 ?_
    refine ab_g5 (v := .ref (a0 + 1)) C lf_X5_24 hB0.1 rfl dX5_vowelAt_6 ?_
    refine ab_alen1 C (X5_r1 hB0) dX5_vowelAt_9 ?_
    refine ab_icmp_ge C 37 dX5_vowelAt_10 (by decide) (fun c2 => ?_) (fun c2 => ?_)
    · replace hF := (if_pos c2).symm.trans hF
      refine ab_iconst (v := (-1 : Int32)) C dX5_vowelAt_37 (by decide) ?_
      obtain rfl := Option.some.inj hF
      exact ab_iret C R0 rfl dX5_vowelAt_38 ⟨rfl, rfl, rfl⟩
    · replace hF := (if_neg c2).symm.trans hF
      refine ab_aload_n C 0 rfl rfl dX5_vowelAt_13 ?_
      refine ab_g5 (v := .ref (a0 + 1)) C lf_X5_24 hB0.1 rfl dX5_vowelAt_14 ?_
      refine ab_iload_n C 1 rfl rfl dX5_vowelAt_17 ?_
      obtain ⟨v3, hxv3, hF⟩ := Option.bind_eq_some_iff.mp hF
      refine ab_lald C (X5_r1 hB0) hxv3 dX5_vowelAt_18 ?_
      refine ab_lconst (v := (0 : Int64)) C dX5_vowelAt_19 (by decide) ?_
      refine ab_lcmp C dX5_vowelAt_20 ?_
      refine ab_if_lt C 37 dX5_vowelAt_21 (by decide) (fun c4 => ?_) (fun c4 => ?_)
      · replace hF := (if_pos c4).symm.trans hF
        refine ab_iconst (v := (-1 : Int32)) C dX5_vowelAt_37 (by decide) ?_
        obtain rfl := Option.some.inj hF
        exact ab_iret C R0 rfl dX5_vowelAt_38 ⟨rfl, rfl, rfl⟩
      · replace hF := (if_neg c4).symm.trans hF
        refine ab_aload_n C 0 rfl rfl dX5_vowelAt_24 ?_
        refine ab_g5 (v := .ref (a0 + 1)) C lf_X5_24 hB0.1 rfl dX5_vowelAt_25 ?_
        refine ab_iload_n C 1 rfl rfl dX5_vowelAt_28 ?_
        obtain ⟨v5, hxv5, hF⟩ := Option.bind_eq_some_iff.mp hF
        refine ab_lald C (X5_r1 hB0) hxv5 dX5_vowelAt_29 ?_
        refine ab_ldc2 (v := (5 : Int64)) C dX5_vowelAt_30 lq_X5_30 ?_
        refine ab_lcmp C dX5_vowelAt_33 ?_
        refine ab_if_lt C 39 dX5_vowelAt_34 (by decide) (fun c6 => ?_) (fun c6 => ?_)
        · replace hF := (if_pos c6).symm.trans hF
          refine ab_aload_n C 0 rfl rfl dX5_vowelAt_39 ?_
          refine ab_g5 (v := .ref (a0 + 1)) C lf_X5_24 hB0.1 rfl dX5_vowelAt_40 ?_
          refine ab_iload_n C 1 rfl rfl dX5_vowelAt_43 ?_
          obtain ⟨v7, hxv7, hF⟩ := Option.bind_eq_some_iff.mp hF
          refine ab_lald C (X5_r1 hB0) hxv7 dX5_vowelAt_44 ?_
          refine ab_l2i C dX5_vowelAt_45 ?_
          obtain rfl := Option.some.inj hF
          exact ab_iret C R0 rfl dX5_vowelAt_46 ⟨rfl, rfl, rfl⟩
        · replace hF := (if_neg c6).symm.trans hF
          refine ab_iconst (v := (-1 : Int32)) C dX5_vowelAt_37 (by decide) ?_
          obtain rfl := Option.some.inj hF
          exact ab_iret C R0 rfl dX5_vowelAt_38 ⟨rfl, rfl, rfl⟩
theorem dX1_bind_0 : decode cX1_bind 0 = .ok (.iload_n 1, 1) := by decide +kernel
theorem dX1_bind_1 : decode cX1_bind 1 = .ok (.ifCond .lt 8, 3) := by decide +kernel
theorem dX1_bind_4 : decode cX1_bind 4 = .ok (.iload_n 1, 1) := by decide +kernel
theorem dX1_bind_5 : decode cX1_bind 5 = .ok (.iconst 5, 1) := by decide +kernel
theorem dX1_bind_6 : decode cX1_bind 6 = .ok (.if_icmp .lt 4, 3) := by decide +kernel
theorem dX1_bind_9 : decode cX1_bind 9 = .ok (.return_, 1) := by decide +kernel
theorem dX1_bind_10 : decode cX1_bind 10 = .ok (.aload_n 0, 1) := by decide +kernel
theorem dX1_bind_11 : decode cX1_bind 11 = .ok (.getfield 9, 3) := by decide +kernel
theorem dX1_bind_14 : decode cX1_bind 14 = .ok (.iload_n 1, 1) := by decide +kernel
theorem dX1_bind_15 : decode cX1_bind 15 = .ok (.iaload, 1) := by decide +kernel
theorem dX1_bind_16 : decode cX1_bind 16 = .ok (.iconst (-1), 1) := by decide +kernel
theorem dX1_bind_17 : decode cX1_bind 17 = .ok (.if_icmp .eq 18, 3) := by decide +kernel
theorem dX1_bind_20 : decode cX1_bind 20 = .ok (.aload_n 0, 1) := by decide +kernel
theorem dX1_bind_21 : decode cX1_bind 21 = .ok (.getfield 9, 3) := by decide +kernel
theorem dX1_bind_24 : decode cX1_bind 24 = .ok (.iload_n 1, 1) := by decide +kernel
theorem dX1_bind_25 : decode cX1_bind 25 = .ok (.iaload, 1) := by decide +kernel
theorem dX1_bind_26 : decode cX1_bind 26 = .ok (.iload_n 2, 1) := by decide +kernel
theorem dX1_bind_27 : decode cX1_bind 27 = .ok (.if_icmp .eq 8, 3) := by decide +kernel
theorem dX1_bind_30 : decode cX1_bind 30 = .ok (.aload_n 0, 1) := by decide +kernel
theorem dX1_bind_31 : decode cX1_bind 31 = .ok (.iconst 0, 1) := by decide +kernel
theorem dX1_bind_32 : decode cX1_bind 32 = .ok (.putfield 15, 3) := by decide +kernel
theorem dX1_bind_35 : decode cX1_bind 35 = .ok (.aload_n 0, 1) := by decide +kernel
theorem dX1_bind_36 : decode cX1_bind 36 = .ok (.getfield 9, 3) := by decide +kernel
theorem dX1_bind_39 : decode cX1_bind 39 = .ok (.iload_n 1, 1) := by decide +kernel
theorem dX1_bind_40 : decode cX1_bind 40 = .ok (.iload_n 2, 1) := by decide +kernel
theorem dX1_bind_41 : decode cX1_bind 41 = .ok (.iastore, 1) := by decide +kernel
theorem dX1_bind_42 : decode cX1_bind 42 = .ok (.return_, 1) := by decide +kernel
def X1_bind (S0 : Rec) (x1 : Int32) (x2 : Int32) : Option (Rec) :=
  if x1 < 0 then
    some S0
  else
    if x1 < (5 : Int32) then
      (rdI (S0.2.1 0) 5 x1).bind fun v3 =>
      if v3 = (-1 : Int32) then
        (wrI (S0.2.1 0) 5 x1 x2).bind fun w5 =>
        some (sA S0 0 w5)
      else
        (rdI (S0.2.1 0) 5 x1).bind fun v7 =>
        if v7 = x2 then
          (wrI (S0.2.1 0) 5 x1 x2).bind fun w9 =>
          some (sA S0 0 w9)
        else
          (wrI ((sI S0 1 (0 : Int32)).2.1 0) 5 x1 x2).bind fun w12 =>
          some (sA (sI S0 1 (0 : Int32)) 0 w12)
    else
      some S0
set_option maxRecDepth 100000 in
set_option maxHeartbeats 4000000 in
theorem X1_bind_ok (l : Launch) {h : aH} {nx : Nat} {a0 : Nat} {S0 : Rec} {x1 : Int32} {x2 : Int32} (hB0 : X1_at h a0 S0) {r : Rec} (hF : X1_bind S0 x1 x2 = some r) : aOk l 0 0 0 yX1_bind cX1_bind 3 none [.ref a0, .int x1, .int x2] h nx (aMt none nx (fun h1 => X1_at h1 a0 r ∧ (∀ q, (q < a0 ∨ a0 + 2 ≤ q) → h1 q = h q))) := by
  refine aOk.of (by decide +kernel) (Nat.le_of_ble_eq_true rfl) (fun X G hX C R0 _ => ?_)
  subst hX
  show aV X G 3 0 [(0, .ref a0), (1, .int x1), (2, .int x2)] [] h nx 0 0
  have hFr : ∀ q, (q < a0 ∨ a0 + 2 ≤ q) → h q = h q := fun _ _ => rfl
  rw [X1_bind] at hF
  refine ab_iload_n C 1 rfl rfl dX1_bind_0 ?_
  refine ab_if_lt C 9 dX1_bind_1 (by decide) (fun c1 => ?_) (fun c1 => ?_)
  · replace hF := (if_pos c1).symm.trans hF
    obtain rfl := Option.some.inj hF
    exact ab_vret C R0 dX1_bind_9 ⟨rfl, rfl, hB0, hFr⟩
  · replace hF := (if_neg c1).symm.trans hF
    refine ab_iload_n C 1 rfl rfl dX1_bind_4 ?_
    refine ab_iconst (v := (5 : Int32)) C dX1_bind_5 (by decide) ?_
    refine ab_icmp_lt C 10 dX1_bind_6 (by decide) (fun c2 => ?_) (fun c2 => ?_)
    · replace hF := (if_pos c2).symm.trans hF
      refine ab_aload_n C 0 rfl rfl dX1_bind_10 ?_
      refine ab_g1 (v := .ref (a0 + 1)) C lf_X1_9 hB0.1 rfl dX1_bind_11 ?_
      refine ab_iload_n C 1 rfl rfl dX1_bind_14 ?_
      obtain ⟨v3, hxv3, hF⟩ := Option.bind_eq_some_iff.mp hF
      refine ab_iald C (X1_r0 hB0) hxv3 dX1_bind_15 ?_
      refine ab_iconst (v := (-1 : Int32)) C dX1_bind_16 (by decide) ?_
      refine ab_icmp_eq C 35 dX1_bind_17 (by decide) (fun c4 => ?_) (fun c4 => ?_)
      · replace hF := (if_pos c4).symm.trans hF
        refine ab_aload_n C 0 rfl rfl dX1_bind_35 ?_
        refine ab_g1 (v := .ref (a0 + 1)) C lf_X1_9 hB0.1 rfl dX1_bind_36 ?_
        refine ab_iload_n C 1 rfl rfl dX1_bind_39 ?_
        refine ab_iload_n C 2 rfl rfl dX1_bind_40 ?_
        obtain ⟨w5, hxw5, hF⟩ := Option.bind_eq_some_iff.mp hF
        refine ab_iast C (X1_r0 hB0) hxw5 dX1_bind_41 (fun g6 eg6 og6 => ?_)
        have hB0 : X1_at g6 a0 (sA S0 0 w5) := X1_w0 hB0 eg6 og6
        have hFr : ∀ q, (q < a0 ∨ a0 + 2 ≤ q) → g6 q = h q := fun q u0 => (og6 q (by omega)).trans (hFr q u0)
        obtain rfl := Option.some.inj hF
        exact ab_vret C R0 dX1_bind_42 ⟨rfl, rfl, hB0, hFr⟩
      · replace hF := (if_neg c4).symm.trans hF
        refine ab_aload_n C 0 rfl rfl dX1_bind_20 ?_
        refine ab_g1 (v := .ref (a0 + 1)) C lf_X1_9 hB0.1 rfl dX1_bind_21 ?_
        refine ab_iload_n C 1 rfl rfl dX1_bind_24 ?_
        obtain ⟨v7, hxv7, hF⟩ := Option.bind_eq_some_iff.mp hF
        refine ab_iald C (X1_r0 hB0) hxv7 dX1_bind_25 ?_
        refine ab_iload_n C 2 rfl rfl dX1_bind_26 ?_
        refine ab_icmp_eq C 35 dX1_bind_27 (by decide) (fun c8 => ?_) (fun c8 => ?_)
        · replace hF := (if_pos c8).symm.trans hF
          refine ab_aload_n C 0 rfl rfl dX1_bind_35 ?_
          refine ab_g1 (v := .ref (a0 + 1)) C lf_X1_9 hB0.1 rfl dX1_bind_36 ?_
          refine ab_iload_n C 1 rfl rfl dX1_bind_39 ?_
          refine ab_iload_n C 2 rfl rfl dX1_bind_40 ?_
          obtain ⟨w9, hxw9, hF⟩ := Option.bind_eq_some_iff.mp hF
          refine ab_iast C (X1_r0 hB0) hxw9 dX1_bind_41 (fun g10 eg10 og10 => ?_)
          have hB0 : X1_at g10 a0 (sA S0 0 w9) := X1_w0 hB0 eg10 og10
          have hFr : ∀ q, (q < a0 ∨ a0 + 2 ≤ q) → g10 q = h q := fun q u0 => (og10 q (by omega)).trans (hFr q u0)
          obtain rfl := Option.some.inj hF
          exact ab_vret C R0 dX1_bind_42 ⟨rfl, rfl, hB0, hFr⟩
        · replace hF := (if_neg c8).symm.trans hF
          refine ab_aload_n C 0 rfl rfl dX1_bind_30 ?_
          refine ab_iconst (v := (0 : Int32)) C dX1_bind_31 (by decide) ?_
          refine ab_p1 (ty := .boolean) C lf_X1_15 rfl (by decide +kernel) rfl rfl (Nat.le_of_ble_eq_true rfl) hB0.1 dX1_bind_32 (fun g11 eg11 og11 => ?_)
          have hB0 : X1_at g11 a0 (sI S0 1 (0 : Int32)) := X1_p1 hB0 eg11 og11
          have hFr : ∀ q, (q < a0 ∨ a0 + 2 ≤ q) → g11 q = h q := fun q u0 => (og11 q (by omega)).trans (hFr q u0)
          refine ab_aload_n C 0 rfl rfl dX1_bind_35 ?_
          refine ab_g1 (v := .ref (a0 + 1)) C lf_X1_9 hB0.1 rfl dX1_bind_36 ?_
          refine ab_iload_n C 1 rfl rfl dX1_bind_39 ?_
          refine ab_iload_n C 2 rfl rfl dX1_bind_40 ?_
          obtain ⟨w12, hxw12, hF⟩ := Option.bind_eq_some_iff.mp hF
          refine ab_iast C (X1_r0 hB0) hxw12 dX1_bind_41 (fun g13 eg13 og13 => ?_)
          have hB0 : X1_at g13 a0 (sA (sI S0 1 (0 : Int32)) 0 w12) := X1_w0 hB0 eg13 og13
          have hFr : ∀ q, (q < a0 ∨ a0 + 2 ≤ q) → g13 q = h q := fun q u0 => (og13 q (by omega)).trans (hFr q u0)
          obtain rfl := Option.some.inj hF
          exact ab_vret C R0 dX1_bind_42 ⟨rfl, rfl, hB0, hFr⟩
    · replace hF := (if_neg c2).symm.trans hF
      obtain rfl := Option.some.inj hF
      exact ab_vret C R0 dX1_bind_9 ⟨rfl, rfl, hB0, hFr⟩
theorem dX1_compare_0 : decode cX1_compare 0 = .ok (.aload_n 0, 1) := by decide +kernel
theorem dX1_compare_1 : decode cX1_compare 1 = .ok (.iconst 1, 1) := by decide +kernel
theorem dX1_compare_2 : decode cX1_compare 2 = .ok (.putfield 15, 3) := by decide +kernel
theorem dX1_compare_5 : decode cX1_compare 5 = .ok (.iconst 0, 1) := by decide +kernel
theorem dX1_compare_6 : decode cX1_compare 6 = .ok (.istore 4, 2) := by decide +kernel
theorem dX1_compare_8 : decode cX1_compare 8 = .ok (.iload 4, 2) := by decide +kernel
theorem dX1_compare_10 : decode cX1_compare 10 = .ok (.iconst 5, 1) := by decide +kernel
theorem dX1_compare_11 : decode cX1_compare 11 = .ok (.if_icmp .ge 17, 3) := by decide +kernel
theorem dX1_compare_14 : decode cX1_compare 14 = .ok (.aload_n 0, 1) := by decide +kernel
theorem dX1_compare_15 : decode cX1_compare 15 = .ok (.getfield 9, 3) := by decide +kernel
theorem dX1_compare_18 : decode cX1_compare 18 = .ok (.iload 4, 2) := by decide +kernel
theorem dX1_compare_20 : decode cX1_compare 20 = .ok (.iconst (-1), 1) := by decide +kernel
theorem dX1_compare_21 : decode cX1_compare 21 = .ok (.iastore, 1) := by decide +kernel
theorem dX1_compare_22 : decode cX1_compare 22 = .ok (.iinc 4 1, 3) := by decide +kernel
theorem dX1_compare_25 : decode cX1_compare 25 = .ok (.goto (-17), 3) := by decide +kernel
theorem dX1_compare_28 : decode cX1_compare 28 = .ok (.iconst 0, 1) := by decide +kernel
theorem dX1_compare_29 : decode cX1_compare 29 = .ok (.istore 4, 2) := by decide +kernel
theorem dX1_compare_31 : decode cX1_compare 31 = .ok (.iload 4, 2) := by decide +kernel
theorem dX1_compare_33 : decode cX1_compare 33 = .ok (.iload_n 3, 1) := by decide +kernel
theorem dX1_compare_34 : decode cX1_compare 34 = .ok (.if_icmp .ge 35, 3) := by decide +kernel
theorem dX1_compare_37 : decode cX1_compare 37 = .ok (.aload_n 0, 1) := by decide +kernel
theorem dX1_compare_38 : decode cX1_compare 38 = .ok (.aload_n 1, 1) := by decide +kernel
theorem dX1_compare_39 : decode cX1_compare 39 = .ok (.iload_n 2, 1) := by decide +kernel
theorem dX1_compare_40 : decode cX1_compare 40 = .ok (.iconst 2, 1) := by decide +kernel
theorem dX1_compare_41 : decode cX1_compare 41 = .ok (.iload 4, 2) := by decide +kernel
theorem dX1_compare_43 : decode cX1_compare 43 = .ok (.imul, 1) := by decide +kernel
theorem dX1_compare_44 : decode cX1_compare 44 = .ok (.iadd, 1) := by decide +kernel
theorem dX1_compare_45 : decode cX1_compare 45 = .ok (.invokevirtual 19, 3) := by decide +kernel
theorem dX1_compare_48 : decode cX1_compare 48 = .ok (.aload_n 1, 1) := by decide +kernel
theorem dX1_compare_49 : decode cX1_compare 49 = .ok (.iload_n 2, 1) := by decide +kernel
theorem dX1_compare_50 : decode cX1_compare 50 = .ok (.iconst 2, 1) := by decide +kernel
theorem dX1_compare_51 : decode cX1_compare 51 = .ok (.iload 4, 2) := by decide +kernel
theorem dX1_compare_53 : decode cX1_compare 53 = .ok (.imul, 1) := by decide +kernel
theorem dX1_compare_54 : decode cX1_compare 54 = .ok (.iadd, 1) := by decide +kernel
theorem dX1_compare_55 : decode cX1_compare 55 = .ok (.iconst 1, 1) := by decide +kernel
theorem dX1_compare_56 : decode cX1_compare 56 = .ok (.iadd, 1) := by decide +kernel
theorem dX1_compare_57 : decode cX1_compare 57 = .ok (.invokevirtual 19, 3) := by decide +kernel
theorem dX1_compare_60 : decode cX1_compare 60 = .ok (.invokevirtual 25, 3) := by decide +kernel
theorem dX1_compare_63 : decode cX1_compare 63 = .ok (.iinc 4 1, 3) := by decide +kernel
theorem dX1_compare_66 : decode cX1_compare 66 = .ok (.goto (-35), 3) := by decide +kernel
theorem dX1_compare_69 : decode cX1_compare 69 = .ok (.return_, 1) := by decide +kernel
def X1_compare_L8 : Nat → Int32 → Rec → Option (Rec)
  | 0, _, _ => none
  | n8 + 1, v2, Z3 => if (5 : Int32) ≤ v2 then
      some Z3
    else
      (wrI (Z3.2.1 0) 5 v2 (-1 : Int32)).bind fun w6 =>
      aLet (v2 + (1 : Int32)) fun v8 =>
      X1_compare_L8 n8 v8 (sA Z3 0 w6)
def X1_compare_L31 (x3 : Int32) (m1 : Nat) (S1 : Rec) (x2 : Int32) : Nat → Int32 → Rec → Option (Rec)
  | 0, _, _ => none
  | n31 + 1, v11, Z12 => if x3 ≤ v11 then
      some Z12
    else
      (X5_vowelAt m1 S1 (x2 + ((2 : Int32) * v11))).bind fun v15 =>
      (X5_vowelAt m1 S1 ((x2 + ((2 : Int32) * v11)) + (1 : Int32))).bind fun v16 =>
      (X1_bind Z12 v15 v16).bind fun v17 =>
      aLet (v11 + (1 : Int32)) fun v19 =>
      X1_compare_L31 x3 m1 S1 x2 n31 v19 v17
def X1_compare (S0 : Rec) (m1 : Nat) (S1 : Rec) (x2 : Int32) (x3 : Int32) : Option (Rec) :=
  (X1_compare_L8 aFu (0 : Int32) (sI S0 1 (1 : Int32))).bind fun e9 =>
  (X1_compare_L31 x3 m1 S1 x2 aFu (0 : Int32) e9).bind fun e20 =>
  some e20
set_option maxRecDepth 100000 in
set_option maxHeartbeats 4000000 in
theorem X1_compare_ok (l : Launch) {h : aH} {nx : Nat} {a0 : Nat} {a1 : Nat} {S0 : Rec} {m1 : Nat} {S1 : Rec} {x2 : Int32} {x3 : Int32} (hB0 : X1_at h a0 S0) (hB1 : X5_at h a1 m1 S1) (hs01 : a0 + 2 ≤ a1 ∨ a1 + 2 ≤ a0) {r : Rec} (hF : X1_compare S0 m1 S1 x2 x3 = some r) : aOk l 1 0 0 yX1_compare cX1_compare 5 none [.ref a0, .ref a1, .int x2, .int x3] h nx (aMt none nx (fun h1 => X1_at h1 a0 r ∧ (∀ q, (q < a0 ∨ a0 + 2 ≤ q) → h1 q = h q))) := by
  refine aOk.of (by decide +kernel) (Nat.le_of_ble_eq_true rfl) (fun X G hX C R0 _ => ?_)
  subst hX
  show aV X G 5 0 [(0, .ref a0), (1, .ref a1), (2, .int x2), (3, .int x3)] [] h nx 0 0
  have hFr : ∀ q, (q < a0 ∨ a0 + 2 ≤ q) → h q = h q := fun _ _ => rfl
  rw [X1_compare] at hF
  refine ab_aload_n C 0 rfl rfl dX1_compare_0 ?_
  refine ab_iconst (v := (1 : Int32)) C dX1_compare_1 (by decide) ?_
  refine ab_p1 (ty := .boolean) C lf_X1_15 rfl (by decide +kernel) rfl rfl (Nat.le_of_ble_eq_true rfl) hB0.1 dX1_compare_2 (fun g1 eg1 og1 => ?_)
  have hB0 : X1_at g1 a0 (sI S0 1 (1 : Int32)) := X1_p1 hB0 eg1 og1
  have hB1 : X5_at g1 a1 m1 S1 := X5_off hB1 (fun q i1 i2 => og1 q (by omega))
  have hFr : ∀ q, (q < a0 ∨ a0 + 2 ≤ q) → g1 q = h q := fun q u0 => (og1 q (by omega)).trans (hFr q u0)
  refine ab_iconst (v := (0 : Int32)) C dX1_compare_5 (by decide) ?_
  refine ab_istore (lv' := [(4, .int (0 : Int32)), (0, .ref a0), (1, .ref a1), (2, .int x2), (3, .int x3)]) C dX1_compare_6 (by decide) rfl ?_
  have L8 : ∀ (n8 : Nat) (v2 : Int32) (Z3 : Rec) (g4 : aH), (X1_at g4 a0 Z3) → (X5_at g4 a1 m1 S1) → (∀ q, (q < a0 ∨ a0 + 2 ≤ q) → g4 q = h q) → ∀ (res8 : Rec), X1_compare_L8 n8 v2 Z3 = some res8 → (∀ (q9 : aH), (X1_at q9 a0 res8) → (X5_at q9 a1 m1 S1) → (∀ q, (q < a0 ∨ a0 + 2 ≤ q) → q9 q = h q) → aV X G 5 28 [(0, .ref a0), (1, .ref a1), (2, .int x2), (3, .int x3)] [] q9 nx 0 0) → aV X G 5 8 [(0, .ref a0), (1, .ref a1), (2, .int x2), (3, .int x3), (4, .int v2)] [] g4 nx 0 0 := by
    intro n8
    induction n8 with
    | zero => intro v2 Z3 g4 hB0 hB1 hFr res8 hF KX8; cases (show (none : Option (Rec)) = some res8 from hF)
    | succ n8 ih8 =>
      intro v2 Z3 g4 hB0 hB1 hFr res8 hF KX8
      rw [X1_compare_L8] at hF
      refine ab_iload C 4 rfl dX1_compare_8 ?_
      refine ab_iconst (v := (5 : Int32)) C dX1_compare_10 (by decide) ?_
      refine ab_icmp_ge C 28 dX1_compare_11 (by decide) (fun c5 => ?_) (fun c5 => ?_)
      · replace hF := (if_pos c5).symm.trans hF
        obtain rfl := Option.some.inj hF
        refine aV.sub (lv' := [(0, .ref a0), (1, .ref a1), (2, .int x2), (3, .int x3)]) [0, 1, 2, 3] rfl ?_
        exact KX8 g4 hB0 hB1 hFr
      · replace hF := (if_neg c5).symm.trans hF
        refine ab_aload_n C 0 rfl rfl dX1_compare_14 ?_
        refine ab_g1 (v := .ref (a0 + 1)) C lf_X1_9 hB0.1 rfl dX1_compare_15 ?_
        refine ab_iload C 4 rfl dX1_compare_18 ?_
        refine ab_iconst (v := (-1 : Int32)) C dX1_compare_20 (by decide) ?_
        obtain ⟨w6, hxw6, hF⟩ := Option.bind_eq_some_iff.mp hF
        refine ab_iast C (X1_r0 hB0) hxw6 dX1_compare_21 (fun g7 eg7 og7 => ?_)
        have hB0 : X1_at g7 a0 (sA Z3 0 w6) := X1_w0 hB0 eg7 og7
        have hB1 : X5_at g7 a1 m1 S1 := X5_off hB1 (fun q i1 i2 => og7 q (by omega))
        have hFr : ∀ q, (q < a0 ∨ a0 + 2 ≤ q) → g7 q = h q := fun q u0 => (og7 q (by omega)).trans (hFr q u0)
        obtain ⟨v8, qv8⟩ : ∃ y : Int32, y = (v2 + (1 : Int32)) := ⟨_, rfl⟩
        replace hF := aLet_e hF v8 qv8
        refine ab_iinc (lv' := [(4, .int v8), (0, .ref a0), (1, .ref a1), (2, .int x2), (3, .int x3)]) C 4 rfl dX1_compare_22 (by rw [qv8]; rfl) (by decide) rfl ?_
        refine ab_goto C 8 dX1_compare_25 (by decide) ?_
        refine aV.sub (lv' := [(0, .ref a0), (1, .ref a1), (2, .int x2), (3, .int x3), (4, .int v8)]) [1, 2, 3, 4, 0] rfl ?_
        exact ih8 v8 (sA Z3 0 w6) g7 hB0 hB1 hFr res8 hF KX8
  refine aV.sub (lv' := [(0, .ref a0), (1, .ref a1), (2, .int x2), (3, .int x3), (4, .int (0 : Int32))]) [1, 2, 3, 4, 0] rfl ?_
  obtain ⟨e9, he9, hF⟩ := Option.bind_eq_some_iff.mp hF
  refine L8 aFu (0 : Int32) (sI S0 1 (1 : Int32)) g1 hB0 hB1 hFr e9 he9 (fun g10 hB0 hB1 hFr => ?_)
  refine ab_iconst (v := (0 : Int32)) C dX1_compare_28 (by decide) ?_
  refine ab_istore (lv' := [(4, .int (0 : Int32)), (0, .ref a0), (1, .ref a1), (2, .int x2), (3, .int x3)]) C dX1_compare_29 (by decide) rfl ?_
  have L31 : ∀ (n31 : Nat) (v11 : Int32) (Z12 : Rec) (g13 : aH), (X1_at g13 a0 Z12) → (X5_at g13 a1 m1 S1) → (∀ q, (q < a0 ∨ a0 + 2 ≤ q) → g13 q = h q) → ∀ (res31 : Rec), X1_compare_L31 x3 m1 S1 x2 n31 v11 Z12 = some res31 → (∀ (q9 : aH), (X1_at q9 a0 res31) → (X5_at q9 a1 m1 S1) → (∀ q, (q < a0 ∨ a0 + 2 ≤ q) → q9 q = h q) → aV X G 5 69 [] [] q9 nx 0 0) → aV X G 5 31 [(0, .ref a0), (1, .ref a1), (2, .int x2), (3, .int x3), (4, .int v11)] [] g13 nx 0 0 := by
    intro n31
    induction n31 with
    | zero => intro v11 Z12 g13 hB0 hB1 hFr res31 hF KX31; cases (show (none : Option (Rec)) = some res31 from hF)
    | succ n31 ih31 =>
      intro v11 Z12 g13 hB0 hB1 hFr res31 hF KX31
      rw [X1_compare_L31] at hF
      refine ab_iload C 4 rfl dX1_compare_31 ?_
      refine ab_iload_n C 3 rfl rfl dX1_compare_33 ?_
      refine ab_icmp_ge C 69 dX1_compare_34 (by decide) (fun c14 => ?_) (fun c14 => ?_)
      · replace hF := (if_pos c14).symm.trans hF
        obtain rfl := Option.some.inj hF
        refine aV.sub (lv' := []) [] rfl ?_
        exact KX31 g13 hB0 hB1 hFr
      · replace hF := (if_neg c14).symm.trans hF
        refine ab_aload_n C 0 rfl rfl dX1_compare_37 ?_
        refine ab_aload_n C 1 rfl rfl dX1_compare_38 ?_
        refine ab_iload_n C 2 rfl rfl dX1_compare_39 ?_
        refine ab_iconst (v := (2 : Int32)) C dX1_compare_40 (by decide) ?_
        refine ab_iload C 4 rfl dX1_compare_41 ?_
        refine ab_imul C dX1_compare_43 ?_
        refine ab_iadd C dX1_compare_44 ?_
        obtain ⟨v15, hxv15, hF⟩ := Option.bind_eq_some_iff.mp hF
        refine ab_cVR (v := .int v15) (st := [.ref a0]) C lm_X1_19 (X5_vowelAt_ok (xl X) hB1 (r := v15) hxv15) [.int (x2 + ((2 : Int32) * v11))] rfl hB1.1 rfl rfl rfl (by decide) ⟨Nat.zero_le _, Nat.zero_le _⟩ (Nat.le_of_ble_eq_true rfl) dX1_compare_45 ?_
        refine ab_aload_n C 1 rfl rfl dX1_compare_48 ?_
        refine ab_iload_n C 2 rfl rfl dX1_compare_49 ?_
        refine ab_iconst (v := (2 : Int32)) C dX1_compare_50 (by decide) ?_
        refine ab_iload C 4 rfl dX1_compare_51 ?_
        refine ab_imul C dX1_compare_53 ?_
        refine ab_iadd C dX1_compare_54 ?_
        refine ab_iconst (v := (1 : Int32)) C dX1_compare_55 (by decide) ?_
        refine ab_iadd C dX1_compare_56 ?_
        obtain ⟨v16, hxv16, hF⟩ := Option.bind_eq_some_iff.mp hF
        refine ab_cVR (v := .int v16) (st := [.int v15, .ref a0]) C lm_X1_19 (X5_vowelAt_ok (xl X) hB1 (r := v16) hxv16) [.int ((x2 + ((2 : Int32) * v11)) + (1 : Int32))] rfl hB1.1 rfl rfl rfl (by decide) ⟨Nat.zero_le _, Nat.zero_le _⟩ (Nat.le_of_ble_eq_true rfl) dX1_compare_57 ?_
        obtain ⟨v17, hxv17, hF⟩ := Option.bind_eq_some_iff.mp hF
        refine ab_cVN (st := []) C lm_X1_25 (X1_bind_ok (xl X) hB0 (r := v17) hxv17) [.int v15, .int v16] rfl hB0.1 rfl rfl rfl (by decide) ⟨Nat.zero_le _, Nat.zero_le _⟩ (Nat.le_of_ble_eq_true rfl) dX1_compare_60 (fun g18 pg18 => ?_)
        obtain ⟨k0, Og18⟩ := pg18
        have hB0 : X1_at g18 a0 v17 := k0
        have hB1 : X5_at g18 a1 m1 S1 := X5_off hB1 (fun q i1 i2 => Og18 q (by omega))
        have hFr : ∀ q, (q < a0 ∨ a0 + 2 ≤ q) → g18 q = h q := fun q u0 => (Og18 q (by omega)).trans (hFr q u0)
        obtain ⟨v19, qv19⟩ : ∃ y : Int32, y = (v11 + (1 : Int32)) := ⟨_, rfl⟩
        replace hF := aLet_e hF v19 qv19
        refine ab_iinc (lv' := [(4, .int v19), (0, .ref a0), (1, .ref a1), (2, .int x2), (3, .int x3)]) C 4 rfl dX1_compare_63 (by rw [qv19]; rfl) (by decide) rfl ?_
        refine ab_goto C 31 dX1_compare_66 (by decide) ?_
        refine aV.sub (lv' := [(0, .ref a0), (1, .ref a1), (2, .int x2), (3, .int x3), (4, .int v19)]) [1, 2, 3, 4, 0] rfl ?_
        exact ih31 v19 v17 g18 hB0 hB1 hFr res31 hF KX31
  refine aV.sub (lv' := [(0, .ref a0), (1, .ref a1), (2, .int x2), (3, .int x3), (4, .int (0 : Int32))]) [1, 2, 3, 4, 0] rfl ?_
  obtain ⟨e20, he20, hF⟩ := Option.bind_eq_some_iff.mp hF
  refine L31 aFu (0 : Int32) e9 g10 hB0 hB1 hFr e20 he20 (fun g21 hB0 hB1 hFr => ?_)
  obtain rfl := Option.some.inj hF
  exact ab_vret C R0 dX1_compare_69 ⟨rfl, rfl, hB0, hFr⟩
theorem dX1_howMany_0 : decode cX1_howMany 0 = .ok (.aload_n 0, 1) := by decide +kernel
theorem dX1_howMany_1 : decode cX1_howMany 1 = .ok (.getfield 15, 3) := by decide +kernel
theorem dX1_howMany_4 : decode cX1_howMany 4 = .ok (.ifCond .eq 7, 3) := by decide +kernel
theorem dX1_howMany_7 : decode cX1_howMany 7 = .ok (.iconst 1, 1) := by decide +kernel
theorem dX1_howMany_8 : decode cX1_howMany 8 = .ok (.goto 4, 3) := by decide +kernel
theorem dX1_howMany_11 : decode cX1_howMany 11 = .ok (.iconst 0, 1) := by decide +kernel
theorem dX1_howMany_12 : decode cX1_howMany 12 = .ok (.istore_n 1, 1) := by decide +kernel
theorem dX1_howMany_13 : decode cX1_howMany 13 = .ok (.iconst 0, 1) := by decide +kernel
theorem dX1_howMany_14 : decode cX1_howMany 14 = .ok (.istore_n 2, 1) := by decide +kernel
theorem dX1_howMany_15 : decode cX1_howMany 15 = .ok (.iload_n 2, 1) := by decide +kernel
theorem dX1_howMany_16 : decode cX1_howMany 16 = .ok (.iconst 5, 1) := by decide +kernel
theorem dX1_howMany_17 : decode cX1_howMany 17 = .ok (.if_icmp .ge 27, 3) := by decide +kernel
theorem dX1_howMany_20 : decode cX1_howMany 20 = .ok (.iload_n 1, 1) := by decide +kernel
theorem dX1_howMany_21 : decode cX1_howMany 21 = .ok (.aload_n 0, 1) := by decide +kernel
theorem dX1_howMany_22 : decode cX1_howMany 22 = .ok (.getfield 9, 3) := by decide +kernel
theorem dX1_howMany_25 : decode cX1_howMany 25 = .ok (.iload_n 2, 1) := by decide +kernel
theorem dX1_howMany_26 : decode cX1_howMany 26 = .ok (.iaload, 1) := by decide +kernel
theorem dX1_howMany_27 : decode cX1_howMany 27 = .ok (.iconst (-1), 1) := by decide +kernel
theorem dX1_howMany_28 : decode cX1_howMany 28 = .ok (.if_icmp .ne 7, 3) := by decide +kernel
theorem dX1_howMany_31 : decode cX1_howMany 31 = .ok (.iconst 5, 1) := by decide +kernel
theorem dX1_howMany_32 : decode cX1_howMany 32 = .ok (.goto 4, 3) := by decide +kernel
theorem dX1_howMany_35 : decode cX1_howMany 35 = .ok (.iconst 1, 1) := by decide +kernel
theorem dX1_howMany_36 : decode cX1_howMany 36 = .ok (.imul, 1) := by decide +kernel
theorem dX1_howMany_37 : decode cX1_howMany 37 = .ok (.istore_n 1, 1) := by decide +kernel
theorem dX1_howMany_38 : decode cX1_howMany 38 = .ok (.iinc 2 1, 3) := by decide +kernel
theorem dX1_howMany_41 : decode cX1_howMany 41 = .ok (.goto (-26), 3) := by decide +kernel
theorem dX1_howMany_44 : decode cX1_howMany 44 = .ok (.iload_n 1, 1) := by decide +kernel
theorem dX1_howMany_45 : decode cX1_howMany 45 = .ok (.ireturn, 1) := by decide +kernel
def X1_howMany_L15 (S0 : Rec) : Nat → Int32 → Int32 → Option (Int32)
  | 0, _, _ => none
  | n15 + 1, v2, v3 => if (5 : Int32) ≤ v3 then
      some v2
    else
      (rdI (S0.2.1 0) 5 v3).bind fun v5 =>
      if v5 = (-1 : Int32) then
        aLet (v2 * (5 : Int32)) fun v9 =>
        aLet (v3 + (1 : Int32)) fun v10 =>
        X1_howMany_L15 S0 n15 v9 v10
      else
        aLet (v2 * (1 : Int32)) fun v7 =>
        aLet (v3 + (1 : Int32)) fun v8 =>
        X1_howMany_L15 S0 n15 v7 v8
def X1_howMany_J12 (S0 : Rec) (v1 : Int32) : Option (Int32) :=
  (X1_howMany_L15 S0 aFu v1 (0 : Int32)).bind fun e11 =>
  some e11
def X1_howMany (S0 : Rec) : Option (Int32) :=
  if (S0.1 1) = 0 then
    X1_howMany_J12 S0 (0 : Int32)
  else
    X1_howMany_J12 S0 (1 : Int32)
set_option maxRecDepth 100000 in
set_option maxHeartbeats 4000000 in
theorem X1_howMany_ok (l : Launch) {h : aH} {nx : Nat} {a0 : Nat} {S0 : Rec} (hB0 : X1_at h a0 S0) {r : Int32} (hF : X1_howMany S0 = some r) : aOk l 0 0 0 yX1_howMany cX1_howMany 3 (some .int) [.ref a0] h nx (aRd (.int r) h nx) := by
  refine aOk.of (by decide +kernel) (Nat.le_of_ble_eq_true rfl) (fun X G hX C R0 _ => ?_)
  subst hX
  show aV X G 3 0 [(0, .ref a0)] [] h nx 0 0
  rw [X1_howMany] at hF
  refine ab_aload_n C 0 rfl rfl dX1_howMany_0 ?_
  refine ab_g1 (v := .int (S0.1 1)) C lf_X1_15 hB0.1 rfl dX1_howMany_1 ?_
  have J12 : ∀ (v1 : Int32), X1_howMany_J12 S0 v1 = some r → aV X G 3 12 [(0, .ref a0)] [.int v1] h nx 0 0 := by
    intro v1 hF
    rw [X1_howMany_J12] at hF
    refine ab_istore_n (lv' := [(1, .int v1), (0, .ref a0)]) C dX1_howMany_12 rfl (by decide) rfl ?_
    refine ab_iconst (v := (0 : Int32)) C dX1_howMany_13 (by decide) ?_
    refine ab_istore_n (lv' := [(2, .int (0 : Int32)), (1, .int v1), (0, .ref a0)]) C dX1_howMany_14 rfl (by decide) rfl ?_
    have L15 : ∀ (n15 : Nat) (v2 : Int32) (v3 : Int32), ∀ (res15 : Int32), X1_howMany_L15 S0 n15 v2 v3 = some res15 → (aV X G 3 44 [(1, .int res15)] [] h nx 0 0) → aV X G 3 15 [(0, .ref a0), (1, .int v2), (2, .int v3)] [] h nx 0 0 := by
      intro n15
      induction n15 with
      | zero => intro v2 v3 res15 hF KX15; cases (show (none : Option (Int32)) = some res15 from hF)
      | succ n15 ih15 =>
        intro v2 v3 res15 hF KX15
        rw [X1_howMany_L15] at hF
        refine ab_iload_n C 2 rfl rfl dX1_howMany_15 ?_
        refine ab_iconst (v := (5 : Int32)) C dX1_howMany_16 (by decide) ?_
        refine ab_icmp_ge C 44 dX1_howMany_17 (by decide) (fun c4 => ?_) (fun c4 => ?_)
        · replace hF := (if_pos c4).symm.trans hF
          obtain rfl := Option.some.inj hF
          refine aV.sub (lv' := [(1, .int v2)]) [1] rfl ?_
          exact KX15
        · replace hF := (if_neg c4).symm.trans hF
          refine ab_iload_n C 1 rfl rfl dX1_howMany_20 ?_
          refine ab_aload_n C 0 rfl rfl dX1_howMany_21 ?_
          refine ab_g1 (v := .ref (a0 + 1)) C lf_X1_9 hB0.1 rfl dX1_howMany_22 ?_
          refine ab_iload_n C 2 rfl rfl dX1_howMany_25 ?_
          obtain ⟨v5, hxv5, hF⟩ := Option.bind_eq_some_iff.mp hF
          refine ab_iald C (X1_r0 hB0) hxv5 dX1_howMany_26 ?_
          refine ab_iconst (v := (-1 : Int32)) C dX1_howMany_27 (by decide) ?_
          refine ab_icmp_ne C 35 dX1_howMany_28 (by decide) (fun c6 => ?_) (fun c6 => ?_)
          · replace hF := (if_neg c6).symm.trans hF
            refine ab_iconst (v := (1 : Int32)) C dX1_howMany_35 (by decide) ?_
            refine ab_imul C dX1_howMany_36 ?_
            refine ab_topi (fun v7 qv7 => ?_)
            replace hF := aLet_e hF v7 qv7
            refine ab_istore_n (lv' := [(1, .int v7), (0, .ref a0), (2, .int v3)]) C dX1_howMany_37 rfl (by decide) rfl ?_
            obtain ⟨v8, qv8⟩ : ∃ y : Int32, y = (v3 + (1 : Int32)) := ⟨_, rfl⟩
            replace hF := aLet_e hF v8 qv8
            refine ab_iinc (lv' := [(2, .int v8), (1, .int v7), (0, .ref a0)]) C 2 rfl dX1_howMany_38 (by rw [qv8]; rfl) (by decide) rfl ?_
            refine ab_goto C 15 dX1_howMany_41 (by decide) ?_
            refine aV.sub (lv' := [(0, .ref a0), (1, .int v7), (2, .int v8)]) [2, 1, 0] rfl ?_
            exact ih15 v7 v8 res15 hF KX15
          · replace hF := (if_pos c6).symm.trans hF
            refine ab_iconst (v := (5 : Int32)) C dX1_howMany_31 (by decide) ?_
            refine ab_goto C 36 dX1_howMany_32 (by decide) ?_
            refine ab_imul C dX1_howMany_36 ?_
            refine ab_topi (fun v9 qv9 => ?_)
            replace hF := aLet_e hF v9 qv9
            refine ab_istore_n (lv' := [(1, .int v9), (0, .ref a0), (2, .int v3)]) C dX1_howMany_37 rfl (by decide) rfl ?_
            obtain ⟨v10, qv10⟩ : ∃ y : Int32, y = (v3 + (1 : Int32)) := ⟨_, rfl⟩
            replace hF := aLet_e hF v10 qv10
            refine ab_iinc (lv' := [(2, .int v10), (1, .int v9), (0, .ref a0)]) C 2 rfl dX1_howMany_38 (by rw [qv10]; rfl) (by decide) rfl ?_
            refine ab_goto C 15 dX1_howMany_41 (by decide) ?_
            refine aV.sub (lv' := [(0, .ref a0), (1, .int v9), (2, .int v10)]) [2, 1, 0] rfl ?_
            exact ih15 v9 v10 res15 hF KX15
    refine aV.sub (lv' := [(0, .ref a0), (1, .int v1), (2, .int (0 : Int32))]) [2, 1, 0] rfl ?_
    obtain ⟨e11, he11, hF⟩ := Option.bind_eq_some_iff.mp hF
    refine L15 aFu v1 (0 : Int32) e11 he11 ?_
    refine ab_iload_n C 0 rfl rfl dX1_howMany_44 ?_
    obtain rfl := Option.some.inj hF
    exact ab_iret C R0 rfl dX1_howMany_45 ⟨rfl, rfl, rfl⟩
  refine ab_if_eq C 11 dX1_howMany_4 (by decide) (fun c12 => ?_) (fun c12 => ?_)
  · replace hF := (if_pos c12).symm.trans hF
    refine ab_iconst (v := (0 : Int32)) C dX1_howMany_11 (by decide) ?_
    exact J12 (0 : Int32) hF
  · replace hF := (if_neg c12).symm.trans hF
    refine ab_iconst (v := (1 : Int32)) C dX1_howMany_7 (by decide) ?_
    refine ab_goto C 12 dX1_howMany_8 (by decide) ?_
    exact J12 (1 : Int32) hF
theorem dX1_becomes_0 : decode cX1_becomes 0 = .ok (.aload_n 0, 1) := by decide +kernel
theorem dX1_becomes_1 : decode cX1_becomes 1 = .ok (.getfield 15, 3) := by decide +kernel
theorem dX1_becomes_4 : decode cX1_becomes 4 = .ok (.ifCond .eq 12, 3) := by decide +kernel
theorem dX1_becomes_7 : decode cX1_becomes 7 = .ok (.iload_n 1, 1) := by decide +kernel
theorem dX1_becomes_8 : decode cX1_becomes 8 = .ok (.ifCond .lt 8, 3) := by decide +kernel
theorem dX1_becomes_11 : decode cX1_becomes 11 = .ok (.iload_n 1, 1) := by decide +kernel
theorem dX1_becomes_12 : decode cX1_becomes 12 = .ok (.iconst 5, 1) := by decide +kernel
theorem dX1_becomes_13 : decode cX1_becomes 13 = .ok (.if_icmp .lt 6, 3) := by decide +kernel
theorem dX1_becomes_16 : decode cX1_becomes 16 = .ok (.bipush (-4), 2) := by decide +kernel
theorem dX1_becomes_18 : decode cX1_becomes 18 = .ok (.ireturn, 1) := by decide +kernel
theorem dX1_becomes_19 : decode cX1_becomes 19 = .ok (.aload_n 0, 1) := by decide +kernel
theorem dX1_becomes_20 : decode cX1_becomes 20 = .ok (.getfield 9, 3) := by decide +kernel
theorem dX1_becomes_23 : decode cX1_becomes 23 = .ok (.iload_n 1, 1) := by decide +kernel
theorem dX1_becomes_24 : decode cX1_becomes 24 = .ok (.iaload, 1) := by decide +kernel
theorem dX1_becomes_25 : decode cX1_becomes 25 = .ok (.iconst 0, 1) := by decide +kernel
theorem dX1_becomes_26 : decode cX1_becomes 26 = .ok (.invokestatic 29, 3) := by decide +kernel
theorem dX1_becomes_29 : decode cX1_becomes 29 = .ok (.ireturn, 1) := by decide +kernel
def X1_becomes (S0 : Rec) (x1 : Int32) : Option (Int32) :=
  if (S0.1 1) = 0 then
    some (-4 : Int32)
  else
    if x1 < 0 then
      some (-4 : Int32)
    else
      if x1 < (5 : Int32) then
        (rdI (S0.2.1 0) 5 x1).bind fun v4 =>
        some (a_max v4 (0 : Int32))
      else
        some (-4 : Int32)
set_option maxRecDepth 100000 in
set_option maxHeartbeats 4000000 in
theorem X1_becomes_ok (l : Launch) {h : aH} {nx : Nat} {a0 : Nat} {S0 : Rec} {x1 : Int32} (hB0 : X1_at h a0 S0) {r : Int32} (hF : X1_becomes S0 x1 = some r) : aOk l 1 0 0 yX1_becomes cX1_becomes 2 (some .int) [.ref a0, .int x1] h nx (aRd (.int r) h nx) := by
  refine aOk.of (by decide +kernel) (Nat.le_of_ble_eq_true rfl) (fun X G hX C R0 _ => ?_)
  subst hX
  show aV X G 2 0 [(0, .ref a0), (1, .int x1)] [] h nx 0 0
  rw [X1_becomes] at hF
  refine ab_aload_n C 0 rfl rfl dX1_becomes_0 ?_
  refine ab_g1 (v := .int (S0.1 1)) C lf_X1_15 hB0.1 rfl dX1_becomes_1 ?_
  refine ab_if_eq C 16 dX1_becomes_4 (by decide) (fun c1 => ?_) (fun c1 => ?_)
  · replace hF := (if_pos c1).symm.trans hF
    refine ab_bipush (v := (-4 : Int32)) C dX1_becomes_16 (by decide) ?_
    obtain rfl := Option.some.inj hF
    exact ab_iret C R0 rfl dX1_becomes_18 ⟨rfl, rfl, rfl⟩
  · replace hF := (if_neg c1).symm.trans hF
    refine ab_iload_n C 1 rfl rfl dX1_becomes_7 ?_
    refine ab_if_lt C 16 dX1_becomes_8 (by decide) (fun c2 => ?_) (fun c2 => ?_)
    · replace hF := (if_pos c2).symm.trans hF
      refine ab_bipush (v := (-4 : Int32)) C dX1_becomes_16 (by decide) ?_
      obtain rfl := Option.some.inj hF
      exact ab_iret C R0 rfl dX1_becomes_18 ⟨rfl, rfl, rfl⟩
    · replace hF := (if_neg c2).symm.trans hF
      refine ab_iload_n C 1 rfl rfl dX1_becomes_11 ?_
      refine ab_iconst (v := (5 : Int32)) C dX1_becomes_12 (by decide) ?_
      refine ab_icmp_lt C 19 dX1_becomes_13 (by decide) (fun c3 => ?_) (fun c3 => ?_)
      · replace hF := (if_pos c3).symm.trans hF
        refine ab_aload_n C 0 rfl rfl dX1_becomes_19 ?_
        refine ab_g1 (v := .ref (a0 + 1)) C lf_X1_9 hB0.1 rfl dX1_becomes_20 ?_
        refine ab_iload_n C 1 rfl rfl dX1_becomes_23 ?_
        obtain ⟨v4, hxv4, hF⟩ := Option.bind_eq_some_iff.mp hF
        refine ab_iald C (X1_r0 hB0) hxv4 dX1_becomes_24 ?_
        refine ab_iconst (v := (0 : Int32)) C dX1_becomes_25 (by decide) ?_
        refine ab_mmax C (own := RX1) (a_mem 905 (by decide +kernel) (by decide +kernel)) (Nat.le_of_ble_eq_true rfl) ⟨Nat.zero_le _, Nat.zero_le _⟩ (Nat.le_of_ble_eq_true rfl) dX1_becomes_26 ?_
        obtain rfl := Option.some.inj hF
        exact ab_iret C R0 rfl dX1_becomes_29 ⟨rfl, rfl, rfl⟩
      · replace hF := (if_neg c3).symm.trans hF
        refine ab_bipush (v := (-4 : Int32)) C dX1_becomes_16 (by decide) ?_
        obtain rfl := Option.some.inj hF
        exact ab_iret C R0 rfl dX1_becomes_18 ⟨rfl, rfl, rfl⟩
theorem dX3_pairs_0 : decode cX3_pairs 0 = .ok (.aload_n 0, 1) := by decide +kernel
theorem dX3_pairs_1 : decode cX3_pairs 1 = .ok (.getfield 21, 3) := by decide +kernel
theorem dX3_pairs_4 : decode cX3_pairs 4 = .ok (.ireturn, 1) := by decide +kernel
def X3_pairs (S0 : Rec) : Int32 :=
  (S0.1 3)
set_option maxRecDepth 100000 in
set_option maxHeartbeats 4000000 in
theorem X3_pairs_ok (l : Launch) {h : aH} {nx : Nat} {a0 : Nat} {S0 : Rec} (hB0 : X3_at h a0 S0) {r : Int32} (hF : X3_pairs S0 = r) : aOk l 0 0 0 yX3_pairs cX3_pairs 1 (some .int) [.ref a0] h nx (aRd (.int r) h nx) := by
  refine aOk.of (by decide +kernel) (Nat.le_of_ble_eq_true rfl) (fun X G hX C R0 _ => ?_)
  subst hX
  show aV X G 1 0 [(0, .ref a0)] [] h nx 0 0
  rw [X3_pairs] at hF
  refine ab_aload_n C 0 rfl rfl dX3_pairs_0 ?_
  refine ab_g3 (v := .int (S0.1 3)) C lf_X3_21 hB0.1 rfl dX3_pairs_1 ?_
  obtain rfl := hF
  exact ab_iret C R0 rfl dX3_pairs_4 ⟨rfl, rfl, rfl⟩
theorem dX3_mateOf_0 : decode cX3_mateOf 0 = .ok (.iload_n 1, 1) := by decide +kernel
theorem dX3_mateOf_1 : decode cX3_mateOf 1 = .ok (.ifCond .lt 18, 3) := by decide +kernel
theorem dX3_mateOf_4 : decode cX3_mateOf 4 = .ok (.iload_n 1, 1) := by decide +kernel
theorem dX3_mateOf_5 : decode cX3_mateOf 5 = .ok (.bipush 6, 2) := by decide +kernel
theorem dX3_mateOf_7 : decode cX3_mateOf 7 = .ok (.if_icmp .ge 12, 3) := by decide +kernel
theorem dX3_mateOf_10 : decode cX3_mateOf 10 = .ok (.aload_n 0, 1) := by decide +kernel
theorem dX3_mateOf_11 : decode cX3_mateOf 11 = .ok (.getfield 18, 3) := by decide +kernel
theorem dX3_mateOf_14 : decode cX3_mateOf 14 = .ok (.iload_n 1, 1) := by decide +kernel
theorem dX3_mateOf_15 : decode cX3_mateOf 15 = .ok (.iaload, 1) := by decide +kernel
theorem dX3_mateOf_16 : decode cX3_mateOf 16 = .ok (.goto 5, 3) := by decide +kernel
theorem dX3_mateOf_19 : decode cX3_mateOf 19 = .ok (.bipush (-4), 2) := by decide +kernel
theorem dX3_mateOf_21 : decode cX3_mateOf 21 = .ok (.ireturn, 1) := by decide +kernel
def X3_mateOf (S0 : Rec) (x1 : Int32) : Option (Int32) :=
  if x1 < 0 then
    some (-4 : Int32)
  else
    if (6 : Int32) ≤ x1 then
      some (-4 : Int32)
    else
      (rdI (S0.2.1 2) 6 x1).bind fun v3 =>
      some v3
set_option maxRecDepth 100000 in
set_option maxHeartbeats 4000000 in
theorem X3_mateOf_ok (l : Launch) {h : aH} {nx : Nat} {a0 : Nat} {S0 : Rec} {x1 : Int32} (hB0 : X3_at h a0 S0) {r : Int32} (hF : X3_mateOf S0 x1 = some r) : aOk l 0 0 0 yX3_mateOf cX3_mateOf 2 (some .int) [.ref a0, .int x1] h nx (aRd (.int r) h nx) := by
  refine aOk.of (by decide +kernel) (Nat.le_of_ble_eq_true rfl) (fun X G hX C R0 _ => ?_)
  subst hX
  show aV X G 2 0 [(0, .ref a0), (1, .int x1)] [] h nx 0 0
  rw [X3_mateOf] at hF
  refine ab_iload_n C 1 rfl rfl dX3_mateOf_0 ?_
  refine ab_if_lt C 19 dX3_mateOf_1 (by decide) (fun c1 => ?_) (fun c1 => ?_)
  · replace hF := (if_pos c1).symm.trans hF
    refine ab_bipush (v := (-4 : Int32)) C dX3_mateOf_19 (by decide) ?_
    obtain rfl := Option.some.inj hF
    exact ab_iret C R0 rfl dX3_mateOf_21 ⟨rfl, rfl, rfl⟩
  · replace hF := (if_neg c1).symm.trans hF
    refine ab_iload_n C 1 rfl rfl dX3_mateOf_4 ?_
    refine ab_bipush (v := (6 : Int32)) C dX3_mateOf_5 (by decide) ?_
    refine ab_icmp_ge C 19 dX3_mateOf_7 (by decide) (fun c2 => ?_) (fun c2 => ?_)
    · replace hF := (if_pos c2).symm.trans hF
      refine ab_bipush (v := (-4 : Int32)) C dX3_mateOf_19 (by decide) ?_
      obtain rfl := Option.some.inj hF
      exact ab_iret C R0 rfl dX3_mateOf_21 ⟨rfl, rfl, rfl⟩
    · replace hF := (if_neg c2).symm.trans hF
      refine ab_aload_n C 0 rfl rfl dX3_mateOf_10 ?_
      refine ab_g3 (v := .ref (a0 + 3)) C lf_X3_18 hB0.1 rfl dX3_mateOf_11 ?_
      refine ab_iload_n C 1 rfl rfl dX3_mateOf_14 ?_
      obtain ⟨v3, hxv3, hF⟩ := Option.bind_eq_some_iff.mp hF
      refine ab_iald C (X3_r2 hB0) hxv3 dX3_mateOf_15 ?_
      refine ab_goto C 21 dX3_mateOf_16 (by decide) ?_
      obtain rfl := Option.some.inj hF
      exact ab_iret C R0 rfl dX3_mateOf_21 ⟨rfl, rfl, rfl⟩
theorem dX8_leastCell_0 : decode cX8_leastCell 0 = .ok (.lload_n 0, 1) := by decide +kernel
theorem dX8_leastCell_1 : decode cX8_leastCell 1 = .ok (.lload_n 0, 1) := by decide +kernel
theorem dX8_leastCell_2 : decode cX8_leastCell 2 = .ok (.lneg, 1) := by decide +kernel
theorem dX8_leastCell_3 : decode cX8_leastCell 3 = .ok (.land, 1) := by decide +kernel
theorem dX8_leastCell_4 : decode cX8_leastCell 4 = .ok (.lconst 1, 1) := by decide +kernel
theorem dX8_leastCell_5 : decode cX8_leastCell 5 = .ok (.lsub, 1) := by decide +kernel
theorem dX8_leastCell_6 : decode cX8_leastCell 6 = .ok (.invokestatic 118, 3) := by decide +kernel
theorem dX8_leastCell_9 : decode cX8_leastCell 9 = .ok (.ireturn, 1) := by decide +kernel
def X8_leastCell (y0 : Int64) : Int32 :=
  (J13_bitCount_95d88 ((y0 &&& (-y0)) - (1 : Int64)))
set_option maxRecDepth 100000 in
set_option maxHeartbeats 4000000 in
theorem X8_leastCell_ok (l : Launch) {h : aH} {nx : Nat} {y0 : Int64} {r : Int32} (hF : X8_leastCell y0 = r) : aOk l 1 0 0 yX8_leastCell cX8_leastCell 2 (some .int) [.long y0] h nx (aRd (.int r) h nx) := by
  refine aOk.of (by decide +kernel) (Nat.le_of_ble_eq_true rfl) (fun X G hX C R0 _ => ?_)
  subst hX
  show aV X G 2 0 [(0, .long y0)] [] h nx 0 0
  rw [X8_leastCell] at hF
  refine ab_lload_n C 0 rfl rfl dX8_leastCell_0 ?_
  refine ab_lload_n C 0 rfl rfl dX8_leastCell_1 ?_
  refine ab_lneg C dX8_leastCell_2 ?_
  refine ab_land C dX8_leastCell_3 ?_
  refine ab_lconst (v := (1 : Int64)) C dX8_leastCell_4 (by decide) ?_
  refine ab_lsub C dX8_leastCell_5 ?_
  refine ab_cSR (v := .int (J13_bitCount_95d88 ((y0 &&& (-y0)) - (1 : Int64)))) (st := []) C lm_X8_118 (J13_bitCount_95d88_ok (xl X) (r := (J13_bitCount_95d88 ((y0 &&& (-y0)) - (1 : Int64)))) rfl) rfl rfl (by decide) ⟨Nat.zero_le _, Nat.zero_le _⟩ (Nat.le_of_ble_eq_true rfl) dX8_leastCell_6 ?_
  obtain rfl := hF
  exact ab_iret C R0 rfl dX8_leastCell_9 ⟨rfl, rfl, rfl⟩
theorem dX3_mostIn_0 : decode cX3_mostIn 0 = .ok (.iload_n 1, 1) := by decide +kernel
theorem dX3_mostIn_1 : decode cX3_mostIn 1 = .ok (.ifCond .lt 18, 3) := by decide +kernel
theorem dX3_mostIn_4 : decode cX3_mostIn 4 = .ok (.iload_n 1, 1) := by decide +kernel
theorem dX3_mostIn_5 : decode cX3_mostIn 5 = .ok (.bipush 64, 2) := by decide +kernel
theorem dX3_mostIn_7 : decode cX3_mostIn 7 = .ok (.if_icmp .ge 12, 3) := by decide +kernel
theorem dX3_mostIn_10 : decode cX3_mostIn 10 = .ok (.aload_n 0, 1) := by decide +kernel
theorem dX3_mostIn_11 : decode cX3_mostIn 11 = .ok (.getfield 11, 3) := by decide +kernel
theorem dX3_mostIn_14 : decode cX3_mostIn 14 = .ok (.iload_n 1, 1) := by decide +kernel
theorem dX3_mostIn_15 : decode cX3_mostIn 15 = .ok (.iaload, 1) := by decide +kernel
theorem dX3_mostIn_16 : decode cX3_mostIn 16 = .ok (.goto 4, 3) := by decide +kernel
theorem dX3_mostIn_19 : decode cX3_mostIn 19 = .ok (.iconst 0, 1) := by decide +kernel
theorem dX3_mostIn_20 : decode cX3_mostIn 20 = .ok (.ireturn, 1) := by decide +kernel
def X3_mostIn (S0 : Rec) (x1 : Int32) : Option (Int32) :=
  if x1 < 0 then
    some (0 : Int32)
  else
    if (64 : Int32) ≤ x1 then
      some (0 : Int32)
    else
      (rdI (S0.2.1 0) 64 x1).bind fun v3 =>
      some v3
set_option maxRecDepth 100000 in
set_option maxHeartbeats 4000000 in
theorem X3_mostIn_ok (l : Launch) {h : aH} {nx : Nat} {a0 : Nat} {S0 : Rec} {x1 : Int32} (hB0 : X3_at h a0 S0) {r : Int32} (hF : X3_mostIn S0 x1 = some r) : aOk l 0 0 0 yX3_mostIn cX3_mostIn 2 (some .int) [.ref a0, .int x1] h nx (aRd (.int r) h nx) := by
  refine aOk.of (by decide +kernel) (Nat.le_of_ble_eq_true rfl) (fun X G hX C R0 _ => ?_)
  subst hX
  show aV X G 2 0 [(0, .ref a0), (1, .int x1)] [] h nx 0 0
  rw [X3_mostIn] at hF
  refine ab_iload_n C 1 rfl rfl dX3_mostIn_0 ?_
  refine ab_if_lt C 19 dX3_mostIn_1 (by decide) (fun c1 => ?_) (fun c1 => ?_)
  · replace hF := (if_pos c1).symm.trans hF
    refine ab_iconst (v := (0 : Int32)) C dX3_mostIn_19 (by decide) ?_
    obtain rfl := Option.some.inj hF
    exact ab_iret C R0 rfl dX3_mostIn_20 ⟨rfl, rfl, rfl⟩
  · replace hF := (if_neg c1).symm.trans hF
    refine ab_iload_n C 1 rfl rfl dX3_mostIn_4 ?_
    refine ab_bipush (v := (64 : Int32)) C dX3_mostIn_5 (by decide) ?_
    refine ab_icmp_ge C 19 dX3_mostIn_7 (by decide) (fun c2 => ?_) (fun c2 => ?_)
    · replace hF := (if_pos c2).symm.trans hF
      refine ab_iconst (v := (0 : Int32)) C dX3_mostIn_19 (by decide) ?_
      obtain rfl := Option.some.inj hF
      exact ab_iret C R0 rfl dX3_mostIn_20 ⟨rfl, rfl, rfl⟩
    · replace hF := (if_neg c2).symm.trans hF
      refine ab_aload_n C 0 rfl rfl dX3_mostIn_10 ?_
      refine ab_g3 (v := .ref (a0 + 1)) C lf_X3_11 hB0.1 rfl dX3_mostIn_11 ?_
      refine ab_iload_n C 1 rfl rfl dX3_mostIn_14 ?_
      obtain ⟨v3, hxv3, hF⟩ := Option.bind_eq_some_iff.mp hF
      refine ab_iald C (X3_r0 hB0) hxv3 dX3_mostIn_15 ?_
      refine ab_goto C 20 dX3_mostIn_16 (by decide) ?_
      obtain rfl := Option.some.inj hF
      exact ab_iret C R0 rfl dX3_mostIn_20 ⟨rfl, rfl, rfl⟩
theorem dX8_hasBit_0 : decode cX8_hasBit 0 = .ok (.iload_n 0, 1) := by decide +kernel
theorem dX8_hasBit_1 : decode cX8_hasBit 1 = .ok (.iload_n 1, 1) := by decide +kernel
theorem dX8_hasBit_2 : decode cX8_hasBit 2 = .ok (.iushr, 1) := by decide +kernel
theorem dX8_hasBit_3 : decode cX8_hasBit 3 = .ok (.iconst 1, 1) := by decide +kernel
theorem dX8_hasBit_4 : decode cX8_hasBit 4 = .ok (.iand, 1) := by decide +kernel
theorem dX8_hasBit_5 : decode cX8_hasBit 5 = .ok (.ifCond .eq 7, 3) := by decide +kernel
theorem dX8_hasBit_8 : decode cX8_hasBit 8 = .ok (.iconst 1, 1) := by decide +kernel
theorem dX8_hasBit_9 : decode cX8_hasBit 9 = .ok (.goto 4, 3) := by decide +kernel
theorem dX8_hasBit_12 : decode cX8_hasBit 12 = .ok (.iconst 0, 1) := by decide +kernel
theorem dX8_hasBit_13 : decode cX8_hasBit 13 = .ok (.ireturn, 1) := by decide +kernel
def X8_hasBit (x0 : Int32) (x1 : Int32) : Int32 :=
  if (((x0.toUInt32 >>> (x1.toUInt32 &&& Int32.toUInt32 31)).toInt32) &&& (1 : Int32)) = 0 then
    (0 : Int32)
  else
    (1 : Int32)
set_option maxRecDepth 100000 in
set_option maxHeartbeats 4000000 in
theorem X8_hasBit_ok (l : Launch) {h : aH} {nx : Nat} {x0 : Int32} {x1 : Int32} {r : Int32} (hF : X8_hasBit x0 x1 = r) : aOk l 0 0 0 yX8_hasBit cX8_hasBit 2 (some .boolean) [.int x0, .int x1] h nx (aRd (.int r) h nx) := by
  refine aOk.of (by decide +kernel) (Nat.le_of_ble_eq_true rfl) (fun X G hX C R0 _ => ?_)
  subst hX
  show aV X G 2 0 [(0, .int x0), (1, .int x1)] [] h nx 0 0
  rw [X8_hasBit] at hF
  refine ab_iload_n C 0 rfl rfl dX8_hasBit_0 ?_
  refine ab_iload_n C 1 rfl rfl dX8_hasBit_1 ?_
  refine ab_iushr C dX8_hasBit_2 ?_
  refine ab_iconst (v := (1 : Int32)) C dX8_hasBit_3 (by decide) ?_
  refine ab_iand C dX8_hasBit_4 ?_
  refine ab_if_eq C 12 dX8_hasBit_5 (by decide) (fun c1 => ?_) (fun c1 => ?_)
  · replace hF := (if_pos c1).symm.trans hF
    refine ab_iconst (v := (0 : Int32)) C dX8_hasBit_12 (by decide) ?_
    obtain rfl := hF
    exact ab_iret C R0 rfl dX8_hasBit_13 ⟨rfl, rfl, rfl⟩
  · replace hF := (if_neg c1).symm.trans hF
    refine ab_iconst (v := (1 : Int32)) C dX8_hasBit_8 (by decide) ?_
    refine ab_goto C 13 dX8_hasBit_9 (by decide) ?_
    obtain rfl := hF
    exact ab_iret C R0 rfl dX8_hasBit_13 ⟨rfl, rfl, rfl⟩
theorem X8_hasBit_n {x0 : Int32} {x1 : Int32} : narrow .boolean (.int (X8_hasBit x0 x1)) = .int (X8_hasBit x0 x1) := by
  unfold X8_hasBit
  repeat' split
  all_goals first | rfl | exact X9_in_n
theorem dX3_mayPair_0 : decode cX3_mayPair 0 = .ok (.iload_n 1, 1) := by decide +kernel
theorem dX3_mayPair_1 : decode cX3_mayPair 1 = .ok (.bipush 6, 2) := by decide +kernel
theorem dX3_mayPair_3 : decode cX3_mayPair 3 = .ok (.if_icmp .ge 28, 3) := by decide +kernel
theorem dX3_mayPair_6 : decode cX3_mayPair 6 = .ok (.iload_n 3, 1) := by decide +kernel
theorem dX3_mayPair_7 : decode cX3_mayPair 7 = .ok (.iload_n 2, 1) := by decide +kernel
theorem dX3_mayPair_8 : decode cX3_mayPair 8 = .ok (.invokestatic 58, 3) := by decide +kernel
theorem dX3_mayPair_11 : decode cX3_mayPair 11 = .ok (.ifCond .eq 20, 3) := by decide +kernel
theorem dX3_mayPair_14 : decode cX3_mayPair 14 = .ok (.aload_n 0, 1) := by decide +kernel
theorem dX3_mayPair_15 : decode cX3_mayPair 15 = .ok (.getfield 15, 3) := by decide +kernel
theorem dX3_mayPair_18 : decode cX3_mayPair 18 = .ok (.iload_n 1, 1) := by decide +kernel
theorem dX3_mayPair_19 : decode cX3_mayPair 19 = .ok (.iaload, 1) := by decide +kernel
theorem dX3_mayPair_20 : decode cX3_mayPair 20 = .ok (.iload_n 2, 1) := by decide +kernel
theorem dX3_mayPair_21 : decode cX3_mayPair 21 = .ok (.invokestatic 58, 3) := by decide +kernel
theorem dX3_mayPair_24 : decode cX3_mayPair 24 = .ok (.ifCond .eq 7, 3) := by decide +kernel
theorem dX3_mayPair_27 : decode cX3_mayPair 27 = .ok (.iconst 1, 1) := by decide +kernel
theorem dX3_mayPair_28 : decode cX3_mayPair 28 = .ok (.goto 4, 3) := by decide +kernel
theorem dX3_mayPair_31 : decode cX3_mayPair 31 = .ok (.iconst 0, 1) := by decide +kernel
theorem dX3_mayPair_32 : decode cX3_mayPair 32 = .ok (.ireturn, 1) := by decide +kernel
def X3_mayPair (S0 : Rec) (x1 : Int32) (x2 : Int32) (x3 : Int32) : Option (Int32) :=
  if (6 : Int32) ≤ x1 then
    some (0 : Int32)
  else
    if (X8_hasBit x3 x2) = 0 then
      some (0 : Int32)
    else
      (rdI (S0.2.1 1) 6 x1).bind fun v3 =>
      if (X8_hasBit v3 x2) = 0 then
        some (0 : Int32)
      else
        some (1 : Int32)
set_option maxRecDepth 100000 in
set_option maxHeartbeats 4000000 in
theorem X3_mayPair_ok (l : Launch) {h : aH} {nx : Nat} {a0 : Nat} {S0 : Rec} {x1 : Int32} {x2 : Int32} {x3 : Int32} (hB0 : X3_at h a0 S0) {r : Int32} (hF : X3_mayPair S0 x1 x2 x3 = some r) : aOk l 1 0 0 yX3_mayPair cX3_mayPair 4 (some .boolean) [.ref a0, .int x1, .int x2, .int x3] h nx (aRd (.int r) h nx) := by
  refine aOk.of (by decide +kernel) (Nat.le_of_ble_eq_true rfl) (fun X G hX C R0 _ => ?_)
  subst hX
  show aV X G 4 0 [(0, .ref a0), (1, .int x1), (2, .int x2), (3, .int x3)] [] h nx 0 0
  rw [X3_mayPair] at hF
  refine ab_iload_n C 1 rfl rfl dX3_mayPair_0 ?_
  refine ab_bipush (v := (6 : Int32)) C dX3_mayPair_1 (by decide) ?_
  refine ab_icmp_ge C 31 dX3_mayPair_3 (by decide) (fun c1 => ?_) (fun c1 => ?_)
  · replace hF := (if_pos c1).symm.trans hF
    refine ab_iconst (v := (0 : Int32)) C dX3_mayPair_31 (by decide) ?_
    obtain rfl := Option.some.inj hF
    exact ab_iret C R0 rfl dX3_mayPair_32 ⟨rfl, rfl, rfl⟩
  · replace hF := (if_neg c1).symm.trans hF
    refine ab_iload_n C 3 rfl rfl dX3_mayPair_6 ?_
    refine ab_iload_n C 2 rfl rfl dX3_mayPair_7 ?_
    refine ab_cSR (v := .int (X8_hasBit x3 x2)) (st := []) C lm_X3_58 (X8_hasBit_ok (xl X) (r := (X8_hasBit x3 x2)) rfl) rfl rfl (by decide) ⟨Nat.zero_le _, Nat.zero_le _⟩ (Nat.le_of_ble_eq_true rfl) dX3_mayPair_8 ?_
    refine ab_if_eq C 31 dX3_mayPair_11 (by decide) (fun c2 => ?_) (fun c2 => ?_)
    · replace hF := (if_pos c2).symm.trans hF
      refine ab_iconst (v := (0 : Int32)) C dX3_mayPair_31 (by decide) ?_
      obtain rfl := Option.some.inj hF
      exact ab_iret C R0 rfl dX3_mayPair_32 ⟨rfl, rfl, rfl⟩
    · replace hF := (if_neg c2).symm.trans hF
      refine ab_aload_n C 0 rfl rfl dX3_mayPair_14 ?_
      refine ab_g3 (v := .ref (a0 + 2)) C lf_X3_15 hB0.1 rfl dX3_mayPair_15 ?_
      refine ab_iload_n C 1 rfl rfl dX3_mayPair_18 ?_
      obtain ⟨v3, hxv3, hF⟩ := Option.bind_eq_some_iff.mp hF
      refine ab_iald C (X3_r1 hB0) hxv3 dX3_mayPair_19 ?_
      refine ab_iload_n C 2 rfl rfl dX3_mayPair_20 ?_
      refine ab_cSR (v := .int (X8_hasBit v3 x2)) (st := []) C lm_X3_58 (X8_hasBit_ok (xl X) (r := (X8_hasBit v3 x2)) rfl) rfl rfl (by decide) ⟨Nat.zero_le _, Nat.zero_le _⟩ (Nat.le_of_ble_eq_true rfl) dX3_mayPair_21 ?_
      refine ab_if_eq C 31 dX3_mayPair_24 (by decide) (fun c4 => ?_) (fun c4 => ?_)
      · replace hF := (if_pos c4).symm.trans hF
        refine ab_iconst (v := (0 : Int32)) C dX3_mayPair_31 (by decide) ?_
        obtain rfl := Option.some.inj hF
        exact ab_iret C R0 rfl dX3_mayPair_32 ⟨rfl, rfl, rfl⟩
      · replace hF := (if_neg c4).symm.trans hF
        refine ab_iconst (v := (1 : Int32)) C dX3_mayPair_27 (by decide) ?_
        refine ab_goto C 32 dX3_mayPair_28 (by decide) ?_
        obtain rfl := Option.some.inj hF
        exact ab_iret C R0 rfl dX3_mayPair_32 ⟨rfl, rfl, rfl⟩
theorem dX3_mostOf_0 : decode cX3_mostOf 0 = .ok (.iload_n 1, 1) := by decide +kernel
theorem dX3_mostOf_1 : decode cX3_mostOf 1 = .ok (.i2l, 1) := by decide +kernel
theorem dX3_mostOf_2 : decode cX3_mostOf 2 = .ok (.invokestatic 42, 3) := by decide +kernel
theorem dX3_mostOf_5 : decode cX3_mostOf 5 = .ok (.istore_n 2, 1) := by decide +kernel
theorem dX3_mostOf_6 : decode cX3_mostOf 6 = .ok (.iload_n 1, 1) := by decide +kernel
theorem dX3_mostOf_7 : decode cX3_mostOf 7 = .ok (.iload_n 1, 1) := by decide +kernel
theorem dX3_mostOf_8 : decode cX3_mostOf 8 = .ok (.iconst 1, 1) := by decide +kernel
theorem dX3_mostOf_9 : decode cX3_mostOf 9 = .ok (.isub, 1) := by decide +kernel
theorem dX3_mostOf_10 : decode cX3_mostOf 10 = .ok (.iand, 1) := by decide +kernel
theorem dX3_mostOf_11 : decode cX3_mostOf 11 = .ok (.istore_n 3, 1) := by decide +kernel
theorem dX3_mostOf_12 : decode cX3_mostOf 12 = .ok (.aload_n 0, 1) := by decide +kernel
theorem dX3_mostOf_13 : decode cX3_mostOf 13 = .ok (.iload_n 3, 1) := by decide +kernel
theorem dX3_mostOf_14 : decode cX3_mostOf 14 = .ok (.invokevirtual 46, 3) := by decide +kernel
theorem dX3_mostOf_17 : decode cX3_mostOf 17 = .ok (.istore 4, 2) := by decide +kernel
theorem dX3_mostOf_19 : decode cX3_mostOf 19 = .ok (.iload_n 2, 1) := by decide +kernel
theorem dX3_mostOf_20 : decode cX3_mostOf 20 = .ok (.iconst 1, 1) := by decide +kernel
theorem dX3_mostOf_21 : decode cX3_mostOf 21 = .ok (.iadd, 1) := by decide +kernel
theorem dX3_mostOf_22 : decode cX3_mostOf 22 = .ok (.istore 5, 2) := by decide +kernel
theorem dX3_mostOf_24 : decode cX3_mostOf 24 = .ok (.iload 5, 2) := by decide +kernel
theorem dX3_mostOf_26 : decode cX3_mostOf 26 = .ok (.bipush 6, 2) := by decide +kernel
theorem dX3_mostOf_28 : decode cX3_mostOf 28 = .ok (.if_icmp .ge 41, 3) := by decide +kernel
theorem dX3_mostOf_31 : decode cX3_mostOf 31 = .ok (.aload_n 0, 1) := by decide +kernel
theorem dX3_mostOf_32 : decode cX3_mostOf 32 = .ok (.iload_n 2, 1) := by decide +kernel
theorem dX3_mostOf_33 : decode cX3_mostOf 33 = .ok (.iload 5, 2) := by decide +kernel
theorem dX3_mostOf_35 : decode cX3_mostOf 35 = .ok (.iload_n 3, 1) := by decide +kernel
theorem dX3_mostOf_36 : decode cX3_mostOf 36 = .ok (.invokevirtual 49, 3) := by decide +kernel
theorem dX3_mostOf_39 : decode cX3_mostOf 39 = .ok (.ifCond .eq 24, 3) := by decide +kernel
theorem dX3_mostOf_42 : decode cX3_mostOf 42 = .ok (.iload 4, 2) := by decide +kernel
theorem dX3_mostOf_44 : decode cX3_mostOf 44 = .ok (.iconst 1, 1) := by decide +kernel
theorem dX3_mostOf_45 : decode cX3_mostOf 45 = .ok (.aload_n 0, 1) := by decide +kernel
theorem dX3_mostOf_46 : decode cX3_mostOf 46 = .ok (.iload_n 3, 1) := by decide +kernel
theorem dX3_mostOf_47 : decode cX3_mostOf 47 = .ok (.iconst 1, 1) := by decide +kernel
theorem dX3_mostOf_48 : decode cX3_mostOf 48 = .ok (.iload 5, 2) := by decide +kernel
theorem dX3_mostOf_50 : decode cX3_mostOf 50 = .ok (.ishl, 1) := by decide +kernel
theorem dX3_mostOf_51 : decode cX3_mostOf 51 = .ok (.iconst (-1), 1) := by decide +kernel
theorem dX3_mostOf_52 : decode cX3_mostOf 52 = .ok (.ixor, 1) := by decide +kernel
theorem dX3_mostOf_53 : decode cX3_mostOf 53 = .ok (.iand, 1) := by decide +kernel
theorem dX3_mostOf_54 : decode cX3_mostOf 54 = .ok (.invokevirtual 46, 3) := by decide +kernel
theorem dX3_mostOf_57 : decode cX3_mostOf 57 = .ok (.iadd, 1) := by decide +kernel
theorem dX3_mostOf_58 : decode cX3_mostOf 58 = .ok (.invokestatic 53, 3) := by decide +kernel
theorem dX3_mostOf_61 : decode cX3_mostOf 61 = .ok (.istore 4, 2) := by decide +kernel
theorem dX3_mostOf_63 : decode cX3_mostOf 63 = .ok (.iinc 5 1, 3) := by decide +kernel
theorem dX3_mostOf_66 : decode cX3_mostOf 66 = .ok (.goto (-42), 3) := by decide +kernel
theorem dX3_mostOf_69 : decode cX3_mostOf 69 = .ok (.iload 4, 2) := by decide +kernel
theorem dX3_mostOf_71 : decode cX3_mostOf 71 = .ok (.ireturn, 1) := by decide +kernel
def X3_mostOf_L24 (S0 : Rec) (v1 : Int32) (v2 : Int32) : Nat → Int32 → Int32 → Option (Int32)
  | 0, _, _ => none
  | n24 + 1, v5, v6 => if (6 : Int32) ≤ v6 then
      some v5
    else
      (X3_mayPair S0 v1 v6 v2).bind fun v8 =>
      if v8 = 0 then
        aLet (v6 + (1 : Int32)) fun v10 =>
        X3_mostOf_L24 S0 v1 v2 n24 v5 v10
      else
        (X3_mostIn S0 (v2 &&& (((1 : Int32) <<< (v6 &&& 31)) ^^^ (-1 : Int32)))).bind fun v11 =>
        aLet (a_max v5 ((1 : Int32) + v11)) fun v12 =>
        aLet (v6 + (1 : Int32)) fun v13 =>
        X3_mostOf_L24 S0 v1 v2 n24 v12 v13
def X3_mostOf (S0 : Rec) (x1 : Int32) : Option (Int32) :=
  aLet (X8_leastCell (x1.toInt64)) fun v1 =>
  aLet (x1 &&& (x1 - (1 : Int32))) fun v2 =>
  (X3_mostIn S0 v2).bind fun v3 =>
  aLet (v1 + (1 : Int32)) fun v4 =>
  (X3_mostOf_L24 S0 v1 v2 aFu v3 v4).bind fun e14 =>
  some e14
set_option maxRecDepth 100000 in
set_option maxHeartbeats 4000000 in
theorem X3_mostOf_ok (l : Launch) {h : aH} {nx : Nat} {a0 : Nat} {S0 : Rec} {x1 : Int32} (hB0 : X3_at h a0 S0) {r : Int32} (hF : X3_mostOf S0 x1 = some r) : aOk l 2 0 0 yX3_mostOf cX3_mostOf 6 (some .int) [.ref a0, .int x1] h nx (aRd (.int r) h nx) := by
  refine aOk.of (by decide +kernel) (Nat.le_of_ble_eq_true rfl) (fun X G hX C R0 _ => ?_)
  subst hX
  show aV X G 6 0 [(0, .ref a0), (1, .int x1)] [] h nx 0 0
  rw [X3_mostOf] at hF
  refine ab_iload_n C 1 rfl rfl dX3_mostOf_0 ?_
  refine ab_i2l C dX3_mostOf_1 ?_
  refine ab_cSR (v := .int (X8_leastCell (x1.toInt64))) (st := []) C lm_X3_42 (X8_leastCell_ok (xl X) (r := (X8_leastCell (x1.toInt64))) rfl) rfl rfl (by decide) ⟨Nat.zero_le _, Nat.zero_le _⟩ (Nat.le_of_ble_eq_true rfl) dX3_mostOf_2 ?_
  refine ab_topi (fun v1 qv1 => ?_)
  replace hF := aLet_e hF v1 qv1
  refine ab_istore_n (lv' := [(2, .int v1), (0, .ref a0), (1, .int x1)]) C dX3_mostOf_5 rfl (by decide) rfl ?_
  refine ab_iload_n C 2 rfl rfl dX3_mostOf_6 ?_
  refine ab_iload_n C 2 rfl rfl dX3_mostOf_7 ?_
  refine ab_iconst (v := (1 : Int32)) C dX3_mostOf_8 (by decide) ?_
  refine ab_isub C dX3_mostOf_9 ?_
  refine ab_iand C dX3_mostOf_10 ?_
  refine ab_topi (fun v2 qv2 => ?_)
  replace hF := aLet_e hF v2 qv2
  refine ab_istore_n (lv' := [(3, .int v2), (2, .int v1), (0, .ref a0), (1, .int x1)]) C dX3_mostOf_11 rfl (by decide) rfl ?_
  refine ab_aload_n C 2 rfl rfl dX3_mostOf_12 ?_
  refine ab_iload_n C 0 rfl rfl dX3_mostOf_13 ?_
  obtain ⟨v3, hxv3, hF⟩ := Option.bind_eq_some_iff.mp hF
  refine ab_cVR (v := .int v3) (st := []) C lm_X3_46 (X3_mostIn_ok (xl X) hB0 (r := v3) hxv3) [.int v2] rfl hB0.1 rfl rfl rfl (by decide) ⟨Nat.zero_le _, Nat.zero_le _⟩ (Nat.le_of_ble_eq_true rfl) dX3_mostOf_14 ?_
  refine ab_istore (lv' := [(4, .int v3), (3, .int v2), (2, .int v1), (0, .ref a0), (1, .int x1)]) C dX3_mostOf_17 (by decide) rfl ?_
  refine ab_iload_n C 2 rfl rfl dX3_mostOf_19 ?_
  refine ab_iconst (v := (1 : Int32)) C dX3_mostOf_20 (by decide) ?_
  refine ab_iadd C dX3_mostOf_21 ?_
  refine ab_topi (fun v4 qv4 => ?_)
  replace hF := aLet_e hF v4 qv4
  refine ab_istore (lv' := [(5, .int v4), (4, .int v3), (3, .int v2), (2, .int v1), (0, .ref a0), (1, .int x1)]) C dX3_mostOf_22 (by decide) rfl ?_
  have L24 : ∀ (n24 : Nat) (v5 : Int32) (v6 : Int32), ∀ (res24 : Int32), X3_mostOf_L24 S0 v1 v2 n24 v5 v6 = some res24 → (aV X G 6 69 [(4, .int res24)] [] h nx 0 0) → aV X G 6 24 [(0, .ref a0), (2, .int v1), (3, .int v2), (4, .int v5), (5, .int v6)] [] h nx 0 0 := by
    intro n24
    induction n24 with
    | zero => intro v5 v6 res24 hF KX24; cases (show (none : Option (Int32)) = some res24 from hF)
    | succ n24 ih24 =>
      intro v5 v6 res24 hF KX24
      rw [X3_mostOf_L24] at hF
      refine ab_iload C 4 rfl dX3_mostOf_24 ?_
      refine ab_bipush (v := (6 : Int32)) C dX3_mostOf_26 (by decide) ?_
      refine ab_icmp_ge C 69 dX3_mostOf_28 (by decide) (fun c7 => ?_) (fun c7 => ?_)
      · replace hF := (if_pos c7).symm.trans hF
        obtain rfl := Option.some.inj hF
        refine aV.sub (lv' := [(4, .int v5)]) [3] rfl ?_
        exact KX24
      · replace hF := (if_neg c7).symm.trans hF
        refine ab_aload_n C 0 rfl rfl dX3_mostOf_31 ?_
        refine ab_iload_n C 1 rfl rfl dX3_mostOf_32 ?_
        refine ab_iload C 4 rfl dX3_mostOf_33 ?_
        refine ab_iload_n C 2 rfl rfl dX3_mostOf_35 ?_
        obtain ⟨v8, hxv8, hF⟩ := Option.bind_eq_some_iff.mp hF
        refine ab_cVR (v := .int v8) (st := []) C lm_X3_49 (X3_mayPair_ok (xl X) hB0 (r := v8) hxv8) [.int v1, .int v6, .int v2] rfl hB0.1 rfl rfl rfl (by decide) ⟨Nat.zero_le _, Nat.zero_le _⟩ (Nat.le_of_ble_eq_true rfl) dX3_mostOf_36 ?_
        refine ab_if_eq C 63 dX3_mostOf_39 (by decide) (fun c9 => ?_) (fun c9 => ?_)
        · replace hF := (if_pos c9).symm.trans hF
          obtain ⟨v10, qv10⟩ : ∃ y : Int32, y = (v6 + (1 : Int32)) := ⟨_, rfl⟩
          replace hF := aLet_e hF v10 qv10
          refine ab_iinc (lv' := [(5, .int v10), (0, .ref a0), (2, .int v1), (3, .int v2), (4, .int v5)]) C 4 rfl dX3_mostOf_63 (by rw [qv10]; rfl) (by decide) rfl ?_
          refine ab_goto C 24 dX3_mostOf_66 (by decide) ?_
          refine aV.sub (lv' := [(0, .ref a0), (2, .int v1), (3, .int v2), (4, .int v5), (5, .int v10)]) [1, 2, 3, 4, 0] rfl ?_
          exact ih24 v5 v10 res24 hF KX24
        · replace hF := (if_neg c9).symm.trans hF
          refine ab_iload C 3 rfl dX3_mostOf_42 ?_
          refine ab_iconst (v := (1 : Int32)) C dX3_mostOf_44 (by decide) ?_
          refine ab_aload_n C 0 rfl rfl dX3_mostOf_45 ?_
          refine ab_iload_n C 2 rfl rfl dX3_mostOf_46 ?_
          refine ab_iconst (v := (1 : Int32)) C dX3_mostOf_47 (by decide) ?_
          refine ab_iload C 4 rfl dX3_mostOf_48 ?_
          refine ab_ishl C dX3_mostOf_50 ?_
          refine ab_iconst (v := (-1 : Int32)) C dX3_mostOf_51 (by decide) ?_
          refine ab_ixor C dX3_mostOf_52 ?_
          refine ab_iand C dX3_mostOf_53 ?_
          obtain ⟨v11, hxv11, hF⟩ := Option.bind_eq_some_iff.mp hF
          refine ab_cVR (v := .int v11) (st := [.int (1 : Int32), .int v5]) C lm_X3_46 (X3_mostIn_ok (xl X) hB0 (r := v11) hxv11) [.int (v2 &&& (((1 : Int32) <<< (v6 &&& 31)) ^^^ (-1 : Int32)))] rfl hB0.1 rfl rfl rfl (by decide) ⟨Nat.zero_le _, Nat.zero_le _⟩ (Nat.le_of_ble_eq_true rfl) dX3_mostOf_54 ?_
          refine ab_iadd C dX3_mostOf_57 ?_
          refine ab_mmax C (own := RX3) (a_mem 716 (by decide +kernel) (by decide +kernel)) (Nat.le_of_ble_eq_true rfl) ⟨Nat.zero_le _, Nat.zero_le _⟩ (Nat.le_of_ble_eq_true rfl) dX3_mostOf_58 ?_
          refine ab_topi (fun v12 qv12 => ?_)
          replace hF := aLet_e hF v12 qv12
          refine ab_istore (lv' := [(4, .int v12), (0, .ref a0), (2, .int v1), (3, .int v2), (5, .int v6)]) C dX3_mostOf_61 (by decide) rfl ?_
          obtain ⟨v13, qv13⟩ : ∃ y : Int32, y = (v6 + (1 : Int32)) := ⟨_, rfl⟩
          replace hF := aLet_e hF v13 qv13
          refine ab_iinc (lv' := [(5, .int v13), (4, .int v12), (0, .ref a0), (2, .int v1), (3, .int v2)]) C 4 rfl dX3_mostOf_63 (by rw [qv13]; rfl) (by decide) rfl ?_
          refine ab_goto C 24 dX3_mostOf_66 (by decide) ?_
          refine aV.sub (lv' := [(0, .ref a0), (2, .int v1), (3, .int v2), (4, .int v12), (5, .int v13)]) [2, 3, 4, 1, 0] rfl ?_
          exact ih24 v12 v13 res24 hF KX24
  refine aV.sub (lv' := [(0, .ref a0), (2, .int v1), (3, .int v2), (4, .int v3), (5, .int v4)]) [4, 3, 2, 1, 0] rfl ?_
  obtain ⟨e14, he14, hF⟩ := Option.bind_eq_some_iff.mp hF
  refine L24 aFu v3 v4 e14 he14 ?_
  refine ab_iload C 0 rfl dX3_mostOf_69 ?_
  obtain rfl := Option.some.inj hF
  exact ab_iret C R0 rfl dX3_mostOf_71 ⟨rfl, rfl, rfl⟩
theorem dX3_pairOff_0 : decode cX3_pairOff 0 = .ok (.bipush 63, 2) := by decide +kernel
theorem dX3_pairOff_2 : decode cX3_pairOff 2 = .ok (.istore_n 1, 1) := by decide +kernel
theorem dX3_pairOff_3 : decode cX3_pairOff 3 = .ok (.iconst 0, 1) := by decide +kernel
theorem dX3_pairOff_4 : decode cX3_pairOff 4 = .ok (.istore_n 2, 1) := by decide +kernel
theorem dX3_pairOff_5 : decode cX3_pairOff 5 = .ok (.iload_n 2, 1) := by decide +kernel
theorem dX3_pairOff_6 : decode cX3_pairOff 6 = .ok (.bipush 6, 2) := by decide +kernel
theorem dX3_pairOff_8 : decode cX3_pairOff 8 = .ok (.if_icmp .ge 107, 3) := by decide +kernel
theorem dX3_pairOff_11 : decode cX3_pairOff 11 = .ok (.iload_n 1, 1) := by decide +kernel
theorem dX3_pairOff_12 : decode cX3_pairOff 12 = .ok (.iload_n 2, 1) := by decide +kernel
theorem dX3_pairOff_13 : decode cX3_pairOff 13 = .ok (.invokestatic 58, 3) := by decide +kernel
theorem dX3_pairOff_16 : decode cX3_pairOff 16 = .ok (.ifCond .ne 6, 3) := by decide +kernel
theorem dX3_pairOff_19 : decode cX3_pairOff 19 = .ok (.goto 90, 3) := by decide +kernel
theorem dX3_pairOff_22 : decode cX3_pairOff 22 = .ok (.aload_n 0, 1) := by decide +kernel
theorem dX3_pairOff_23 : decode cX3_pairOff 23 = .ok (.iload_n 1, 1) := by decide +kernel
theorem dX3_pairOff_24 : decode cX3_pairOff 24 = .ok (.invokevirtual 46, 3) := by decide +kernel
theorem dX3_pairOff_27 : decode cX3_pairOff 27 = .ok (.istore_n 3, 1) := by decide +kernel
theorem dX3_pairOff_28 : decode cX3_pairOff 28 = .ok (.iload_n 1, 1) := by decide +kernel
theorem dX3_pairOff_29 : decode cX3_pairOff 29 = .ok (.iconst 1, 1) := by decide +kernel
theorem dX3_pairOff_30 : decode cX3_pairOff 30 = .ok (.iload_n 2, 1) := by decide +kernel
theorem dX3_pairOff_31 : decode cX3_pairOff 31 = .ok (.ishl, 1) := by decide +kernel
theorem dX3_pairOff_32 : decode cX3_pairOff 32 = .ok (.iconst (-1), 1) := by decide +kernel
theorem dX3_pairOff_33 : decode cX3_pairOff 33 = .ok (.ixor, 1) := by decide +kernel
theorem dX3_pairOff_34 : decode cX3_pairOff 34 = .ok (.iand, 1) := by decide +kernel
theorem dX3_pairOff_35 : decode cX3_pairOff 35 = .ok (.istore_n 1, 1) := by decide +kernel
theorem dX3_pairOff_36 : decode cX3_pairOff 36 = .ok (.iload_n 2, 1) := by decide +kernel
theorem dX3_pairOff_37 : decode cX3_pairOff 37 = .ok (.iconst 1, 1) := by decide +kernel
theorem dX3_pairOff_38 : decode cX3_pairOff 38 = .ok (.iadd, 1) := by decide +kernel
theorem dX3_pairOff_39 : decode cX3_pairOff 39 = .ok (.istore 4, 2) := by decide +kernel
theorem dX3_pairOff_41 : decode cX3_pairOff 41 = .ok (.iload 4, 2) := by decide +kernel
theorem dX3_pairOff_43 : decode cX3_pairOff 43 = .ok (.bipush 6, 2) := by decide +kernel
theorem dX3_pairOff_45 : decode cX3_pairOff 45 = .ok (.if_icmp .ge 64, 3) := by decide +kernel
theorem dX3_pairOff_48 : decode cX3_pairOff 48 = .ok (.iload_n 1, 1) := by decide +kernel
theorem dX3_pairOff_49 : decode cX3_pairOff 49 = .ok (.iconst 1, 1) := by decide +kernel
theorem dX3_pairOff_50 : decode cX3_pairOff 50 = .ok (.iload 4, 2) := by decide +kernel
theorem dX3_pairOff_52 : decode cX3_pairOff 52 = .ok (.ishl, 1) := by decide +kernel
theorem dX3_pairOff_53 : decode cX3_pairOff 53 = .ok (.iconst (-1), 1) := by decide +kernel
theorem dX3_pairOff_54 : decode cX3_pairOff 54 = .ok (.ixor, 1) := by decide +kernel
theorem dX3_pairOff_55 : decode cX3_pairOff 55 = .ok (.iand, 1) := by decide +kernel
theorem dX3_pairOff_56 : decode cX3_pairOff 56 = .ok (.istore 5, 2) := by decide +kernel
theorem dX3_pairOff_58 : decode cX3_pairOff 58 = .ok (.aload_n 0, 1) := by decide +kernel
theorem dX3_pairOff_59 : decode cX3_pairOff 59 = .ok (.iload_n 2, 1) := by decide +kernel
theorem dX3_pairOff_60 : decode cX3_pairOff 60 = .ok (.iload 4, 2) := by decide +kernel
theorem dX3_pairOff_62 : decode cX3_pairOff 62 = .ok (.iload_n 1, 1) := by decide +kernel
theorem dX3_pairOff_63 : decode cX3_pairOff 63 = .ok (.invokevirtual 49, 3) := by decide +kernel
theorem dX3_pairOff_66 : decode cX3_pairOff 66 = .ok (.ifCond .eq 37, 3) := by decide +kernel
theorem dX3_pairOff_69 : decode cX3_pairOff 69 = .ok (.iconst 1, 1) := by decide +kernel
theorem dX3_pairOff_70 : decode cX3_pairOff 70 = .ok (.aload_n 0, 1) := by decide +kernel
theorem dX3_pairOff_71 : decode cX3_pairOff 71 = .ok (.iload 5, 2) := by decide +kernel
theorem dX3_pairOff_73 : decode cX3_pairOff 73 = .ok (.invokevirtual 46, 3) := by decide +kernel
theorem dX3_pairOff_76 : decode cX3_pairOff 76 = .ok (.iadd, 1) := by decide +kernel
theorem dX3_pairOff_77 : decode cX3_pairOff 77 = .ok (.iload_n 3, 1) := by decide +kernel
theorem dX3_pairOff_78 : decode cX3_pairOff 78 = .ok (.if_icmp .ne 25, 3) := by decide +kernel
theorem dX3_pairOff_81 : decode cX3_pairOff 81 = .ok (.aload_n 0, 1) := by decide +kernel
theorem dX3_pairOff_82 : decode cX3_pairOff 82 = .ok (.getfield 18, 3) := by decide +kernel
theorem dX3_pairOff_85 : decode cX3_pairOff 85 = .ok (.iload_n 2, 1) := by decide +kernel
theorem dX3_pairOff_86 : decode cX3_pairOff 86 = .ok (.iload 4, 2) := by decide +kernel
theorem dX3_pairOff_88 : decode cX3_pairOff 88 = .ok (.iastore, 1) := by decide +kernel
theorem dX3_pairOff_89 : decode cX3_pairOff 89 = .ok (.aload_n 0, 1) := by decide +kernel
theorem dX3_pairOff_90 : decode cX3_pairOff 90 = .ok (.getfield 18, 3) := by decide +kernel
theorem dX3_pairOff_93 : decode cX3_pairOff 93 = .ok (.iload 4, 2) := by decide +kernel
theorem dX3_pairOff_95 : decode cX3_pairOff 95 = .ok (.iload_n 2, 1) := by decide +kernel
theorem dX3_pairOff_96 : decode cX3_pairOff 96 = .ok (.iastore, 1) := by decide +kernel
theorem dX3_pairOff_97 : decode cX3_pairOff 97 = .ok (.iload 5, 2) := by decide +kernel
theorem dX3_pairOff_99 : decode cX3_pairOff 99 = .ok (.istore_n 1, 1) := by decide +kernel
theorem dX3_pairOff_100 : decode cX3_pairOff 100 = .ok (.goto 9, 3) := by decide +kernel
theorem dX3_pairOff_103 : decode cX3_pairOff 103 = .ok (.iinc 4 1, 3) := by decide +kernel
theorem dX3_pairOff_106 : decode cX3_pairOff 106 = .ok (.goto (-65), 3) := by decide +kernel
theorem dX3_pairOff_109 : decode cX3_pairOff 109 = .ok (.iinc 2 1, 3) := by decide +kernel
theorem dX3_pairOff_112 : decode cX3_pairOff 112 = .ok (.goto (-107), 3) := by decide +kernel
theorem dX3_pairOff_115 : decode cX3_pairOff 115 = .ok (.return_, 1) := by decide +kernel
def X3_pairOff_L41 (v2 : Int32) (v7 : Int32) : Nat → Int32 → Int32 → Rec → Option (Int32 × Rec)
  | 0, _, _, _ => none
  | n41 + 1, v10, v11, Z12 => if (6 : Int32) ≤ v11 then
      some (v10, Z12)
    else
      aLet (v10 &&& (((1 : Int32) <<< (v11 &&& 31)) ^^^ (-1 : Int32))) fun v15 =>
      (X3_mayPair Z12 v2 v11 v10).bind fun v16 =>
      if v16 = 0 then
        aLet (v11 + (1 : Int32)) fun v18 =>
        X3_pairOff_L41 v2 v7 n41 v10 v18 Z12
      else
        (X3_mostIn Z12 v15).bind fun v19 =>
        if ((1 : Int32) + v19) = v7 then
          (wrI (Z12.2.1 2) 6 v2 v11).bind fun w22 =>
          (wrI ((sA Z12 2 w22).2.1 2) 6 v11 v2).bind fun w24 =>
          some (v15, (sA (sA Z12 2 w22) 2 w24))
        else
          aLet (v11 + (1 : Int32)) fun v21 =>
          X3_pairOff_L41 v2 v7 n41 v10 v21 Z12
def X3_pairOff_L5 : Nat → Int32 → Int32 → Rec → Option (Rec)
  | 0, _, _, _ => none
  | n5 + 1, v1, v2, Z3 => if (6 : Int32) ≤ v2 then
      some Z3
    else
      if (X8_hasBit v1 v2) = 0 then
        aLet (v2 + (1 : Int32)) fun v29 =>
        X3_pairOff_L5 n5 v1 v29 Z3
      else
        (X3_mostIn Z3 v1).bind fun v7 =>
        aLet (v1 &&& (((1 : Int32) <<< (v2 &&& 31)) ^^^ (-1 : Int32))) fun v8 =>
        aLet (v2 + (1 : Int32)) fun v9 =>
        (X3_pairOff_L41 v2 v7 aFu v8 v9 Z3).bind fun e26 =>
        aLet (v2 + (1 : Int32)) fun v28 =>
        X3_pairOff_L5 n5 e26.1 v28 e26.2
def X3_pairOff (S0 : Rec) : Option (Rec) :=
  (X3_pairOff_L5 aFu (63 : Int32) (0 : Int32) S0).bind fun e30 =>
  some e30
set_option maxRecDepth 100000 in
set_option maxHeartbeats 4000000 in
theorem X3_pairOff_ok (l : Launch) {h : aH} {nx : Nat} {a0 : Nat} {S0 : Rec} (hB0 : X3_at h a0 S0) {r : Rec} (hF : X3_pairOff S0 = some r) : aOk l 2 0 0 yX3_pairOff cX3_pairOff 6 none [.ref a0] h nx (aMt none nx (fun h1 => X3_at h1 a0 r ∧ (∀ q, (q < a0 ∨ a0 + 4 ≤ q) → h1 q = h q))) := by
  refine aOk.of (by decide +kernel) (Nat.le_of_ble_eq_true rfl) (fun X G hX C R0 _ => ?_)
  subst hX
  show aV X G 6 0 [(0, .ref a0)] [] h nx 0 0
  have hFr : ∀ q, (q < a0 ∨ a0 + 4 ≤ q) → h q = h q := fun _ _ => rfl
  rw [X3_pairOff] at hF
  refine ab_bipush (v := (63 : Int32)) C dX3_pairOff_0 (by decide) ?_
  refine ab_istore_n (lv' := [(1, .int (63 : Int32)), (0, .ref a0)]) C dX3_pairOff_2 rfl (by decide) rfl ?_
  refine ab_iconst (v := (0 : Int32)) C dX3_pairOff_3 (by decide) ?_
  refine ab_istore_n (lv' := [(2, .int (0 : Int32)), (1, .int (63 : Int32)), (0, .ref a0)]) C dX3_pairOff_4 rfl (by decide) rfl ?_
  have L5 : ∀ (n5 : Nat) (v1 : Int32) (v2 : Int32) (Z3 : Rec) (g4 : aH), (X3_at g4 a0 Z3) → (∀ q, (q < a0 ∨ a0 + 4 ≤ q) → g4 q = h q) → ∀ (res5 : Rec), X3_pairOff_L5 n5 v1 v2 Z3 = some res5 → (∀ (q9 : aH), (X3_at q9 a0 res5) → (∀ q, (q < a0 ∨ a0 + 4 ≤ q) → q9 q = h q) → aV X G 6 115 [] [] q9 nx 0 0) → aV X G 6 5 [(0, .ref a0), (1, .int v1), (2, .int v2)] [] g4 nx 0 0 := by
    intro n5
    induction n5 with
    | zero => intro v1 v2 Z3 g4 hB0 hFr res5 hF KX5; cases (show (none : Option (Rec)) = some res5 from hF)
    | succ n5 ih5 =>
      intro v1 v2 Z3 g4 hB0 hFr res5 hF KX5
      rw [X3_pairOff_L5] at hF
      refine ab_iload_n C 2 rfl rfl dX3_pairOff_5 ?_
      refine ab_bipush (v := (6 : Int32)) C dX3_pairOff_6 (by decide) ?_
      refine ab_icmp_ge C 115 dX3_pairOff_8 (by decide) (fun c5 => ?_) (fun c5 => ?_)
      · replace hF := (if_pos c5).symm.trans hF
        obtain rfl := Option.some.inj hF
        refine aV.sub (lv' := []) [] rfl ?_
        exact KX5 g4 hB0 hFr
      · replace hF := (if_neg c5).symm.trans hF
        refine ab_iload_n C 1 rfl rfl dX3_pairOff_11 ?_
        refine ab_iload_n C 2 rfl rfl dX3_pairOff_12 ?_
        refine ab_cSR (v := .int (X8_hasBit v1 v2)) (st := []) C lm_X3_58 (X8_hasBit_ok (xl X) (r := (X8_hasBit v1 v2)) rfl) rfl rfl (by decide) ⟨Nat.zero_le _, Nat.zero_le _⟩ (Nat.le_of_ble_eq_true rfl) dX3_pairOff_13 ?_
        refine ab_if_ne C 22 dX3_pairOff_16 (by decide) (fun c6 => ?_) (fun c6 => ?_)
        · replace hF := (if_neg c6).symm.trans hF
          refine ab_aload_n C 0 rfl rfl dX3_pairOff_22 ?_
          refine ab_iload_n C 1 rfl rfl dX3_pairOff_23 ?_
          obtain ⟨v7, hxv7, hF⟩ := Option.bind_eq_some_iff.mp hF
          refine ab_cVR (v := .int v7) (st := []) C lm_X3_46 (X3_mostIn_ok (xl X) hB0 (r := v7) hxv7) [.int v1] rfl hB0.1 rfl rfl rfl (by decide) ⟨Nat.zero_le _, Nat.zero_le _⟩ (Nat.le_of_ble_eq_true rfl) dX3_pairOff_24 ?_
          refine ab_istore_n (lv' := [(3, .int v7), (0, .ref a0), (1, .int v1), (2, .int v2)]) C dX3_pairOff_27 rfl (by decide) rfl ?_
          refine ab_iload_n C 2 rfl rfl dX3_pairOff_28 ?_
          refine ab_iconst (v := (1 : Int32)) C dX3_pairOff_29 (by decide) ?_
          refine ab_iload_n C 3 rfl rfl dX3_pairOff_30 ?_
          refine ab_ishl C dX3_pairOff_31 ?_
          refine ab_iconst (v := (-1 : Int32)) C dX3_pairOff_32 (by decide) ?_
          refine ab_ixor C dX3_pairOff_33 ?_
          refine ab_iand C dX3_pairOff_34 ?_
          refine ab_topi (fun v8 qv8 => ?_)
          replace hF := aLet_e hF v8 qv8
          refine ab_istore_n (lv' := [(1, .int v8), (3, .int v7), (0, .ref a0), (2, .int v2)]) C dX3_pairOff_35 rfl (by decide) rfl ?_
          refine ab_iload_n C 3 rfl rfl dX3_pairOff_36 ?_
          refine ab_iconst (v := (1 : Int32)) C dX3_pairOff_37 (by decide) ?_
          refine ab_iadd C dX3_pairOff_38 ?_
          refine ab_topi (fun v9 qv9 => ?_)
          replace hF := aLet_e hF v9 qv9
          refine ab_istore (lv' := [(4, .int v9), (1, .int v8), (3, .int v7), (0, .ref a0), (2, .int v2)]) C dX3_pairOff_39 (by decide) rfl ?_
          have L41 : ∀ (n41 : Nat) (v10 : Int32) (v11 : Int32) (Z12 : Rec) (g13 : aH), (X3_at g13 a0 Z12) → (∀ q, (q < a0 ∨ a0 + 4 ≤ q) → g13 q = h q) → ∀ (res41 : Int32 × Rec), X3_pairOff_L41 v2 v7 n41 v10 v11 Z12 = some res41 → (∀ (q9 : aH), (X3_at q9 a0 res41.2) → (∀ q, (q < a0 ∨ a0 + 4 ≤ q) → q9 q = h q) → aV X G 6 109 [(0, .ref a0), (1, .int res41.1), (2, .int v2)] [] q9 nx 0 0) → aV X G 6 41 [(0, .ref a0), (1, .int v10), (2, .int v2), (3, .int v7), (4, .int v11)] [] g13 nx 0 0 := by
            intro n41
            induction n41 with
            | zero => intro v10 v11 Z12 g13 hB0 hFr res41 hF KX41; cases (show (none : Option (Int32 × Rec)) = some res41 from hF)
            | succ n41 ih41 =>
              intro v10 v11 Z12 g13 hB0 hFr res41 hF KX41
              rw [X3_pairOff_L41] at hF
              refine ab_iload C 4 rfl dX3_pairOff_41 ?_
              refine ab_bipush (v := (6 : Int32)) C dX3_pairOff_43 (by decide) ?_
              refine ab_icmp_ge C 109 dX3_pairOff_45 (by decide) (fun c14 => ?_) (fun c14 => ?_)
              · replace hF := (if_pos c14).symm.trans hF
                obtain rfl := Option.some.inj hF
                refine aV.sub (lv' := [(0, .ref a0), (1, .int v10), (2, .int v2)]) [0, 1, 2] rfl ?_
                exact KX41 g13 hB0 hFr
              · replace hF := (if_neg c14).symm.trans hF
                refine ab_iload_n C 1 rfl rfl dX3_pairOff_48 ?_
                refine ab_iconst (v := (1 : Int32)) C dX3_pairOff_49 (by decide) ?_
                refine ab_iload C 4 rfl dX3_pairOff_50 ?_
                refine ab_ishl C dX3_pairOff_52 ?_
                refine ab_iconst (v := (-1 : Int32)) C dX3_pairOff_53 (by decide) ?_
                refine ab_ixor C dX3_pairOff_54 ?_
                refine ab_iand C dX3_pairOff_55 ?_
                refine ab_topi (fun v15 qv15 => ?_)
                replace hF := aLet_e hF v15 qv15
                refine ab_istore (lv' := [(5, .int v15), (0, .ref a0), (1, .int v10), (2, .int v2), (3, .int v7), (4, .int v11)]) C dX3_pairOff_56 (by decide) rfl ?_
                refine ab_aload_n C 1 rfl rfl dX3_pairOff_58 ?_
                refine ab_iload_n C 3 rfl rfl dX3_pairOff_59 ?_
                refine ab_iload C 5 rfl dX3_pairOff_60 ?_
                refine ab_iload_n C 2 rfl rfl dX3_pairOff_62 ?_
                obtain ⟨v16, hxv16, hF⟩ := Option.bind_eq_some_iff.mp hF
                refine ab_cVR (v := .int v16) (st := []) C lm_X3_49 (X3_mayPair_ok (xl X) hB0 (r := v16) hxv16) [.int v2, .int v11, .int v10] rfl hB0.1 rfl rfl rfl (by decide) ⟨Nat.zero_le _, Nat.zero_le _⟩ (Nat.le_of_ble_eq_true rfl) dX3_pairOff_63 ?_
                refine ab_if_eq C 103 dX3_pairOff_66 (by decide) (fun c17 => ?_) (fun c17 => ?_)
                · replace hF := (if_pos c17).symm.trans hF
                  obtain ⟨v18, qv18⟩ : ∃ y : Int32, y = (v11 + (1 : Int32)) := ⟨_, rfl⟩
                  replace hF := aLet_e hF v18 qv18
                  refine ab_iinc (lv' := [(4, .int v18), (5, .int v15), (0, .ref a0), (1, .int v10), (2, .int v2), (3, .int v7)]) C 5 rfl dX3_pairOff_103 (by rw [qv18]; rfl) (by decide) rfl ?_
                  refine ab_goto C 41 dX3_pairOff_106 (by decide) ?_
                  refine aV.sub (lv' := [(0, .ref a0), (1, .int v10), (2, .int v2), (3, .int v7), (4, .int v18)]) [2, 3, 4, 5, 0] rfl ?_
                  exact ih41 v10 v18 Z12 g13 hB0 hFr res41 hF KX41
                · replace hF := (if_neg c17).symm.trans hF
                  refine ab_iconst (v := (1 : Int32)) C dX3_pairOff_69 (by decide) ?_
                  refine ab_aload_n C 1 rfl rfl dX3_pairOff_70 ?_
                  refine ab_iload C 0 rfl dX3_pairOff_71 ?_
                  obtain ⟨v19, hxv19, hF⟩ := Option.bind_eq_some_iff.mp hF
                  refine ab_cVR (v := .int v19) (st := [.int (1 : Int32)]) C lm_X3_46 (X3_mostIn_ok (xl X) hB0 (r := v19) hxv19) [.int v15] rfl hB0.1 rfl rfl rfl (by decide) ⟨Nat.zero_le _, Nat.zero_le _⟩ (Nat.le_of_ble_eq_true rfl) dX3_pairOff_73 ?_
                  refine ab_iadd C dX3_pairOff_76 ?_
                  refine ab_iload_n C 4 rfl rfl dX3_pairOff_77 ?_
                  refine ab_icmp_ne C 103 dX3_pairOff_78 (by decide) (fun c20 => ?_) (fun c20 => ?_)
                  · replace hF := (if_neg c20).symm.trans hF
                    obtain ⟨v21, qv21⟩ : ∃ y : Int32, y = (v11 + (1 : Int32)) := ⟨_, rfl⟩
                    replace hF := aLet_e hF v21 qv21
                    refine ab_iinc (lv' := [(4, .int v21), (5, .int v15), (0, .ref a0), (1, .int v10), (2, .int v2), (3, .int v7)]) C 5 rfl dX3_pairOff_103 (by rw [qv21]; rfl) (by decide) rfl ?_
                    refine ab_goto C 41 dX3_pairOff_106 (by decide) ?_
                    refine aV.sub (lv' := [(0, .ref a0), (1, .int v10), (2, .int v2), (3, .int v7), (4, .int v21)]) [2, 3, 4, 5, 0] rfl ?_
                    exact ih41 v10 v21 Z12 g13 hB0 hFr res41 hF KX41
                  · replace hF := (if_pos c20).symm.trans hF
                    refine ab_aload_n C 1 rfl rfl dX3_pairOff_81 ?_
                    refine ab_g3 (v := .ref (a0 + 3)) C lf_X3_18 hB0.1 rfl dX3_pairOff_82 ?_
                    refine ab_iload_n C 3 rfl rfl dX3_pairOff_85 ?_
                    refine ab_iload C 5 rfl dX3_pairOff_86 ?_
                    obtain ⟨w22, hxw22, hF⟩ := Option.bind_eq_some_iff.mp hF
                    refine ab_iast C (X3_r2 hB0) hxw22 dX3_pairOff_88 (fun g23 eg23 og23 => ?_)
                    have hB0 : X3_at g23 a0 (sA Z12 2 w22) := X3_w2 hB0 eg23 og23
                    have hFr : ∀ q, (q < a0 ∨ a0 + 4 ≤ q) → g23 q = h q := fun q u0 => (og23 q (by omega)).trans (hFr q u0)
                    refine ab_aload_n C 1 rfl rfl dX3_pairOff_89 ?_
                    refine ab_g3 (v := .ref (a0 + 3)) C lf_X3_18 hB0.1 rfl dX3_pairOff_90 ?_
                    refine ab_iload C 5 rfl dX3_pairOff_93 ?_
                    refine ab_iload_n C 3 rfl rfl dX3_pairOff_95 ?_
                    obtain ⟨w24, hxw24, hF⟩ := Option.bind_eq_some_iff.mp hF
                    refine ab_iast C (X3_r2 hB0) hxw24 dX3_pairOff_96 (fun g25 eg25 og25 => ?_)
                    have hB0 : X3_at g25 a0 (sA (sA Z12 2 w22) 2 w24) := X3_w2 hB0 eg25 og25
                    have hFr : ∀ q, (q < a0 ∨ a0 + 4 ≤ q) → g25 q = h q := fun q u0 => (og25 q (by omega)).trans (hFr q u0)
                    refine ab_iload C 0 rfl dX3_pairOff_97 ?_
                    refine ab_istore_n (lv' := [(1, .int v15), (5, .int v15), (0, .ref a0), (2, .int v2), (3, .int v7), (4, .int v11)]) C dX3_pairOff_99 rfl (by decide) rfl ?_
                    refine ab_goto C 109 dX3_pairOff_100 (by decide) ?_
                    obtain rfl := Option.some.inj hF
                    refine aV.sub (lv' := [(0, .ref a0), (1, .int v15), (2, .int v2)]) [2, 0, 3] rfl ?_
                    exact KX41 g25 hB0 hFr
          refine aV.sub (lv' := [(0, .ref a0), (1, .int v8), (2, .int v2), (3, .int v7), (4, .int v9)]) [3, 1, 4, 2, 0] rfl ?_
          obtain ⟨e26, he26, hF⟩ := Option.bind_eq_some_iff.mp hF
          refine L41 aFu v8 v9 Z3 g4 hB0 hFr e26 he26 (fun g27 hB0 hFr => ?_)
          obtain ⟨v28, qv28⟩ : ∃ y : Int32, y = (v2 + (1 : Int32)) := ⟨_, rfl⟩
          replace hF := aLet_e hF v28 qv28
          refine ab_iinc (lv' := [(2, .int v28), (0, .ref a0), (1, .int e26.1)]) C 2 rfl dX3_pairOff_109 (by rw [qv28]; rfl) (by decide) rfl ?_
          refine ab_goto C 5 dX3_pairOff_112 (by decide) ?_
          refine aV.sub (lv' := [(0, .ref a0), (1, .int e26.1), (2, .int v28)]) [1, 2, 0] rfl ?_
          exact ih5 e26.1 v28 e26.2 g27 hB0 hFr res5 hF KX5
        · replace hF := (if_pos c6).symm.trans hF
          refine ab_goto C 109 dX3_pairOff_19 (by decide) ?_
          obtain ⟨v29, qv29⟩ : ∃ y : Int32, y = (v2 + (1 : Int32)) := ⟨_, rfl⟩
          replace hF := aLet_e hF v29 qv29
          refine ab_iinc (lv' := [(2, .int v29), (0, .ref a0), (1, .int v1)]) C 2 rfl dX3_pairOff_109 (by rw [qv29]; rfl) (by decide) rfl ?_
          refine ab_goto C 5 dX3_pairOff_112 (by decide) ?_
          refine aV.sub (lv' := [(0, .ref a0), (1, .int v1), (2, .int v29)]) [1, 2, 0] rfl ?_
          exact ih5 v1 v29 Z3 g4 hB0 hFr res5 hF KX5
  refine aV.sub (lv' := [(0, .ref a0), (1, .int (63 : Int32)), (2, .int (0 : Int32))]) [2, 1, 0] rfl ?_
  obtain ⟨e30, he30, hF⟩ := Option.bind_eq_some_iff.mp hF
  refine L5 aFu (63 : Int32) (0 : Int32) S0 h hB0 hFr e30 he30 (fun g31 hB0 hFr => ?_)
  obtain rfl := Option.some.inj hF
  exact ab_vret C R0 dX3_pairOff_115 ⟨rfl, rfl, hB0, hFr⟩
theorem dX3_arrange_0 : decode cX3_arrange 0 = .ok (.iconst 0, 1) := by decide +kernel
theorem dX3_arrange_1 : decode cX3_arrange 1 = .ok (.istore_n 3, 1) := by decide +kernel
theorem dX3_arrange_2 : decode cX3_arrange 2 = .ok (.iload_n 3, 1) := by decide +kernel
theorem dX3_arrange_3 : decode cX3_arrange 3 = .ok (.bipush 6, 2) := by decide +kernel
theorem dX3_arrange_5 : decode cX3_arrange 5 = .ok (.if_icmp .ge 41, 3) := by decide +kernel
theorem dX3_arrange_8 : decode cX3_arrange 8 = .ok (.aload_n 0, 1) := by decide +kernel
theorem dX3_arrange_9 : decode cX3_arrange 9 = .ok (.getfield 15, 3) := by decide +kernel
theorem dX3_arrange_12 : decode cX3_arrange 12 = .ok (.iload_n 3, 1) := by decide +kernel
theorem dX3_arrange_13 : decode cX3_arrange 13 = .ok (.aload_n 1, 1) := by decide +kernel
theorem dX3_arrange_14 : decode cX3_arrange 14 = .ok (.iload_n 3, 1) := by decide +kernel
theorem dX3_arrange_15 : decode cX3_arrange 15 = .ok (.invokevirtual 25, 3) := by decide +kernel
theorem dX3_arrange_18 : decode cX3_arrange 18 = .ok (.ifCond .eq 12, 3) := by decide +kernel
theorem dX3_arrange_21 : decode cX3_arrange 21 = .ok (.aload_n 1, 1) := by decide +kernel
theorem dX3_arrange_22 : decode cX3_arrange 22 = .ok (.iload_n 3, 1) := by decide +kernel
theorem dX3_arrange_23 : decode cX3_arrange 23 = .ok (.iload_n 2, 1) := by decide +kernel
theorem dX3_arrange_24 : decode cX3_arrange 24 = .ok (.invokevirtual 31, 3) := by decide +kernel
theorem dX3_arrange_27 : decode cX3_arrange 27 = .ok (.goto 4, 3) := by decide +kernel
theorem dX3_arrange_30 : decode cX3_arrange 30 = .ok (.iconst 0, 1) := by decide +kernel
theorem dX3_arrange_31 : decode cX3_arrange 31 = .ok (.iastore, 1) := by decide +kernel
theorem dX3_arrange_32 : decode cX3_arrange 32 = .ok (.aload_n 0, 1) := by decide +kernel
theorem dX3_arrange_33 : decode cX3_arrange 33 = .ok (.getfield 18, 3) := by decide +kernel
theorem dX3_arrange_36 : decode cX3_arrange 36 = .ok (.iload_n 3, 1) := by decide +kernel
theorem dX3_arrange_37 : decode cX3_arrange 37 = .ok (.bipush (-4), 2) := by decide +kernel
theorem dX3_arrange_39 : decode cX3_arrange 39 = .ok (.iastore, 1) := by decide +kernel
theorem dX3_arrange_40 : decode cX3_arrange 40 = .ok (.iinc 3 1, 3) := by decide +kernel
theorem dX3_arrange_43 : decode cX3_arrange 43 = .ok (.goto (-41), 3) := by decide +kernel
theorem dX3_arrange_46 : decode cX3_arrange 46 = .ok (.aload_n 0, 1) := by decide +kernel
theorem dX3_arrange_47 : decode cX3_arrange 47 = .ok (.getfield 11, 3) := by decide +kernel
theorem dX3_arrange_50 : decode cX3_arrange 50 = .ok (.iconst 0, 1) := by decide +kernel
theorem dX3_arrange_51 : decode cX3_arrange 51 = .ok (.iconst 0, 1) := by decide +kernel
theorem dX3_arrange_52 : decode cX3_arrange 52 = .ok (.iastore, 1) := by decide +kernel
theorem dX3_arrange_53 : decode cX3_arrange 53 = .ok (.iconst 1, 1) := by decide +kernel
theorem dX3_arrange_54 : decode cX3_arrange 54 = .ok (.istore_n 3, 1) := by decide +kernel
theorem dX3_arrange_55 : decode cX3_arrange 55 = .ok (.iload_n 3, 1) := by decide +kernel
theorem dX3_arrange_56 : decode cX3_arrange 56 = .ok (.bipush 64, 2) := by decide +kernel
theorem dX3_arrange_58 : decode cX3_arrange 58 = .ok (.if_icmp .ge 20, 3) := by decide +kernel
theorem dX3_arrange_61 : decode cX3_arrange 61 = .ok (.aload_n 0, 1) := by decide +kernel
theorem dX3_arrange_62 : decode cX3_arrange 62 = .ok (.getfield 11, 3) := by decide +kernel
theorem dX3_arrange_65 : decode cX3_arrange 65 = .ok (.iload_n 3, 1) := by decide +kernel
theorem dX3_arrange_66 : decode cX3_arrange 66 = .ok (.aload_n 0, 1) := by decide +kernel
theorem dX3_arrange_67 : decode cX3_arrange 67 = .ok (.iload_n 3, 1) := by decide +kernel
theorem dX3_arrange_68 : decode cX3_arrange 68 = .ok (.invokevirtual 35, 3) := by decide +kernel
theorem dX3_arrange_71 : decode cX3_arrange 71 = .ok (.iastore, 1) := by decide +kernel
theorem dX3_arrange_72 : decode cX3_arrange 72 = .ok (.iinc 3 1, 3) := by decide +kernel
theorem dX3_arrange_75 : decode cX3_arrange 75 = .ok (.goto (-20), 3) := by decide +kernel
theorem dX3_arrange_78 : decode cX3_arrange 78 = .ok (.aload_n 0, 1) := by decide +kernel
theorem dX3_arrange_79 : decode cX3_arrange 79 = .ok (.aload_n 0, 1) := by decide +kernel
theorem dX3_arrange_80 : decode cX3_arrange 80 = .ok (.getfield 11, 3) := by decide +kernel
theorem dX3_arrange_83 : decode cX3_arrange 83 = .ok (.bipush 63, 2) := by decide +kernel
theorem dX3_arrange_85 : decode cX3_arrange 85 = .ok (.iaload, 1) := by decide +kernel
theorem dX3_arrange_86 : decode cX3_arrange 86 = .ok (.putfield 21, 3) := by decide +kernel
theorem dX3_arrange_89 : decode cX3_arrange 89 = .ok (.aload_n 0, 1) := by decide +kernel
theorem dX3_arrange_90 : decode cX3_arrange 90 = .ok (.invokevirtual 39, 3) := by decide +kernel
theorem dX3_arrange_93 : decode cX3_arrange 93 = .ok (.return_, 1) := by decide +kernel
def X3_arrange_L2 (S1 : Rec) (x2 : Int32) : Nat → Int32 → Rec → Option (Rec)
  | 0, _, _ => none
  | n2 + 1, v1, Z2 => if (6 : Int32) ≤ v1 then
      some Z2
    else
      if (X2_hasHolder S1 v1) = 0 then
        (wrI (Z2.2.1 1) 6 v1 (0 : Int32)).bind fun w6 =>
        (wrI ((sA Z2 1 w6).2.1 2) 6 v1 (-4 : Int32)).bind fun w8 =>
        aLet (v1 + (1 : Int32)) fun v10 =>
        X3_arrange_L2 S1 x2 n2 v10 (sA (sA Z2 1 w6) 2 w8)
      else
        (X2_talkersWith S1 v1 x2).bind fun v11 =>
        (wrI (Z2.2.1 1) 6 v1 v11).bind fun w12 =>
        (wrI ((sA Z2 1 w12).2.1 2) 6 v1 (-4 : Int32)).bind fun w14 =>
        aLet (v1 + (1 : Int32)) fun v16 =>
        X3_arrange_L2 S1 x2 n2 v16 (sA (sA Z2 1 w12) 2 w14)
def X3_arrange_L55 : Nat → Int32 → Rec → Option (Rec)
  | 0, _, _ => none
  | n55 + 1, v21, Z22 => if (64 : Int32) ≤ v21 then
      some Z22
    else
      (X3_mostOf Z22 v21).bind fun v25 =>
      (wrI (Z22.2.1 0) 64 v21 v25).bind fun w26 =>
      aLet (v21 + (1 : Int32)) fun v28 =>
      X3_arrange_L55 n55 v28 (sA Z22 0 w26)
def X3_arrange (S0 : Rec) (S1 : Rec) (x2 : Int32) : Option (Rec) :=
  (X3_arrange_L2 S1 x2 aFu (0 : Int32) S0).bind fun e17 =>
  (wrI (e17.2.1 0) 64 (0 : Int32) (0 : Int32)).bind fun w19 =>
  (X3_arrange_L55 aFu (1 : Int32) (sA e17 0 w19)).bind fun e29 =>
  (rdI (e29.2.1 0) 64 (63 : Int32)).bind fun v31 =>
  (X3_pairOff (sI e29 3 v31)).bind fun v33 =>
  some v33
set_option maxRecDepth 100000 in
set_option maxHeartbeats 4000000 in
theorem X3_arrange_ok (l : Launch) {h : aH} {nx : Nat} {a0 : Nat} {a1 : Nat} {S0 : Rec} {S1 : Rec} {x2 : Int32} (hB0 : X3_at h a0 S0) (hB1 : X2_at h a1 S1) (hs01 : a0 + 4 ≤ a1 ∨ a1 + 8 ≤ a0) {r : Rec} (hF : X3_arrange S0 S1 x2 = some r) : aOk l 6 0 0 yX3_arrange cX3_arrange 4 none [.ref a0, .ref a1, .int x2] h nx (aMt none nx (fun h1 => X3_at h1 a0 r ∧ (∀ q, (q < a0 ∨ a0 + 4 ≤ q) → h1 q = h q))) := by
  refine aOk.of (by decide +kernel) (Nat.le_of_ble_eq_true rfl) (fun X G hX C R0 _ => ?_)
  subst hX
  show aV X G 4 0 [(0, .ref a0), (1, .ref a1), (2, .int x2)] [] h nx 0 0
  have hFr : ∀ q, (q < a0 ∨ a0 + 4 ≤ q) → h q = h q := fun _ _ => rfl
  rw [X3_arrange] at hF
  refine ab_iconst (v := (0 : Int32)) C dX3_arrange_0 (by decide) ?_
  refine ab_istore_n (lv' := [(3, .int (0 : Int32)), (0, .ref a0), (1, .ref a1), (2, .int x2)]) C dX3_arrange_1 rfl (by decide) rfl ?_
  have L2 : ∀ (n2 : Nat) (v1 : Int32) (Z2 : Rec) (g3 : aH), (X3_at g3 a0 Z2) → (X2_at g3 a1 S1) → (∀ q, (q < a0 ∨ a0 + 4 ≤ q) → g3 q = h q) → ∀ (res2 : Rec), X3_arrange_L2 S1 x2 n2 v1 Z2 = some res2 → (∀ (q9 : aH), (X3_at q9 a0 res2) → (X2_at q9 a1 S1) → (∀ q, (q < a0 ∨ a0 + 4 ≤ q) → q9 q = h q) → aV X G 4 46 [(0, .ref a0)] [] q9 nx 0 0) → aV X G 4 2 [(0, .ref a0), (1, .ref a1), (2, .int x2), (3, .int v1)] [] g3 nx 0 0 := by
    intro n2
    induction n2 with
    | zero => intro v1 Z2 g3 hB0 hB1 hFr res2 hF KX2; cases (show (none : Option (Rec)) = some res2 from hF)
    | succ n2 ih2 =>
      intro v1 Z2 g3 hB0 hB1 hFr res2 hF KX2
      rw [X3_arrange_L2] at hF
      refine ab_iload_n C 3 rfl rfl dX3_arrange_2 ?_
      refine ab_bipush (v := (6 : Int32)) C dX3_arrange_3 (by decide) ?_
      refine ab_icmp_ge C 46 dX3_arrange_5 (by decide) (fun c4 => ?_) (fun c4 => ?_)
      · replace hF := (if_pos c4).symm.trans hF
        obtain rfl := Option.some.inj hF
        refine aV.sub (lv' := [(0, .ref a0)]) [0] rfl ?_
        exact KX2 g3 hB0 hB1 hFr
      · replace hF := (if_neg c4).symm.trans hF
        refine ab_aload_n C 0 rfl rfl dX3_arrange_8 ?_
        refine ab_g3 (v := .ref (a0 + 2)) C lf_X3_15 hB0.1 rfl dX3_arrange_9 ?_
        refine ab_iload_n C 3 rfl rfl dX3_arrange_12 ?_
        refine ab_aload_n C 1 rfl rfl dX3_arrange_13 ?_
        refine ab_iload_n C 3 rfl rfl dX3_arrange_14 ?_
        refine ab_cVR (v := .int (X2_hasHolder S1 v1)) (st := [.int v1, .ref (a0 + 2)]) C lm_X3_25 (X2_hasHolder_ok (xl X) hB1 (r := (X2_hasHolder S1 v1)) rfl) [.int v1] rfl hB1.1 rfl rfl rfl (by decide) ⟨Nat.zero_le _, Nat.zero_le _⟩ (Nat.le_of_ble_eq_true rfl) dX3_arrange_15 ?_
        refine ab_if_eq C 30 dX3_arrange_18 (by decide) (fun c5 => ?_) (fun c5 => ?_)
        · replace hF := (if_pos c5).symm.trans hF
          refine ab_iconst (v := (0 : Int32)) C dX3_arrange_30 (by decide) ?_
          obtain ⟨w6, hxw6, hF⟩ := Option.bind_eq_some_iff.mp hF
          refine ab_iast C (X3_r1 hB0) hxw6 dX3_arrange_31 (fun g7 eg7 og7 => ?_)
          have hB0 : X3_at g7 a0 (sA Z2 1 w6) := X3_w1 hB0 eg7 og7
          have hB1 : X2_at g7 a1 S1 := X2_off hB1 (fun q i1 i2 => og7 q (by omega))
          have hFr : ∀ q, (q < a0 ∨ a0 + 4 ≤ q) → g7 q = h q := fun q u0 => (og7 q (by omega)).trans (hFr q u0)
          refine ab_aload_n C 0 rfl rfl dX3_arrange_32 ?_
          refine ab_g3 (v := .ref (a0 + 3)) C lf_X3_18 hB0.1 rfl dX3_arrange_33 ?_
          refine ab_iload_n C 3 rfl rfl dX3_arrange_36 ?_
          refine ab_bipush (v := (-4 : Int32)) C dX3_arrange_37 (by decide) ?_
          obtain ⟨w8, hxw8, hF⟩ := Option.bind_eq_some_iff.mp hF
          refine ab_iast C (X3_r2 hB0) hxw8 dX3_arrange_39 (fun g9 eg9 og9 => ?_)
          have hB0 : X3_at g9 a0 (sA (sA Z2 1 w6) 2 w8) := X3_w2 hB0 eg9 og9
          have hB1 : X2_at g9 a1 S1 := X2_off hB1 (fun q i1 i2 => og9 q (by omega))
          have hFr : ∀ q, (q < a0 ∨ a0 + 4 ≤ q) → g9 q = h q := fun q u0 => (og9 q (by omega)).trans (hFr q u0)
          obtain ⟨v10, qv10⟩ : ∃ y : Int32, y = (v1 + (1 : Int32)) := ⟨_, rfl⟩
          replace hF := aLet_e hF v10 qv10
          refine ab_iinc (lv' := [(3, .int v10), (0, .ref a0), (1, .ref a1), (2, .int x2)]) C 3 rfl dX3_arrange_40 (by rw [qv10]; rfl) (by decide) rfl ?_
          refine ab_goto C 2 dX3_arrange_43 (by decide) ?_
          refine aV.sub (lv' := [(0, .ref a0), (1, .ref a1), (2, .int x2), (3, .int v10)]) [1, 2, 3, 0] rfl ?_
          exact ih2 v10 (sA (sA Z2 1 w6) 2 w8) g9 hB0 hB1 hFr res2 hF KX2
        · replace hF := (if_neg c5).symm.trans hF
          refine ab_aload_n C 1 rfl rfl dX3_arrange_21 ?_
          refine ab_iload_n C 3 rfl rfl dX3_arrange_22 ?_
          refine ab_iload_n C 2 rfl rfl dX3_arrange_23 ?_
          obtain ⟨v11, hxv11, hF⟩ := Option.bind_eq_some_iff.mp hF
          refine ab_cVR (v := .int v11) (st := [.int v1, .ref (a0 + 2)]) C lm_X3_31 (X2_talkersWith_ok (xl X) hB1 (r := v11) hxv11) [.int v1, .int x2] rfl hB1.1 rfl rfl rfl (by decide) ⟨Nat.zero_le _, Nat.zero_le _⟩ (Nat.le_of_ble_eq_true rfl) dX3_arrange_24 ?_
          refine ab_goto C 31 dX3_arrange_27 (by decide) ?_
          obtain ⟨w12, hxw12, hF⟩ := Option.bind_eq_some_iff.mp hF
          refine ab_iast C (X3_r1 hB0) hxw12 dX3_arrange_31 (fun g13 eg13 og13 => ?_)
          have hB0 : X3_at g13 a0 (sA Z2 1 w12) := X3_w1 hB0 eg13 og13
          have hB1 : X2_at g13 a1 S1 := X2_off hB1 (fun q i1 i2 => og13 q (by omega))
          have hFr : ∀ q, (q < a0 ∨ a0 + 4 ≤ q) → g13 q = h q := fun q u0 => (og13 q (by omega)).trans (hFr q u0)
          refine ab_aload_n C 0 rfl rfl dX3_arrange_32 ?_
          refine ab_g3 (v := .ref (a0 + 3)) C lf_X3_18 hB0.1 rfl dX3_arrange_33 ?_
          refine ab_iload_n C 3 rfl rfl dX3_arrange_36 ?_
          refine ab_bipush (v := (-4 : Int32)) C dX3_arrange_37 (by decide) ?_
          obtain ⟨w14, hxw14, hF⟩ := Option.bind_eq_some_iff.mp hF
          refine ab_iast C (X3_r2 hB0) hxw14 dX3_arrange_39 (fun g15 eg15 og15 => ?_)
          have hB0 : X3_at g15 a0 (sA (sA Z2 1 w12) 2 w14) := X3_w2 hB0 eg15 og15
          have hB1 : X2_at g15 a1 S1 := X2_off hB1 (fun q i1 i2 => og15 q (by omega))
          have hFr : ∀ q, (q < a0 ∨ a0 + 4 ≤ q) → g15 q = h q := fun q u0 => (og15 q (by omega)).trans (hFr q u0)
          obtain ⟨v16, qv16⟩ : ∃ y : Int32, y = (v1 + (1 : Int32)) := ⟨_, rfl⟩
          replace hF := aLet_e hF v16 qv16
          refine ab_iinc (lv' := [(3, .int v16), (0, .ref a0), (1, .ref a1), (2, .int x2)]) C 3 rfl dX3_arrange_40 (by rw [qv16]; rfl) (by decide) rfl ?_
          refine ab_goto C 2 dX3_arrange_43 (by decide) ?_
          refine aV.sub (lv' := [(0, .ref a0), (1, .ref a1), (2, .int x2), (3, .int v16)]) [1, 2, 3, 0] rfl ?_
          exact ih2 v16 (sA (sA Z2 1 w12) 2 w14) g15 hB0 hB1 hFr res2 hF KX2
  refine aV.sub (lv' := [(0, .ref a0), (1, .ref a1), (2, .int x2), (3, .int (0 : Int32))]) [1, 2, 3, 0] rfl ?_
  obtain ⟨e17, he17, hF⟩ := Option.bind_eq_some_iff.mp hF
  refine L2 aFu (0 : Int32) S0 h hB0 hB1 hFr e17 he17 (fun g18 hB0 hB1 hFr => ?_)
  refine ab_aload_n C 0 rfl rfl dX3_arrange_46 ?_
  refine ab_g3 (v := .ref (a0 + 1)) C lf_X3_11 hB0.1 rfl dX3_arrange_47 ?_
  refine ab_iconst (v := (0 : Int32)) C dX3_arrange_50 (by decide) ?_
  refine ab_iconst (v := (0 : Int32)) C dX3_arrange_51 (by decide) ?_
  obtain ⟨w19, hxw19, hF⟩ := Option.bind_eq_some_iff.mp hF
  refine ab_iast C (X3_r0 hB0) hxw19 dX3_arrange_52 (fun g20 eg20 og20 => ?_)
  have hB0 : X3_at g20 a0 (sA e17 0 w19) := X3_w0 hB0 eg20 og20
  have hB1 : X2_at g20 a1 S1 := X2_off hB1 (fun q i1 i2 => og20 q (by omega))
  have hFr : ∀ q, (q < a0 ∨ a0 + 4 ≤ q) → g20 q = h q := fun q u0 => (og20 q (by omega)).trans (hFr q u0)
  refine ab_iconst (v := (1 : Int32)) C dX3_arrange_53 (by decide) ?_
  refine ab_istore_n (lv' := [(3, .int (1 : Int32)), (0, .ref a0)]) C dX3_arrange_54 rfl (by decide) rfl ?_
  have L55 : ∀ (n55 : Nat) (v21 : Int32) (Z22 : Rec) (g23 : aH), (X3_at g23 a0 Z22) → (X2_at g23 a1 S1) → (∀ q, (q < a0 ∨ a0 + 4 ≤ q) → g23 q = h q) → ∀ (res55 : Rec), X3_arrange_L55 n55 v21 Z22 = some res55 → (∀ (q9 : aH), (X3_at q9 a0 res55) → (X2_at q9 a1 S1) → (∀ q, (q < a0 ∨ a0 + 4 ≤ q) → q9 q = h q) → aV X G 4 78 [(0, .ref a0)] [] q9 nx 0 0) → aV X G 4 55 [(0, .ref a0), (3, .int v21)] [] g23 nx 0 0 := by
    intro n55
    induction n55 with
    | zero => intro v21 Z22 g23 hB0 hB1 hFr res55 hF KX55; cases (show (none : Option (Rec)) = some res55 from hF)
    | succ n55 ih55 =>
      intro v21 Z22 g23 hB0 hB1 hFr res55 hF KX55
      rw [X3_arrange_L55] at hF
      refine ab_iload_n C 1 rfl rfl dX3_arrange_55 ?_
      refine ab_bipush (v := (64 : Int32)) C dX3_arrange_56 (by decide) ?_
      refine ab_icmp_ge C 78 dX3_arrange_58 (by decide) (fun c24 => ?_) (fun c24 => ?_)
      · replace hF := (if_pos c24).symm.trans hF
        obtain rfl := Option.some.inj hF
        refine aV.sub (lv' := [(0, .ref a0)]) [0] rfl ?_
        exact KX55 g23 hB0 hB1 hFr
      · replace hF := (if_neg c24).symm.trans hF
        refine ab_aload_n C 0 rfl rfl dX3_arrange_61 ?_
        refine ab_g3 (v := .ref (a0 + 1)) C lf_X3_11 hB0.1 rfl dX3_arrange_62 ?_
        refine ab_iload_n C 1 rfl rfl dX3_arrange_65 ?_
        refine ab_aload_n C 0 rfl rfl dX3_arrange_66 ?_
        refine ab_iload_n C 1 rfl rfl dX3_arrange_67 ?_
        obtain ⟨v25, hxv25, hF⟩ := Option.bind_eq_some_iff.mp hF
        refine ab_cVR (v := .int v25) (st := [.int v21, .ref (a0 + 1)]) C lm_X3_35 (X3_mostOf_ok (xl X) hB0 (r := v25) hxv25) [.int v21] rfl hB0.1 rfl rfl rfl (by decide) ⟨Nat.zero_le _, Nat.zero_le _⟩ (Nat.le_of_ble_eq_true rfl) dX3_arrange_68 ?_
        obtain ⟨w26, hxw26, hF⟩ := Option.bind_eq_some_iff.mp hF
        refine ab_iast C (X3_r0 hB0) hxw26 dX3_arrange_71 (fun g27 eg27 og27 => ?_)
        have hB0 : X3_at g27 a0 (sA Z22 0 w26) := X3_w0 hB0 eg27 og27
        have hB1 : X2_at g27 a1 S1 := X2_off hB1 (fun q i1 i2 => og27 q (by omega))
        have hFr : ∀ q, (q < a0 ∨ a0 + 4 ≤ q) → g27 q = h q := fun q u0 => (og27 q (by omega)).trans (hFr q u0)
        obtain ⟨v28, qv28⟩ : ∃ y : Int32, y = (v21 + (1 : Int32)) := ⟨_, rfl⟩
        replace hF := aLet_e hF v28 qv28
        refine ab_iinc (lv' := [(3, .int v28), (0, .ref a0)]) C 1 rfl dX3_arrange_72 (by rw [qv28]; rfl) (by decide) rfl ?_
        refine ab_goto C 55 dX3_arrange_75 (by decide) ?_
        refine aV.sub (lv' := [(0, .ref a0), (3, .int v28)]) [1, 0] rfl ?_
        exact ih55 v28 (sA Z22 0 w26) g27 hB0 hB1 hFr res55 hF KX55
  refine aV.sub (lv' := [(0, .ref a0), (3, .int (1 : Int32))]) [1, 0] rfl ?_
  obtain ⟨e29, he29, hF⟩ := Option.bind_eq_some_iff.mp hF
  refine L55 aFu (1 : Int32) (sA e17 0 w19) g20 hB0 hB1 hFr e29 he29 (fun g30 hB0 hB1 hFr => ?_)
  refine ab_aload_n C 0 rfl rfl dX3_arrange_78 ?_
  refine ab_aload_n C 0 rfl rfl dX3_arrange_79 ?_
  refine ab_g3 (v := .ref (a0 + 1)) C lf_X3_11 hB0.1 rfl dX3_arrange_80 ?_
  refine ab_bipush (v := (63 : Int32)) C dX3_arrange_83 (by decide) ?_
  obtain ⟨v31, hxv31, hF⟩ := Option.bind_eq_some_iff.mp hF
  refine ab_iald C (X3_r0 hB0) hxv31 dX3_arrange_85 ?_
  refine ab_p3 (ty := .int) C lf_X3_21 rfl (by decide +kernel) rfl rfl (Nat.le_of_ble_eq_true rfl) hB0.1 dX3_arrange_86 (fun g32 eg32 og32 => ?_)
  have hB0 : X3_at g32 a0 (sI e29 3 v31) := X3_p3 hB0 eg32 og32
  have hB1 : X2_at g32 a1 S1 := X2_off hB1 (fun q i1 i2 => og32 q (by omega))
  have hFr : ∀ q, (q < a0 ∨ a0 + 4 ≤ q) → g32 q = h q := fun q u0 => (og32 q (by omega)).trans (hFr q u0)
  refine ab_aload_n C 0 rfl rfl dX3_arrange_89 ?_
  obtain ⟨v33, hxv33, hF⟩ := Option.bind_eq_some_iff.mp hF
  refine ab_cVN (st := []) C lm_X3_39 (X3_pairOff_ok (xl X) hB0 (r := v33) hxv33) [] rfl hB0.1 rfl rfl rfl (by decide) ⟨Nat.zero_le _, Nat.zero_le _⟩ (Nat.le_of_ble_eq_true rfl) dX3_arrange_90 (fun g34 pg34 => ?_)
  obtain ⟨k0, Og34⟩ := pg34
  have hB0 : X3_at g34 a0 v33 := k0
  have hB1 : X2_at g34 a1 S1 := X2_off hB1 (fun q i1 i2 => Og34 q (by omega))
  have hFr : ∀ q, (q < a0 ∨ a0 + 4 ≤ q) → g34 q = h q := fun q u0 => (Og34 q (by omega)).trans (hFr q u0)
  obtain rfl := Option.some.inj hF
  exact ab_vret C R0 dX3_arrange_93 ⟨rfl, rfl, hB0, hFr⟩
theorem dX4_size_0 : decode cX4_size 0 = .ok (.aload_n 0, 1) := by decide +kernel
theorem dX4_size_1 : decode cX4_size 1 = .ok (.getfield 17, 3) := by decide +kernel
theorem dX4_size_4 : decode cX4_size 4 = .ok (.ireturn, 1) := by decide +kernel
def X4_size (lf0 : Nat → Option Nat) (S0 : Rec) : Int32 :=
  (S0.1 2)
set_option maxRecDepth 100000 in
set_option maxHeartbeats 4000000 in
theorem X4_size_ok (l : Launch) {h : aH} {nx : Nat} {a0 : Nat} {lf0 : Nat → Option Nat} {S0 : Rec} (hB0 : X4_at h a0 lf0 S0) {r : Int32} (hF : X4_size lf0 S0 = r) : aOk l 0 0 0 yX4_size cX4_size 1 (some .int) [.ref a0] h nx (aRd (.int r) h nx) := by
  refine aOk.of (by decide +kernel) (Nat.le_of_ble_eq_true rfl) (fun X G hX C R0 _ => ?_)
  subst hX
  show aV X G 1 0 [(0, .ref a0)] [] h nx 0 0
  rw [X4_size] at hF
  refine ab_aload_n C 0 rfl rfl dX4_size_0 ?_
  refine ab_g4 (v := .int (S0.1 2)) C lf_X4_17 hB0.1 rfl dX4_size_1 ?_
  obtain rfl := hF
  exact ab_iret C R0 rfl dX4_size_4 ⟨rfl, rfl, rfl⟩
theorem dX4_forget_0 : decode cX4_forget 0 = .ok (.aload_n 0, 1) := by decide +kernel
theorem dX4_forget_1 : decode cX4_forget 1 = .ok (.iconst 0, 1) := by decide +kernel
theorem dX4_forget_2 : decode cX4_forget 2 = .ok (.putfield 17, 3) := by decide +kernel
theorem dX4_forget_5 : decode cX4_forget 5 = .ok (.return_, 1) := by decide +kernel
def X4_forget (lf0 : Nat → Option Nat) (S0 : Rec) : Rec :=
  (sI S0 2 (0 : Int32))
set_option maxRecDepth 100000 in
set_option maxHeartbeats 4000000 in
theorem X4_forget_ok (l : Launch) {h : aH} {nx : Nat} {a0 : Nat} {lf0 : Nat → Option Nat} {S0 : Rec} (hB0 : X4_at h a0 lf0 S0) {r : Rec} (hF : X4_forget lf0 S0 = r) : aOk l 0 0 0 yX4_forget cX4_forget 1 none [.ref a0] h nx (aMt none nx (fun h1 => X4_at h1 a0 lf0 r ∧ (∀ q, (q < a0 ∨ a0 + 2 ≤ q) → h1 q = h q))) := by
  refine aOk.of (by decide +kernel) (Nat.le_of_ble_eq_true rfl) (fun X G hX C R0 _ => ?_)
  subst hX
  show aV X G 1 0 [(0, .ref a0)] [] h nx 0 0
  have hFr : ∀ q, (q < a0 ∨ a0 + 2 ≤ q) → h q = h q := fun _ _ => rfl
  rw [X4_forget] at hF
  refine ab_aload_n C 0 rfl rfl dX4_forget_0 ?_
  refine ab_iconst (v := (0 : Int32)) C dX4_forget_1 (by decide) ?_
  refine ab_p4 (ty := .int) C lf_X4_17 rfl (by decide +kernel) rfl rfl (Nat.le_of_ble_eq_true rfl) hB0.1 dX4_forget_2 (fun g1 eg1 og1 => ?_)
  have hB0 : X4_at g1 a0 lf0 (sI S0 2 (0 : Int32)) := X4_p2 hB0 eg1 og1
  have hFr : ∀ q, (q < a0 ∨ a0 + 2 ≤ q) → g1 q = h q := fun q u0 => (og1 q (by omega)).trans (hFr q u0)
  obtain rfl := hF
  exact ab_vret C R0 dX4_forget_5 ⟨rfl, rfl, hB0, hFr⟩
theorem dX5_reaches_0 : decode cX5_reaches 0 = .ok (.iload_n 2, 1) := by decide +kernel
theorem dX5_reaches_1 : decode cX5_reaches 1 = .ok (.ifCond .lt 22, 3) := by decide +kernel
theorem dX5_reaches_4 : decode cX5_reaches 4 = .ok (.iload_n 1, 1) := by decide +kernel
theorem dX5_reaches_5 : decode cX5_reaches 5 = .ok (.ifCond .lt 18, 3) := by decide +kernel
theorem dX5_reaches_8 : decode cX5_reaches 8 = .ok (.iload_n 1, 1) := by decide +kernel
theorem dX5_reaches_9 : decode cX5_reaches 9 = .ok (.aload_n 0, 1) := by decide +kernel
theorem dX5_reaches_10 : decode cX5_reaches 10 = .ok (.getfield 24, 3) := by decide +kernel
theorem dX5_reaches_13 : decode cX5_reaches 13 = .ok (.arraylength, 1) := by decide +kernel
theorem dX5_reaches_14 : decode cX5_reaches 14 = .ok (.iload_n 2, 1) := by decide +kernel
theorem dX5_reaches_15 : decode cX5_reaches 15 = .ok (.isub, 1) := by decide +kernel
theorem dX5_reaches_16 : decode cX5_reaches 16 = .ok (.if_icmp .gt 7, 3) := by decide +kernel
theorem dX5_reaches_19 : decode cX5_reaches 19 = .ok (.iconst 1, 1) := by decide +kernel
theorem dX5_reaches_20 : decode cX5_reaches 20 = .ok (.goto 4, 3) := by decide +kernel
theorem dX5_reaches_23 : decode cX5_reaches 23 = .ok (.iconst 0, 1) := by decide +kernel
theorem dX5_reaches_24 : decode cX5_reaches 24 = .ok (.ireturn, 1) := by decide +kernel
def X5_reaches (m0 : Nat) (S0 : Rec) (x1 : Int32) (x2 : Int32) : Int32 :=
  if x2 < 0 then
    (0 : Int32)
  else
    if x1 < 0 then
      (0 : Int32)
    else
      if ((Int32.ofNat m0) - x2) < x1 then
        (0 : Int32)
      else
        (1 : Int32)
set_option maxRecDepth 100000 in
set_option maxHeartbeats 4000000 in
theorem X5_reaches_ok (l : Launch) {h : aH} {nx : Nat} {a0 : Nat} {m0 : Nat} {S0 : Rec} {x1 : Int32} {x2 : Int32} (hB0 : X5_at h a0 m0 S0) {r : Int32} (hF : X5_reaches m0 S0 x1 x2 = r) : aOk l 0 0 0 yX5_reaches cX5_reaches 3 (some .boolean) [.ref a0, .int x1, .int x2] h nx (aRd (.int r) h nx) := by
  refine aOk.of (by decide +kernel) (Nat.le_of_ble_eq_true rfl) (fun X G hX C R0 _ => ?_)
  subst hX
  show aV X G 3 0 [(0, .ref a0), (1, .int x1), (2, .int x2)] [] h nx 0 0
  rw [X5_reaches] at hF
  refine ab_iload_n C 2 rfl rfl dX5_reaches_0 ?_
  refine ab_if_lt C 23 dX5_reaches_1 (by decide) (fun c1 => ?_) (fun c1 => ?_)
  · replace hF := (if_pos c1).symm.trans hF
    refine ab_iconst (v := (0 : Int32)) C dX5_reaches_23 (by decide) ?_
    obtain rfl := hF
    exact ab_iret C R0 rfl dX5_reaches_24 ⟨rfl, rfl, rfl⟩
  · replace hF := (if_neg c1).symm.trans hF
    refine ab_iload_n C 1 rfl rfl dX5_reaches_4 ?_
    refine ab_if_lt C 23 dX5_reaches_5 (by decide) (fun c2 => ?_) (fun c2 => ?_)
    · replace hF := (if_pos c2).symm.trans hF
      refine ab_iconst (v := (0 : Int32)) C dX5_reaches_23 (by decide) ?_
      obtain rfl := hF
      exact ab_iret C R0 rfl dX5_reaches_24 ⟨rfl, rfl, rfl⟩
    · replace hF := (if_neg c2).symm.trans hF
      refine ab_iload_n C 1 rfl rfl dX5_reaches_8 ?_
      refine ab_aload_n C 0 rfl rfl dX5_reaches_9 ?_
      refine ab_g5 (v := .ref (a0 + 1)) C lf_X5_24 hB0.1 rfl dX5_reaches_10 ?_
      refine ab_alen1 C (X5_r1 hB0) dX5_reaches_13 ?_
      refine ab_iload_n C 2 rfl rfl dX5_reaches_14 ?_
      refine ab_isub C dX5_reaches_15 ?_
      refine ab_icmp_gt C 23 dX5_reaches_16 (by decide) (fun c3 => ?_) (fun c3 => ?_)
      · replace hF := (if_pos c3).symm.trans hF
        refine ab_iconst (v := (0 : Int32)) C dX5_reaches_23 (by decide) ?_
        obtain rfl := hF
        exact ab_iret C R0 rfl dX5_reaches_24 ⟨rfl, rfl, rfl⟩
      · replace hF := (if_neg c3).symm.trans hF
        refine ab_iconst (v := (1 : Int32)) C dX5_reaches_19 (by decide) ?_
        refine ab_goto C 24 dX5_reaches_20 (by decide) ?_
        obtain rfl := hF
        exact ab_iret C R0 rfl dX5_reaches_24 ⟨rfl, rfl, rfl⟩
theorem X5_reaches_n {m0 : Nat} {S0 : Rec} {x1 : Int32} {x2 : Int32} : narrow .boolean (.int (X5_reaches m0 S0 x1 x2)) = .int (X5_reaches m0 S0 x1 x2) := by
  unfold X5_reaches
  repeat' split
  all_goals first | rfl | exact X9_in_n
theorem dX5_put_0 : decode cX5_put 0 = .ok (.iload_n 1, 1) := by decide +kernel
theorem dX5_put_1 : decode cX5_put 1 = .ok (.ifCond .lt 12, 3) := by decide +kernel
theorem dX5_put_4 : decode cX5_put 4 = .ok (.iload_n 1, 1) := by decide +kernel
theorem dX5_put_5 : decode cX5_put 5 = .ok (.aload_n 0, 1) := by decide +kernel
theorem dX5_put_6 : decode cX5_put 6 = .ok (.getfield 24, 3) := by decide +kernel
theorem dX5_put_9 : decode cX5_put 9 = .ok (.arraylength, 1) := by decide +kernel
theorem dX5_put_10 : decode cX5_put 10 = .ok (.if_icmp .lt 7, 3) := by decide +kernel
theorem dX5_put_13 : decode cX5_put 13 = .ok (.ldc2_w 28, 3) := by decide +kernel
theorem dX5_put_16 : decode cX5_put 16 = .ok (.lreturn, 1) := by decide +kernel
theorem dX5_put_17 : decode cX5_put 17 = .ok (.bipush 64, 2) := by decide +kernel
theorem dX5_put_19 : decode cX5_put 19 = .ok (.bipush 8, 2) := by decide +kernel
theorem dX5_put_21 : decode cX5_put 21 = .ok (.aload_n 0, 1) := by decide +kernel
theorem dX5_put_22 : decode cX5_put 22 = .ok (.getfield 9, 3) := by decide +kernel
theorem dX5_put_25 : decode cX5_put 25 = .ok (.ishl, 1) := by decide +kernel
theorem dX5_put_26 : decode cX5_put 26 = .ok (.isub, 1) := by decide +kernel
theorem dX5_put_27 : decode cX5_put 27 = .ok (.istore 4, 2) := by decide +kernel
theorem dX5_put_29 : decode cX5_put 29 = .ok (.aload_n 0, 1) := by decide +kernel
theorem dX5_put_30 : decode cX5_put 30 = .ok (.getfield 24, 3) := by decide +kernel
theorem dX5_put_33 : decode cX5_put 33 = .ok (.iload_n 1, 1) := by decide +kernel
theorem dX5_put_34 : decode cX5_put 34 = .ok (.lload_n 2, 1) := by decide +kernel
theorem dX5_put_35 : decode cX5_put 35 = .ok (.iload 4, 2) := by decide +kernel
theorem dX5_put_37 : decode cX5_put 37 = .ok (.lshl, 1) := by decide +kernel
theorem dX5_put_38 : decode cX5_put 38 = .ok (.iload 4, 2) := by decide +kernel
theorem dX5_put_40 : decode cX5_put 40 = .ok (.lshr, 1) := by decide +kernel
theorem dX5_put_41 : decode cX5_put 41 = .ok (.lastore, 1) := by decide +kernel
theorem dX5_put_42 : decode cX5_put 42 = .ok (.aload_n 0, 1) := by decide +kernel
theorem dX5_put_43 : decode cX5_put 43 = .ok (.getfield 24, 3) := by decide +kernel
theorem dX5_put_46 : decode cX5_put 46 = .ok (.iload_n 1, 1) := by decide +kernel
theorem dX5_put_47 : decode cX5_put 47 = .ok (.laload, 1) := by decide +kernel
theorem dX5_put_48 : decode cX5_put 48 = .ok (.lreturn, 1) := by decide +kernel
def X5_put (m0 : Nat) (S0 : Rec) (x1 : Int32) (y2 : Int64) : Option (Int64 × Rec) :=
  if x1 < 0 then
    some ((-13 : Int64), S0)
  else
    if x1 < (Int32.ofNat m0) then
      aLet ((64 : Int32) - ((8 : Int32) <<< ((S0.1 0) &&& 31))) fun v3 =>
      (wrL (S0.2.2 1) m0 x1 ((y2 <<< (v3.toInt64 &&& 63)) >>> (v3.toInt64 &&& 63))).bind fun w4 =>
      (rdL ((sL S0 1 w4).2.2 1) m0 x1).bind fun v6 =>
      some (v6, (sL S0 1 w4))
    else
      some ((-13 : Int64), S0)
set_option maxRecDepth 100000 in
set_option maxHeartbeats 4000000 in
theorem X5_put_ok (l : Launch) {h : aH} {nx : Nat} {a0 : Nat} {m0 : Nat} {S0 : Rec} {x1 : Int32} {y2 : Int64} (hB0 : X5_at h a0 m0 S0) {r : Int64 × Rec} (hF : X5_put m0 S0 x1 y2 = some r) : aOk l 0 0 0 yX5_put cX5_put 5 (some .long) [.ref a0, .int x1, .long y2] h nx (aMt (some (.long r.1)) nx (fun h1 => X5_at h1 a0 m0 r.2 ∧ (∀ q, (q < a0 ∨ a0 + 2 ≤ q) → h1 q = h q))) := by
  refine aOk.of (by decide +kernel) (Nat.le_of_ble_eq_true rfl) (fun X G hX C R0 _ => ?_)
  subst hX
  show aV X G 5 0 [(0, .ref a0), (1, .int x1), (2, .long y2)] [] h nx 0 0
  have hFr : ∀ q, (q < a0 ∨ a0 + 2 ≤ q) → h q = h q := fun _ _ => rfl
  rw [X5_put] at hF
  refine ab_iload_n C 1 rfl rfl dX5_put_0 ?_
  refine ab_if_lt C 13 dX5_put_1 (by decide) (fun c1 => ?_) (fun c1 => ?_)
  · replace hF := (if_pos c1).symm.trans hF
    refine ab_ldc2 (v := (-13 : Int64)) C dX5_put_13 lq_X5_28 ?_
    obtain rfl := Option.some.inj hF
    exact ab_lret C R0 dX5_put_16 ⟨rfl, rfl, hB0, hFr⟩
  · replace hF := (if_neg c1).symm.trans hF
    refine ab_iload_n C 1 rfl rfl dX5_put_4 ?_
    refine ab_aload_n C 0 rfl rfl dX5_put_5 ?_
    refine ab_g5 (v := .ref (a0 + 1)) C lf_X5_24 hB0.1 rfl dX5_put_6 ?_
    refine ab_alen1 C (X5_r1 hB0) dX5_put_9 ?_
    refine ab_icmp_lt C 17 dX5_put_10 (by decide) (fun c2 => ?_) (fun c2 => ?_)
    · replace hF := (if_pos c2).symm.trans hF
      refine ab_bipush (v := (64 : Int32)) C dX5_put_17 (by decide) ?_
      refine ab_bipush (v := (8 : Int32)) C dX5_put_19 (by decide) ?_
      refine ab_aload_n C 0 rfl rfl dX5_put_21 ?_
      refine ab_g5 (v := .int (S0.1 0)) C lf_X5_9 hB0.1 rfl dX5_put_22 ?_
      refine ab_ishl C dX5_put_25 ?_
      refine ab_isub C dX5_put_26 ?_
      refine ab_topi (fun v3 qv3 => ?_)
      replace hF := aLet_e hF v3 qv3
      refine ab_istore (lv' := [(4, .int v3), (0, .ref a0), (1, .int x1), (2, .long y2)]) C dX5_put_27 (by decide) rfl ?_
      refine ab_aload_n C 1 rfl rfl dX5_put_29 ?_
      refine ab_g5 (v := .ref (a0 + 1)) C lf_X5_24 hB0.1 rfl dX5_put_30 ?_
      refine ab_iload_n C 2 rfl rfl dX5_put_33 ?_
      refine ab_lload_n C 3 rfl rfl dX5_put_34 ?_
      refine ab_iload C 0 rfl dX5_put_35 ?_
      refine ab_lshl C dX5_put_37 ?_
      refine ab_iload C 0 rfl dX5_put_38 ?_
      refine ab_lshr C dX5_put_40 ?_
      obtain ⟨w4, hxw4, hF⟩ := Option.bind_eq_some_iff.mp hF
      refine ab_last C (X5_r1 hB0) hxw4 dX5_put_41 (fun g5 eg5 og5 => ?_)
      have hB0 : X5_at g5 a0 m0 (sL S0 1 w4) := X5_w1 hB0 eg5 og5
      have hFr : ∀ q, (q < a0 ∨ a0 + 2 ≤ q) → g5 q = h q := fun q u0 => (og5 q (by omega)).trans (hFr q u0)
      refine ab_aload_n C 1 rfl rfl dX5_put_42 ?_
      refine ab_g5 (v := .ref (a0 + 1)) C lf_X5_24 hB0.1 rfl dX5_put_43 ?_
      refine ab_iload_n C 2 rfl rfl dX5_put_46 ?_
      obtain ⟨v6, hxv6, hF⟩ := Option.bind_eq_some_iff.mp hF
      refine ab_lald C (X5_r1 hB0) hxv6 dX5_put_47 ?_
      obtain rfl := Option.some.inj hF
      exact ab_lret C R0 dX5_put_48 ⟨rfl, rfl, hB0, hFr⟩
    · replace hF := (if_neg c2).symm.trans hF
      refine ab_ldc2 (v := (-13 : Int64)) C dX5_put_13 lq_X5_28 ?_
      obtain rfl := Option.some.inj hF
      exact ab_lret C R0 dX5_put_16 ⟨rfl, rfl, hB0, hFr⟩
theorem dX5_hasVowelsAlone_0 : decode cX5_hasVowelsAlone 0 = .ok (.iconst 0, 1) := by decide +kernel
theorem dX5_hasVowelsAlone_1 : decode cX5_hasVowelsAlone 1 = .ok (.istore_n 3, 1) := by decide +kernel
theorem dX5_hasVowelsAlone_2 : decode cX5_hasVowelsAlone 2 = .ok (.iload_n 3, 1) := by decide +kernel
theorem dX5_hasVowelsAlone_3 : decode cX5_hasVowelsAlone 3 = .ok (.iload_n 2, 1) := by decide +kernel
theorem dX5_hasVowelsAlone_4 : decode cX5_hasVowelsAlone 4 = .ok (.if_icmp .ge 21, 3) := by decide +kernel
theorem dX5_hasVowelsAlone_7 : decode cX5_hasVowelsAlone 7 = .ok (.aload_n 0, 1) := by decide +kernel
theorem dX5_hasVowelsAlone_8 : decode cX5_hasVowelsAlone 8 = .ok (.iload_n 1, 1) := by decide +kernel
theorem dX5_hasVowelsAlone_9 : decode cX5_hasVowelsAlone 9 = .ok (.iload_n 3, 1) := by decide +kernel
theorem dX5_hasVowelsAlone_10 : decode cX5_hasVowelsAlone 10 = .ok (.iadd, 1) := by decide +kernel
theorem dX5_hasVowelsAlone_11 : decode cX5_hasVowelsAlone 11 = .ok (.invokevirtual 32, 3) := by decide +kernel
theorem dX5_hasVowelsAlone_14 : decode cX5_hasVowelsAlone 14 = .ok (.ifCond .ge 5, 3) := by decide +kernel
theorem dX5_hasVowelsAlone_17 : decode cX5_hasVowelsAlone 17 = .ok (.iconst 0, 1) := by decide +kernel
theorem dX5_hasVowelsAlone_18 : decode cX5_hasVowelsAlone 18 = .ok (.ireturn, 1) := by decide +kernel
theorem dX5_hasVowelsAlone_19 : decode cX5_hasVowelsAlone 19 = .ok (.iinc 3 1, 3) := by decide +kernel
theorem dX5_hasVowelsAlone_22 : decode cX5_hasVowelsAlone 22 = .ok (.goto (-20), 3) := by decide +kernel
theorem dX5_hasVowelsAlone_25 : decode cX5_hasVowelsAlone 25 = .ok (.iconst 1, 1) := by decide +kernel
theorem dX5_hasVowelsAlone_26 : decode cX5_hasVowelsAlone 26 = .ok (.ireturn, 1) := by decide +kernel
def X5_hasVowelsAlone_L2 (x2 : Int32) (m0 : Nat) (S0 : Rec) (x1 : Int32) : Nat → Int32 → Option ((Int32) ⊕ (Unit))
  | 0, _ => none
  | n2 + 1, v1 => if x2 ≤ v1 then
      some (.inr ())
    else
      (X5_vowelAt m0 S0 (x1 + v1)).bind fun v3 =>
      if 0 ≤ v3 then
        aLet (v1 + (1 : Int32)) fun v5 =>
        X5_hasVowelsAlone_L2 x2 m0 S0 x1 n2 v5
      else
        some (.inl (0 : Int32))
def X5_hasVowelsAlone (m0 : Nat) (S0 : Rec) (x1 : Int32) (x2 : Int32) : Option (Int32) :=
  (X5_hasVowelsAlone_L2 x2 m0 S0 x1 aFu (0 : Int32)).bind fun e6 =>
  aCs e6 (fun t8 => some t8) (fun s7 =>
    some (1 : Int32))
set_option maxRecDepth 100000 in
set_option maxHeartbeats 4000000 in
theorem X5_hasVowelsAlone_ok (l : Launch) {h : aH} {nx : Nat} {a0 : Nat} {m0 : Nat} {S0 : Rec} {x1 : Int32} {x2 : Int32} (hB0 : X5_at h a0 m0 S0) {r : Int32} (hF : X5_hasVowelsAlone m0 S0 x1 x2 = some r) : aOk l 1 0 0 yX5_hasVowelsAlone cX5_hasVowelsAlone 4 (some .boolean) [.ref a0, .int x1, .int x2] h nx (aRd (.int r) h nx) := by
  refine aOk.of (by decide +kernel) (Nat.le_of_ble_eq_true rfl) (fun X G hX C R0 _ => ?_)
  subst hX
  show aV X G 4 0 [(0, .ref a0), (1, .int x1), (2, .int x2)] [] h nx 0 0
  rw [X5_hasVowelsAlone] at hF
  refine ab_iconst (v := (0 : Int32)) C dX5_hasVowelsAlone_0 (by decide) ?_
  refine ab_istore_n (lv' := [(3, .int (0 : Int32)), (0, .ref a0), (1, .int x1), (2, .int x2)]) C dX5_hasVowelsAlone_1 rfl (by decide) rfl ?_
  have L2 : ∀ (n2 : Nat) (v1 : Int32), ∀ (res2 : (Int32) ⊕ (Unit)), X5_hasVowelsAlone_L2 x2 m0 S0 x1 n2 v1 = some res2 → (∀ (s : Unit), res2 = .inr s → aV X G 4 25 [] [] h nx 0 0) → (∀ (t : Int32), res2 = .inl t → aRd (.int r) h nx (some (.int t)) h nx) → aV X G 4 2 [(0, .ref a0), (1, .int x1), (2, .int x2), (3, .int v1)] [] h nx 0 0 := by
    intro n2
    induction n2 with
    | zero => intro v1 res2 hF KX2 KR2; cases (show (none : Option ((Int32) ⊕ (Unit))) = some res2 from hF)
    | succ n2 ih2 =>
      intro v1 res2 hF KX2 KR2
      rw [X5_hasVowelsAlone_L2] at hF
      refine ab_iload_n C 3 rfl rfl dX5_hasVowelsAlone_2 ?_
      refine ab_iload_n C 2 rfl rfl dX5_hasVowelsAlone_3 ?_
      refine ab_icmp_ge C 25 dX5_hasVowelsAlone_4 (by decide) (fun c2 => ?_) (fun c2 => ?_)
      · replace hF := (if_pos c2).symm.trans hF
        obtain rfl := Option.some.inj hF
        refine aV.sub (lv' := []) [] rfl ?_
        exact KX2 () rfl
      · replace hF := (if_neg c2).symm.trans hF
        refine ab_aload_n C 0 rfl rfl dX5_hasVowelsAlone_7 ?_
        refine ab_iload_n C 1 rfl rfl dX5_hasVowelsAlone_8 ?_
        refine ab_iload_n C 3 rfl rfl dX5_hasVowelsAlone_9 ?_
        refine ab_iadd C dX5_hasVowelsAlone_10 ?_
        obtain ⟨v3, hxv3, hF⟩ := Option.bind_eq_some_iff.mp hF
        refine ab_cVR (v := .int v3) (st := []) C lm_X5_32 (X5_vowelAt_ok (xl X) hB0 (r := v3) hxv3) [.int (x1 + v1)] rfl hB0.1 rfl rfl rfl (by decide) ⟨Nat.zero_le _, Nat.zero_le _⟩ (Nat.le_of_ble_eq_true rfl) dX5_hasVowelsAlone_11 ?_
        refine ab_if_ge C 19 dX5_hasVowelsAlone_14 (by decide) (fun c4 => ?_) (fun c4 => ?_)
        · replace hF := (if_pos c4).symm.trans hF
          obtain ⟨v5, qv5⟩ : ∃ y : Int32, y = (v1 + (1 : Int32)) := ⟨_, rfl⟩
          replace hF := aLet_e hF v5 qv5
          refine ab_iinc (lv' := [(3, .int v5), (0, .ref a0), (1, .int x1), (2, .int x2)]) C 3 rfl dX5_hasVowelsAlone_19 (by rw [qv5]; rfl) (by decide) rfl ?_
          refine ab_goto C 2 dX5_hasVowelsAlone_22 (by decide) ?_
          refine aV.sub (lv' := [(0, .ref a0), (1, .int x1), (2, .int x2), (3, .int v5)]) [1, 2, 3, 0] rfl ?_
          exact ih2 v5 res2 hF KX2 KR2
        · replace hF := (if_neg c4).symm.trans hF
          refine ab_iconst (v := (0 : Int32)) C dX5_hasVowelsAlone_17 (by decide) ?_
          obtain rfl := Option.some.inj hF
          exact ab_iret C R0 rfl dX5_hasVowelsAlone_18 (KR2 (0 : Int32) rfl)
  refine aV.sub (lv' := [(0, .ref a0), (1, .int x1), (2, .int x2), (3, .int (0 : Int32))]) [1, 2, 3, 0] rfl ?_
  obtain ⟨e6, he6, hF⟩ := Option.bind_eq_some_iff.mp hF
  refine L2 aFu (0 : Int32) e6 he6 (fun s7 eqs7 => ?_) (fun t8 eqt8 => ?_)
  · subst eqs7
    replace hF := aCs_r hF
    refine ab_iconst (v := (1 : Int32)) C dX5_hasVowelsAlone_25 (by decide) ?_
    obtain rfl := Option.some.inj hF
    exact ab_iret C R0 rfl dX5_hasVowelsAlone_26 ⟨rfl, rfl, rfl⟩
  · subst eqt8
    replace hF := aCs_l hF
    obtain rfl := Option.some.inj hF
    exact ⟨rfl, rfl, rfl⟩
theorem dX6_inAll_0 : decode cX6_inAll 0 = .ok (.aload_n 0, 1) := by decide +kernel
theorem dX6_inAll_1 : decode cX6_inAll 1 = .ok (.getfield 15, 3) := by decide +kernel
theorem dX6_inAll_4 : decode cX6_inAll 4 = .ok (.ireturn, 1) := by decide +kernel
def X6_inAll (S0 : Rec) : Int32 :=
  (S0.1 1)
set_option maxRecDepth 100000 in
set_option maxHeartbeats 4000000 in
theorem X6_inAll_ok (l : Launch) {h : aH} {nx : Nat} {a0 : Nat} {S0 : Rec} (hB0 : X6_at h a0 S0) {r : Int32} (hF : X6_inAll S0 = r) : aOk l 0 0 0 yX6_inAll cX6_inAll 1 (some .int) [.ref a0] h nx (aRd (.int r) h nx) := by
  refine aOk.of (by decide +kernel) (Nat.le_of_ble_eq_true rfl) (fun X G hX C R0 _ => ?_)
  subst hX
  show aV X G 1 0 [(0, .ref a0)] [] h nx 0 0
  rw [X6_inAll] at hF
  refine ab_aload_n C 0 rfl rfl dX6_inAll_0 ?_
  refine ab_g6 (v := .int (S0.1 1)) C lf_X6_15 hB0.1 rfl dX6_inAll_1 ?_
  obtain rfl := hF
  exact ab_iret C R0 rfl dX6_inAll_4 ⟨rfl, rfl, rfl⟩
theorem dX6_fitting_0 : decode cX6_fitting 0 = .ok (.aload_n 0, 1) := by decide +kernel
theorem dX6_fitting_1 : decode cX6_fitting 1 = .ok (.getfield 19, 3) := by decide +kernel
theorem dX6_fitting_4 : decode cX6_fitting 4 = .ok (.ireturn, 1) := by decide +kernel
def X6_fitting (S0 : Rec) : Int32 :=
  (S0.1 2)
set_option maxRecDepth 100000 in
set_option maxHeartbeats 4000000 in
theorem X6_fitting_ok (l : Launch) {h : aH} {nx : Nat} {a0 : Nat} {S0 : Rec} (hB0 : X6_at h a0 S0) {r : Int32} (hF : X6_fitting S0 = r) : aOk l 0 0 0 yX6_fitting cX6_fitting 1 (some .int) [.ref a0] h nx (aRd (.int r) h nx) := by
  refine aOk.of (by decide +kernel) (Nat.le_of_ble_eq_true rfl) (fun X G hX C R0 _ => ?_)
  subst hX
  show aV X G 1 0 [(0, .ref a0)] [] h nx 0 0
  rw [X6_fitting] at hF
  refine ab_aload_n C 0 rfl rfl dX6_fitting_0 ?_
  refine ab_g6 (v := .int (S0.1 2)) C lf_X6_19 hB0.1 rfl dX6_fitting_1 ?_
  obtain rfl := hF
  exact ab_iret C R0 rfl dX6_fitting_4 ⟨rfl, rfl, rfl⟩
theorem dX6_mark_0 : decode cX6_mark 0 = .ok (.lload_n 1, 1) := by decide +kernel
theorem dX6_mark_1 : decode cX6_mark 1 = .ok (.lstore_n 3, 1) := by decide +kernel
theorem dX6_mark_2 : decode cX6_mark 2 = .ok (.lload_n 1, 1) := by decide +kernel
theorem dX6_mark_3 : decode cX6_mark 3 = .ok (.invokestatic 48, 3) := by decide +kernel
theorem dX6_mark_6 : decode cX6_mark 6 = .ok (.istore 5, 2) := by decide +kernel
theorem dX6_mark_8 : decode cX6_mark 8 = .ok (.iload 5, 2) := by decide +kernel
theorem dX6_mark_10 : decode cX6_mark 10 = .ok (.ifCond .le 39, 3) := by decide +kernel
theorem dX6_mark_13 : decode cX6_mark 13 = .ok (.lload_n 3, 1) := by decide +kernel
theorem dX6_mark_14 : decode cX6_mark 14 = .ok (.invokestatic 54, 3) := by decide +kernel
theorem dX6_mark_17 : decode cX6_mark 17 = .ok (.istore 6, 2) := by decide +kernel
theorem dX6_mark_19 : decode cX6_mark 19 = .ok (.iload 6, 2) := by decide +kernel
theorem dX6_mark_21 : decode cX6_mark 21 = .ok (.bipush 64, 2) := by decide +kernel
theorem dX6_mark_23 : decode cX6_mark 23 = .ok (.if_icmp .ge 14, 3) := by decide +kernel
theorem dX6_mark_26 : decode cX6_mark 26 = .ok (.aload_n 0, 1) := by decide +kernel
theorem dX6_mark_27 : decode cX6_mark 27 = .ok (.getfield 9, 3) := by decide +kernel
theorem dX6_mark_30 : decode cX6_mark 30 = .ok (.iload 6, 2) := by decide +kernel
theorem dX6_mark_32 : decode cX6_mark 32 = .ok (.dup2, 1) := by decide +kernel
theorem dX6_mark_33 : decode cX6_mark 33 = .ok (.iaload, 1) := by decide +kernel
theorem dX6_mark_34 : decode cX6_mark 34 = .ok (.iconst 1, 1) := by decide +kernel
theorem dX6_mark_35 : decode cX6_mark 35 = .ok (.iadd, 1) := by decide +kernel
theorem dX6_mark_36 : decode cX6_mark 36 = .ok (.iastore, 1) := by decide +kernel
theorem dX6_mark_37 : decode cX6_mark 37 = .ok (.lload_n 3, 1) := by decide +kernel
theorem dX6_mark_38 : decode cX6_mark 38 = .ok (.lload_n 3, 1) := by decide +kernel
theorem dX6_mark_39 : decode cX6_mark 39 = .ok (.lconst 1, 1) := by decide +kernel
theorem dX6_mark_40 : decode cX6_mark 40 = .ok (.lsub, 1) := by decide +kernel
theorem dX6_mark_41 : decode cX6_mark 41 = .ok (.land, 1) := by decide +kernel
theorem dX6_mark_42 : decode cX6_mark 42 = .ok (.lstore_n 3, 1) := by decide +kernel
theorem dX6_mark_43 : decode cX6_mark 43 = .ok (.iinc 5 (-1), 3) := by decide +kernel
theorem dX6_mark_46 : decode cX6_mark 46 = .ok (.goto (-38), 3) := by decide +kernel
theorem dX6_mark_49 : decode cX6_mark 49 = .ok (.return_, 1) := by decide +kernel
def X6_mark_L8 : Nat → Int64 → Int32 → Rec → Option (Rec)
  | 0, _, _, _ => none
  | n8 + 1, v2, v3, Z4 => if v3 ≤ 0 then
      some Z4
    else
      aLet (X8_leastCell v2) fun v7 =>
      if (64 : Int32) ≤ v7 then
        aLet (v2 &&& (v2 - (1 : Int64))) fun v9 =>
        aLet (v3 + (-1 : Int32)) fun v10 =>
        X6_mark_L8 n8 v9 v10 Z4
      else
        (rdI (Z4.2.1 0) 64 v7).bind fun v11 =>
        (wrI (Z4.2.1 0) 64 v7 (v11 + (1 : Int32))).bind fun w12 =>
        aLet (v2 &&& (v2 - (1 : Int64))) fun v14 =>
        aLet (v3 + (-1 : Int32)) fun v15 =>
        X6_mark_L8 n8 v14 v15 (sA Z4 0 w12)
def X6_mark (S0 : Rec) (y1 : Int64) : Option (Rec) :=
  aLet (J13_bitCount_95d88 y1) fun v1 =>
  (X6_mark_L8 aFu y1 v1 S0).bind fun e16 =>
  some e16
set_option maxRecDepth 100000 in
set_option maxHeartbeats 4000000 in
theorem X6_mark_ok (l : Launch) {h : aH} {nx : Nat} {a0 : Nat} {S0 : Rec} {y1 : Int64} (hB0 : X6_at h a0 S0) {r : Rec} (hF : X6_mark S0 y1 = some r) : aOk l 2 0 0 yX6_mark cX6_mark 7 none [.ref a0, .long y1] h nx (aMt none nx (fun h1 => X6_at h1 a0 r ∧ (∀ q, (q < a0 ∨ a0 + 2 ≤ q) → h1 q = h q))) := by
  refine aOk.of (by decide +kernel) (Nat.le_of_ble_eq_true rfl) (fun X G hX C R0 _ => ?_)
  subst hX
  show aV X G 7 0 [(0, .ref a0), (1, .long y1)] [] h nx 0 0
  have hFr : ∀ q, (q < a0 ∨ a0 + 2 ≤ q) → h q = h q := fun _ _ => rfl
  rw [X6_mark] at hF
  refine ab_lload_n C 1 rfl rfl dX6_mark_0 ?_
  refine ab_lstore_n (lv' := [(3, .long y1), (0, .ref a0), (1, .long y1)]) C dX6_mark_1 rfl ⟨by decide, by decide⟩ rfl ?_
  refine ab_lload_n C 2 rfl rfl dX6_mark_2 ?_
  refine ab_cSR (v := .int (J13_bitCount_95d88 y1)) (st := []) C lm_X6_48 (J13_bitCount_95d88_ok (xl X) (r := (J13_bitCount_95d88 y1)) rfl) rfl rfl (by decide) ⟨Nat.zero_le _, Nat.zero_le _⟩ (Nat.le_of_ble_eq_true rfl) dX6_mark_3 ?_
  refine ab_topi (fun v1 qv1 => ?_)
  replace hF := aLet_e hF v1 qv1
  refine ab_istore (lv' := [(5, .int v1), (3, .long y1), (0, .ref a0), (1, .long y1)]) C dX6_mark_6 (by decide) rfl ?_
  have L8 : ∀ (n8 : Nat) (v2 : Int64) (v3 : Int32) (Z4 : Rec) (g5 : aH), (X6_at g5 a0 Z4) → (∀ q, (q < a0 ∨ a0 + 2 ≤ q) → g5 q = h q) → ∀ (res8 : Rec), X6_mark_L8 n8 v2 v3 Z4 = some res8 → (∀ (q9 : aH), (X6_at q9 a0 res8) → (∀ q, (q < a0 ∨ a0 + 2 ≤ q) → q9 q = h q) → aV X G 7 49 [] [] q9 nx 0 0) → aV X G 7 8 [(0, .ref a0), (3, .long v2), (5, .int v3)] [] g5 nx 0 0 := by
    intro n8
    induction n8 with
    | zero => intro v2 v3 Z4 g5 hB0 hFr res8 hF KX8; cases (show (none : Option (Rec)) = some res8 from hF)
    | succ n8 ih8 =>
      intro v2 v3 Z4 g5 hB0 hFr res8 hF KX8
      rw [X6_mark_L8] at hF
      refine ab_iload C 2 rfl dX6_mark_8 ?_
      refine ab_if_le C 49 dX6_mark_10 (by decide) (fun c6 => ?_) (fun c6 => ?_)
      · replace hF := (if_pos c6).symm.trans hF
        obtain rfl := Option.some.inj hF
        refine aV.sub (lv' := []) [] rfl ?_
        exact KX8 g5 hB0 hFr
      · replace hF := (if_neg c6).symm.trans hF
        refine ab_lload_n C 1 rfl rfl dX6_mark_13 ?_
        refine ab_cSR (v := .int (X8_leastCell v2)) (st := []) C lm_X6_54 (X8_leastCell_ok (xl X) (r := (X8_leastCell v2)) rfl) rfl rfl (by decide) ⟨Nat.zero_le _, Nat.zero_le _⟩ (Nat.le_of_ble_eq_true rfl) dX6_mark_14 ?_
        refine ab_topi (fun v7 qv7 => ?_)
        replace hF := aLet_e hF v7 qv7
        refine ab_istore (lv' := [(6, .int v7), (0, .ref a0), (3, .long v2), (5, .int v3)]) C dX6_mark_17 (by decide) rfl ?_
        refine ab_iload C 0 rfl dX6_mark_19 ?_
        refine ab_bipush (v := (64 : Int32)) C dX6_mark_21 (by decide) ?_
        refine ab_icmp_ge C 37 dX6_mark_23 (by decide) (fun c8 => ?_) (fun c8 => ?_)
        · replace hF := (if_pos c8).symm.trans hF
          refine ab_lload_n C 2 rfl rfl dX6_mark_37 ?_
          refine ab_lload_n C 2 rfl rfl dX6_mark_38 ?_
          refine ab_lconst (v := (1 : Int64)) C dX6_mark_39 (by decide) ?_
          refine ab_lsub C dX6_mark_40 ?_
          refine ab_land C dX6_mark_41 ?_
          refine ab_topl (fun v9 qv9 => ?_)
          replace hF := aLet_e hF v9 qv9
          refine ab_lstore_n (lv' := [(3, .long v9), (6, .int v7), (0, .ref a0), (5, .int v3)]) C dX6_mark_42 rfl ⟨by decide, by decide⟩ rfl ?_
          obtain ⟨v10, qv10⟩ : ∃ y : Int32, y = (v3 + (-1 : Int32)) := ⟨_, rfl⟩
          replace hF := aLet_e hF v10 qv10
          refine ab_iinc (lv' := [(5, .int v10), (3, .long v9), (6, .int v7), (0, .ref a0)]) C 3 rfl dX6_mark_43 (by rw [qv10]; rfl) (by decide) rfl ?_
          refine ab_goto C 8 dX6_mark_46 (by decide) ?_
          refine aV.sub (lv' := [(0, .ref a0), (3, .long v9), (5, .int v10)]) [3, 1, 0] rfl ?_
          exact ih8 v9 v10 Z4 g5 hB0 hFr res8 hF KX8
        · replace hF := (if_neg c8).symm.trans hF
          refine ab_aload_n C 1 rfl rfl dX6_mark_26 ?_
          refine ab_g6 (v := .ref (a0 + 1)) C lf_X6_9 hB0.1 rfl dX6_mark_27 ?_
          refine ab_iload C 0 rfl dX6_mark_30 ?_
          refine ab_dup2_11 C rfl rfl dX6_mark_32 ?_
          obtain ⟨v11, hxv11, hF⟩ := Option.bind_eq_some_iff.mp hF
          refine ab_iald C (X6_r0 hB0) hxv11 dX6_mark_33 ?_
          refine ab_iconst (v := (1 : Int32)) C dX6_mark_34 (by decide) ?_
          refine ab_iadd C dX6_mark_35 ?_
          obtain ⟨w12, hxw12, hF⟩ := Option.bind_eq_some_iff.mp hF
          refine ab_iast C (X6_r0 hB0) hxw12 dX6_mark_36 (fun g13 eg13 og13 => ?_)
          have hB0 : X6_at g13 a0 (sA Z4 0 w12) := X6_w0 hB0 eg13 og13
          have hFr : ∀ q, (q < a0 ∨ a0 + 2 ≤ q) → g13 q = h q := fun q u0 => (og13 q (by omega)).trans (hFr q u0)
          refine ab_lload_n C 2 rfl rfl dX6_mark_37 ?_
          refine ab_lload_n C 2 rfl rfl dX6_mark_38 ?_
          refine ab_lconst (v := (1 : Int64)) C dX6_mark_39 (by decide) ?_
          refine ab_lsub C dX6_mark_40 ?_
          refine ab_land C dX6_mark_41 ?_
          refine ab_topl (fun v14 qv14 => ?_)
          replace hF := aLet_e hF v14 qv14
          refine ab_lstore_n (lv' := [(3, .long v14), (6, .int v7), (0, .ref a0), (5, .int v3)]) C dX6_mark_42 rfl ⟨by decide, by decide⟩ rfl ?_
          obtain ⟨v15, qv15⟩ : ∃ y : Int32, y = (v3 + (-1 : Int32)) := ⟨_, rfl⟩
          replace hF := aLet_e hF v15 qv15
          refine ab_iinc (lv' := [(5, .int v15), (3, .long v14), (6, .int v7), (0, .ref a0)]) C 3 rfl dX6_mark_43 (by rw [qv15]; rfl) (by decide) rfl ?_
          refine ab_goto C 8 dX6_mark_46 (by decide) ?_
          refine aV.sub (lv' := [(0, .ref a0), (3, .long v14), (5, .int v15)]) [3, 1, 0] rfl ?_
          exact ih8 v14 v15 (sA Z4 0 w12) g13 hB0 hFr res8 hF KX8
  refine aV.sub (lv' := [(0, .ref a0), (3, .long y1), (5, .int v1)]) [2, 1, 0] rfl ?_
  obtain ⟨e16, he16, hF⟩ := Option.bind_eq_some_iff.mp hF
  refine L8 aFu y1 v1 S0 h hB0 hFr e16 he16 (fun g17 hB0 hFr => ?_)
  obtain rfl := Option.some.inj hF
  exact ab_vret C R0 dX6_mark_49 ⟨rfl, rfl, hB0, hFr⟩
theorem dX6_ask_0 : decode cX6_ask 0 = .ok (.aload_n 0, 1) := by decide +kernel
theorem dX6_ask_1 : decode cX6_ask 1 = .ok (.iconst 0, 1) := by decide +kernel
theorem dX6_ask_2 : decode cX6_ask 2 = .ok (.putfield 19, 3) := by decide +kernel
theorem dX6_ask_5 : decode cX6_ask 5 = .ok (.iconst 0, 1) := by decide +kernel
theorem dX6_ask_6 : decode cX6_ask 6 = .ok (.istore 6, 2) := by decide +kernel
theorem dX6_ask_8 : decode cX6_ask 8 = .ok (.iload 6, 2) := by decide +kernel
theorem dX6_ask_10 : decode cX6_ask 10 = .ok (.bipush 64, 2) := by decide +kernel
theorem dX6_ask_12 : decode cX6_ask 12 = .ok (.if_icmp .ge 17, 3) := by decide +kernel
theorem dX6_ask_15 : decode cX6_ask 15 = .ok (.aload_n 0, 1) := by decide +kernel
theorem dX6_ask_16 : decode cX6_ask 16 = .ok (.getfield 9, 3) := by decide +kernel
theorem dX6_ask_19 : decode cX6_ask 19 = .ok (.iload 6, 2) := by decide +kernel
theorem dX6_ask_21 : decode cX6_ask 21 = .ok (.iconst 0, 1) := by decide +kernel
theorem dX6_ask_22 : decode cX6_ask 22 = .ok (.iastore, 1) := by decide +kernel
theorem dX6_ask_23 : decode cX6_ask 23 = .ok (.iinc 6 1, 3) := by decide +kernel
theorem dX6_ask_26 : decode cX6_ask 26 = .ok (.goto (-18), 3) := by decide +kernel
theorem dX6_ask_29 : decode cX6_ask 29 = .ok (.aload_n 0, 1) := by decide +kernel
theorem dX6_ask_30 : decode cX6_ask 30 = .ok (.aload_n 3, 1) := by decide +kernel
theorem dX6_ask_31 : decode cX6_ask 31 = .ok (.aload_n 1, 1) := by decide +kernel
theorem dX6_ask_32 : decode cX6_ask 32 = .ok (.invokevirtual 22, 3) := by decide +kernel
theorem dX6_ask_35 : decode cX6_ask 35 = .ok (.iload 4, 2) := by decide +kernel
theorem dX6_ask_37 : decode cX6_ask 37 = .ok (.invokevirtual 28, 3) := by decide +kernel
theorem dX6_ask_40 : decode cX6_ask 40 = .ok (.putfield 15, 3) := by decide +kernel
theorem dX6_ask_43 : decode cX6_ask 43 = .ok (.aload_n 0, 1) := by decide +kernel
theorem dX6_ask_44 : decode cX6_ask 44 = .ok (.getfield 15, 3) := by decide +kernel
theorem dX6_ask_47 : decode cX6_ask 47 = .ok (.istore 6, 2) := by decide +kernel
theorem dX6_ask_49 : decode cX6_ask 49 = .ok (.iload 6, 2) := by decide +kernel
theorem dX6_ask_51 : decode cX6_ask 51 = .ok (.ifCond .le 47, 3) := by decide +kernel
theorem dX6_ask_54 : decode cX6_ask 54 = .ok (.aload_n 3, 1) := by decide +kernel
theorem dX6_ask_55 : decode cX6_ask 55 = .ok (.invokevirtual 34, 3) := by decide +kernel
theorem dX6_ask_58 : decode cX6_ask 58 = .ok (.lstore 7, 2) := by decide +kernel
theorem dX6_ask_60 : decode cX6_ask 60 = .ok (.aload_n 1, 1) := by decide +kernel
theorem dX6_ask_61 : decode cX6_ask 61 = .ok (.iload_n 2, 1) := by decide +kernel
theorem dX6_ask_62 : decode cX6_ask 62 = .ok (.lload 7, 2) := by decide +kernel
theorem dX6_ask_64 : decode cX6_ask 64 = .ok (.invokevirtual 37, 3) := by decide +kernel
theorem dX6_ask_67 : decode cX6_ask 67 = .ok (.iload 5, 2) := by decide +kernel
theorem dX6_ask_69 : decode cX6_ask 69 = .ok (.if_icmp .ne 19, 3) := by decide +kernel
theorem dX6_ask_72 : decode cX6_ask 72 = .ok (.aload_n 0, 1) := by decide +kernel
theorem dX6_ask_73 : decode cX6_ask 73 = .ok (.dup, 1) := by decide +kernel
theorem dX6_ask_74 : decode cX6_ask 74 = .ok (.getfield 19, 3) := by decide +kernel
theorem dX6_ask_77 : decode cX6_ask 77 = .ok (.iconst 1, 1) := by decide +kernel
theorem dX6_ask_78 : decode cX6_ask 78 = .ok (.iadd, 1) := by decide +kernel
theorem dX6_ask_79 : decode cX6_ask 79 = .ok (.putfield 19, 3) := by decide +kernel
theorem dX6_ask_82 : decode cX6_ask 82 = .ok (.aload_n 0, 1) := by decide +kernel
theorem dX6_ask_83 : decode cX6_ask 83 = .ok (.lload 7, 2) := by decide +kernel
theorem dX6_ask_85 : decode cX6_ask 85 = .ok (.invokevirtual 41, 3) := by decide +kernel
theorem dX6_ask_88 : decode cX6_ask 88 = .ok (.aload_n 3, 1) := by decide +kernel
theorem dX6_ask_89 : decode cX6_ask 89 = .ok (.invokevirtual 45, 3) := by decide +kernel
theorem dX6_ask_92 : decode cX6_ask 92 = .ok (.iinc 6 (-1), 3) := by decide +kernel
theorem dX6_ask_95 : decode cX6_ask 95 = .ok (.goto (-46), 3) := by decide +kernel
theorem dX6_ask_98 : decode cX6_ask 98 = .ok (.return_, 1) := by decide +kernel
def X6_ask_L8 : Nat → Int32 → Rec → Option (Rec)
  | 0, _, _ => none
  | n8 + 1, v2, Z3 => if (64 : Int32) ≤ v2 then
      some Z3
    else
      (wrI (Z3.2.1 0) 64 v2 (0 : Int32)).bind fun w6 =>
      aLet (v2 + (1 : Int32)) fun v8 =>
      X6_ask_L8 n8 v8 (sA Z3 0 w6)
def X6_ask_J88 (Z18 : Rec) (v16 : Int32) (k49 : Int32 → Rec → Rec → Option (Rec × Rec)) (Z23 : Rec) : Option (Rec × Rec) :=
  (X0_advance Z18).bind fun v25 =>
  aLet (v16 + (-1 : Int32)) fun v27 =>
  k49 v27 Z23 v25
def X6_ask_L49 (S1 : Rec) (x2 : Int32) (x5 : Int32) : Nat → Int32 → Rec → Rec → Option (Rec × Rec)
  | 0, _, _, _ => none
  | n49 + 1, v16, Z17, Z18 => if v16 ≤ 0 then
      some (Z17, Z18)
    else
      (X0_current Z18).bind fun v21 =>
      (X2_speechBy S1 x2 v21).bind fun v22 =>
      if v22 = x5 then
        (X6_mark (sI Z17 2 ((Z17.1 2) + (1 : Int32))) v21).bind fun v30 =>
        X6_ask_J88 Z18 v16 (X6_ask_L49 S1 x2 x5 n49) v30
      else
        X6_ask_J88 Z18 v16 (X6_ask_L49 S1 x2 x5 n49) Z17
def X6_ask (S0 : Rec) (S1 : Rec) (S3 : Rec) (x2 : Int32) (x4 : Int32) (x5 : Int32) : Option (Rec × Rec) :=
  (X6_ask_L8 aFu (0 : Int32) (sI S0 2 (0 : Int32))).bind fun e9 =>
  (X2_everyCell S1).bind fun v11 =>
  (X0_begin S3 v11 x4).bind fun v12 =>
  aLet ((sI e9 1 v12.1).1 1) fun v15 =>
  (X6_ask_L49 S1 x2 x5 aFu v15 (sI e9 1 v12.1) v12.2).bind fun e32 =>
  some (e32.1, e32.2)
set_option maxRecDepth 100000 in
set_option maxHeartbeats 4000000 in
theorem X6_ask_ok (l : Launch) {h : aH} {nx : Nat} {a0 : Nat} {a1 : Nat} {a3 : Nat} {S0 : Rec} {S1 : Rec} {S3 : Rec} {x2 : Int32} {x4 : Int32} {x5 : Int32} (hB0 : X6_at h a0 S0) (hB1 : X2_at h a1 S1) (hB3 : X0_at h a3 S3) (hs01 : a0 + 2 ≤ a1 ∨ a1 + 8 ≤ a0) (hs03 : a0 + 2 ≤ a3 ∨ a3 + 3 ≤ a0) (hs13 : a1 + 8 ≤ a3 ∨ a3 + 3 ≤ a1) {r : Rec × Rec} (hF : X6_ask S0 S1 S3 x2 x4 x5 = some r) : aOk l 4 0 0 yX6_ask cX6_ask 9 none [.ref a0, .ref a1, .int x2, .ref a3, .int x4, .int x5] h nx (aMt none nx (fun h1 => X6_at h1 a0 r.1 ∧ X0_at h1 a3 r.2 ∧ (∀ q, (q < a0 ∨ a0 + 2 ≤ q) → (q < a3 ∨ a3 + 3 ≤ q) → h1 q = h q))) := by
  refine aOk.of (by decide +kernel) (Nat.le_of_ble_eq_true rfl) (fun X G hX C R0 _ => ?_)
  subst hX
  show aV X G 9 0 [(0, .ref a0), (1, .ref a1), (2, .int x2), (3, .ref a3), (4, .int x4), (5, .int x5)] [] h nx 0 0
  have hFr : ∀ q, (q < a0 ∨ a0 + 2 ≤ q) → (q < a3 ∨ a3 + 3 ≤ q) → h q = h q := fun _ _ _ => rfl
  rw [X6_ask] at hF
  refine ab_aload_n C 0 rfl rfl dX6_ask_0 ?_
  refine ab_iconst (v := (0 : Int32)) C dX6_ask_1 (by decide) ?_
  refine ab_p6 (ty := .int) C lf_X6_19 rfl (by decide +kernel) rfl rfl (Nat.le_of_ble_eq_true rfl) hB0.1 dX6_ask_2 (fun g1 eg1 og1 => ?_)
  have hB0 : X6_at g1 a0 (sI S0 2 (0 : Int32)) := X6_p2 hB0 eg1 og1
  have hB1 : X2_at g1 a1 S1 := X2_off hB1 (fun q i1 i2 => og1 q (by omega))
  have hB3 : X0_at g1 a3 S3 := X0_off hB3 (fun q i1 i2 => og1 q (by omega))
  have hFr : ∀ q, (q < a0 ∨ a0 + 2 ≤ q) → (q < a3 ∨ a3 + 3 ≤ q) → g1 q = h q := fun q u0 u1 => (og1 q (by omega)).trans (hFr q u0 u1)
  refine ab_iconst (v := (0 : Int32)) C dX6_ask_5 (by decide) ?_
  refine ab_istore (lv' := [(6, .int (0 : Int32)), (0, .ref a0), (1, .ref a1), (2, .int x2), (3, .ref a3), (4, .int x4), (5, .int x5)]) C dX6_ask_6 (by decide) rfl ?_
  have L8 : ∀ (n8 : Nat) (v2 : Int32) (Z3 : Rec) (g4 : aH), (X6_at g4 a0 Z3) → (X2_at g4 a1 S1) → (X0_at g4 a3 S3) → (∀ q, (q < a0 ∨ a0 + 2 ≤ q) → (q < a3 ∨ a3 + 3 ≤ q) → g4 q = h q) → ∀ (res8 : Rec), X6_ask_L8 n8 v2 Z3 = some res8 → (∀ (q9 : aH), (X6_at q9 a0 res8) → (X2_at q9 a1 S1) → (X0_at q9 a3 S3) → (∀ q, (q < a0 ∨ a0 + 2 ≤ q) → (q < a3 ∨ a3 + 3 ≤ q) → q9 q = h q) → aV X G 9 29 [(0, .ref a0), (1, .ref a1), (2, .int x2), (3, .ref a3), (4, .int x4), (5, .int x5)] [] q9 nx 0 0) → aV X G 9 8 [(0, .ref a0), (1, .ref a1), (2, .int x2), (3, .ref a3), (4, .int x4), (5, .int x5), (6, .int v2)] [] g4 nx 0 0 := by
    intro n8
    induction n8 with
    | zero => intro v2 Z3 g4 hB0 hB1 hB3 hFr res8 hF KX8; cases (show (none : Option (Rec)) = some res8 from hF)
    | succ n8 ih8 =>
      intro v2 Z3 g4 hB0 hB1 hB3 hFr res8 hF KX8
      rw [X6_ask_L8] at hF
      refine ab_iload C 6 rfl dX6_ask_8 ?_
      refine ab_bipush (v := (64 : Int32)) C dX6_ask_10 (by decide) ?_
      refine ab_icmp_ge C 29 dX6_ask_12 (by decide) (fun c5 => ?_) (fun c5 => ?_)
      · replace hF := (if_pos c5).symm.trans hF
        obtain rfl := Option.some.inj hF
        refine aV.sub (lv' := [(0, .ref a0), (1, .ref a1), (2, .int x2), (3, .ref a3), (4, .int x4), (5, .int x5)]) [0, 1, 2, 3, 4, 5] rfl ?_
        exact KX8 g4 hB0 hB1 hB3 hFr
      · replace hF := (if_neg c5).symm.trans hF
        refine ab_aload_n C 0 rfl rfl dX6_ask_15 ?_
        refine ab_g6 (v := .ref (a0 + 1)) C lf_X6_9 hB0.1 rfl dX6_ask_16 ?_
        refine ab_iload C 6 rfl dX6_ask_19 ?_
        refine ab_iconst (v := (0 : Int32)) C dX6_ask_21 (by decide) ?_
        obtain ⟨w6, hxw6, hF⟩ := Option.bind_eq_some_iff.mp hF
        refine ab_iast C (X6_r0 hB0) hxw6 dX6_ask_22 (fun g7 eg7 og7 => ?_)
        have hB0 : X6_at g7 a0 (sA Z3 0 w6) := X6_w0 hB0 eg7 og7
        have hB1 : X2_at g7 a1 S1 := X2_off hB1 (fun q i1 i2 => og7 q (by omega))
        have hB3 : X0_at g7 a3 S3 := X0_off hB3 (fun q i1 i2 => og7 q (by omega))
        have hFr : ∀ q, (q < a0 ∨ a0 + 2 ≤ q) → (q < a3 ∨ a3 + 3 ≤ q) → g7 q = h q := fun q u0 u1 => (og7 q (by omega)).trans (hFr q u0 u1)
        obtain ⟨v8, qv8⟩ : ∃ y : Int32, y = (v2 + (1 : Int32)) := ⟨_, rfl⟩
        replace hF := aLet_e hF v8 qv8
        refine ab_iinc (lv' := [(6, .int v8), (0, .ref a0), (1, .ref a1), (2, .int x2), (3, .ref a3), (4, .int x4), (5, .int x5)]) C 6 rfl dX6_ask_23 (by rw [qv8]; rfl) (by decide) rfl ?_
        refine ab_goto C 8 dX6_ask_26 (by decide) ?_
        refine aV.sub (lv' := [(0, .ref a0), (1, .ref a1), (2, .int x2), (3, .ref a3), (4, .int x4), (5, .int x5), (6, .int v8)]) [1, 2, 3, 4, 5, 6, 0] rfl ?_
        exact ih8 v8 (sA Z3 0 w6) g7 hB0 hB1 hB3 hFr res8 hF KX8
  refine aV.sub (lv' := [(0, .ref a0), (1, .ref a1), (2, .int x2), (3, .ref a3), (4, .int x4), (5, .int x5), (6, .int (0 : Int32))]) [1, 2, 3, 4, 5, 6, 0] rfl ?_
  obtain ⟨e9, he9, hF⟩ := Option.bind_eq_some_iff.mp hF
  refine L8 aFu (0 : Int32) (sI S0 2 (0 : Int32)) g1 hB0 hB1 hB3 hFr e9 he9 (fun g10 hB0 hB1 hB3 hFr => ?_)
  refine ab_aload_n C 0 rfl rfl dX6_ask_29 ?_
  refine ab_aload_n C 3 rfl rfl dX6_ask_30 ?_
  refine ab_aload_n C 1 rfl rfl dX6_ask_31 ?_
  obtain ⟨v11, hxv11, hF⟩ := Option.bind_eq_some_iff.mp hF
  refine ab_cVR (v := .long v11) (st := [.ref a3, .ref a0]) C lm_X6_22 (X2_everyCell_ok (xl X) hB1 (r := v11) hxv11) [] rfl hB1.1 rfl rfl rfl (by decide) ⟨Nat.zero_le _, Nat.zero_le _⟩ (Nat.le_of_ble_eq_true rfl) dX6_ask_32 ?_
  refine ab_iload C 4 rfl dX6_ask_35 ?_
  obtain ⟨v12, hxv12, hF⟩ := Option.bind_eq_some_iff.mp hF
  refine ab_cVM (v := .int v12.1) (st := [.ref a0]) C lm_X6_28 (X0_begin_ok (xl X) hB3 (r := v12) hxv12) [.long v11, .int x4] rfl hB3.1 rfl rfl rfl (by decide) ⟨Nat.zero_le _, Nat.zero_le _⟩ (Nat.le_of_ble_eq_true rfl) dX6_ask_37 (fun g13 pg13 => ?_)
  obtain ⟨k0, Og13⟩ := pg13
  have hB3 : X0_at g13 a3 v12.2 := k0
  have hB0 : X6_at g13 a0 e9 := X6_off hB0 (fun q i1 i2 => Og13 q (by omega))
  have hB1 : X2_at g13 a1 S1 := X2_off hB1 (fun q i1 i2 => Og13 q (by omega))
  have hFr : ∀ q, (q < a0 ∨ a0 + 2 ≤ q) → (q < a3 ∨ a3 + 3 ≤ q) → g13 q = h q := fun q u0 u1 => (Og13 q (by omega)).trans (hFr q u0 u1)
  refine ab_p6 (ty := .int) C lf_X6_15 rfl (by decide +kernel) rfl rfl (Nat.le_of_ble_eq_true rfl) hB0.1 dX6_ask_40 (fun g14 eg14 og14 => ?_)
  have hB0 : X6_at g14 a0 (sI e9 1 v12.1) := X6_p1 hB0 eg14 og14
  have hB1 : X2_at g14 a1 S1 := X2_off hB1 (fun q i1 i2 => og14 q (by omega))
  have hB3 : X0_at g14 a3 v12.2 := X0_off hB3 (fun q i1 i2 => og14 q (by omega))
  have hFr : ∀ q, (q < a0 ∨ a0 + 2 ≤ q) → (q < a3 ∨ a3 + 3 ≤ q) → g14 q = h q := fun q u0 u1 => (og14 q (by omega)).trans (hFr q u0 u1)
  refine ab_aload_n C 0 rfl rfl dX6_ask_43 ?_
  refine ab_g6 (v := .int ((sI e9 1 v12.1).1 1)) C lf_X6_15 hB0.1 rfl dX6_ask_44 ?_
  refine ab_topi (fun v15 qv15 => ?_)
  replace hF := aLet_e hF v15 qv15
  refine ab_istore (lv' := [(6, .int v15), (0, .ref a0), (1, .ref a1), (2, .int x2), (3, .ref a3), (4, .int x4), (5, .int x5)]) C dX6_ask_47 (by decide) rfl ?_
  have L49 : ∀ (n49 : Nat) (v16 : Int32) (Z17 : Rec) (Z18 : Rec) (g19 : aH), (X6_at g19 a0 Z17) → (X2_at g19 a1 S1) → (X0_at g19 a3 Z18) → (∀ q, (q < a0 ∨ a0 + 2 ≤ q) → (q < a3 ∨ a3 + 3 ≤ q) → g19 q = h q) → ∀ (res49 : Rec × Rec), X6_ask_L49 S1 x2 x5 n49 v16 Z17 Z18 = some res49 → (∀ (q9 : aH), (X6_at q9 a0 res49.1) → (X2_at q9 a1 S1) → (X0_at q9 a3 res49.2) → (∀ q, (q < a0 ∨ a0 + 2 ≤ q) → (q < a3 ∨ a3 + 3 ≤ q) → q9 q = h q) → aV X G 9 98 [] [] q9 nx 0 0) → aV X G 9 49 [(0, .ref a0), (1, .ref a1), (2, .int x2), (3, .ref a3), (5, .int x5), (6, .int v16)] [] g19 nx 0 0 := by
    intro n49
    induction n49 with
    | zero => intro v16 Z17 Z18 g19 hB0 hB1 hB3 hFr res49 hF KX49; cases (show (none : Option (Rec × Rec)) = some res49 from hF)
    | succ n49 ih49 =>
      intro v16 Z17 Z18 g19 hB0 hB1 hB3 hFr res49 hF KX49
      rw [X6_ask_L49] at hF
      refine ab_iload C 5 rfl dX6_ask_49 ?_
      refine ab_if_le C 98 dX6_ask_51 (by decide) (fun c20 => ?_) (fun c20 => ?_)
      · replace hF := (if_pos c20).symm.trans hF
        obtain rfl := Option.some.inj hF
        refine aV.sub (lv' := []) [] rfl ?_
        exact KX49 g19 hB0 hB1 hB3 hFr
      · replace hF := (if_neg c20).symm.trans hF
        refine ab_aload_n C 3 rfl rfl dX6_ask_54 ?_
        obtain ⟨v21, hxv21, hF⟩ := Option.bind_eq_some_iff.mp hF
        refine ab_cVR (v := .long v21) (st := []) C lm_X6_34 (X0_current_ok (xl X) hB3 (r := v21) hxv21) [] rfl hB3.1 rfl rfl rfl (by decide) ⟨Nat.zero_le _, Nat.zero_le _⟩ (Nat.le_of_ble_eq_true rfl) dX6_ask_55 ?_
        refine ab_lstore (lv' := [(7, .long v21), (0, .ref a0), (1, .ref a1), (2, .int x2), (3, .ref a3), (5, .int x5), (6, .int v16)]) C dX6_ask_58 ⟨by decide, by decide⟩ rfl ?_
        refine ab_aload_n C 2 rfl rfl dX6_ask_60 ?_
        refine ab_iload_n C 3 rfl rfl dX6_ask_61 ?_
        refine ab_lload C 0 rfl dX6_ask_62 ?_
        obtain ⟨v22, hxv22, hF⟩ := Option.bind_eq_some_iff.mp hF
        refine ab_cVR (v := .int v22) (st := []) C lm_X6_37 (X2_speechBy_ok (xl X) hB1 (r := v22) hxv22) [.int x2, .long v21] rfl hB1.1 rfl rfl rfl (by decide) ⟨Nat.zero_le _, Nat.zero_le _⟩ (Nat.le_of_ble_eq_true rfl) dX6_ask_64 ?_
        refine ab_iload C 5 rfl dX6_ask_67 ?_
        have J88 : ∀ (Z23 : Rec) (g24 : aH), (X6_at g24 a0 Z23) → (X2_at g24 a1 S1) → (X0_at g24 a3 Z18) → (∀ q, (q < a0 ∨ a0 + 2 ≤ q) → (q < a3 ∨ a3 + 3 ≤ q) → g24 q = h q) → X6_ask_J88 Z18 v16 (X6_ask_L49 S1 x2 x5 n49) Z23 = some res49 → aV X G 9 88 [(0, .ref a0), (1, .ref a1), (2, .int x2), (3, .ref a3), (5, .int x5), (6, .int v16)] [] g24 nx 0 0 := by
          intro Z23 g24 hB0 hB1 hB3 hFr hF
          rw [X6_ask_J88] at hF
          refine ab_aload_n C 3 rfl rfl dX6_ask_88 ?_
          obtain ⟨v25, hxv25, hF⟩ := Option.bind_eq_some_iff.mp hF
          refine ab_cVN (st := []) C lm_X6_45 (X0_advance_ok (xl X) hB3 (r := v25) hxv25) [] rfl hB3.1 rfl rfl rfl (by decide) ⟨Nat.zero_le _, Nat.zero_le _⟩ (Nat.le_of_ble_eq_true rfl) dX6_ask_89 (fun g26 pg26 => ?_)
          obtain ⟨k0, Og26⟩ := pg26
          have hB3 : X0_at g26 a3 v25 := k0
          have hB0 : X6_at g26 a0 Z23 := X6_off hB0 (fun q i1 i2 => Og26 q (by omega))
          have hB1 : X2_at g26 a1 S1 := X2_off hB1 (fun q i1 i2 => Og26 q (by omega))
          have hFr : ∀ q, (q < a0 ∨ a0 + 2 ≤ q) → (q < a3 ∨ a3 + 3 ≤ q) → g26 q = h q := fun q u0 u1 => (Og26 q (by omega)).trans (hFr q u0 u1)
          obtain ⟨v27, qv27⟩ : ∃ y : Int32, y = (v16 + (-1 : Int32)) := ⟨_, rfl⟩
          replace hF := aLet_e hF v27 qv27
          refine ab_iinc (lv' := [(6, .int v27), (0, .ref a0), (1, .ref a1), (2, .int x2), (3, .ref a3), (5, .int x5)]) C 5 rfl dX6_ask_92 (by rw [qv27]; rfl) (by decide) rfl ?_
          refine ab_goto C 49 dX6_ask_95 (by decide) ?_
          refine aV.sub (lv' := [(0, .ref a0), (1, .ref a1), (2, .int x2), (3, .ref a3), (5, .int x5), (6, .int v27)]) [1, 2, 3, 4, 5, 0] rfl ?_
          exact ih49 v27 Z23 v25 g26 hB0 hB1 hB3 hFr res49 hF KX49
        refine ab_icmp_ne C 88 dX6_ask_69 (by decide) (fun c28 => ?_) (fun c28 => ?_)
        · replace hF := (if_neg c28).symm.trans hF
          refine aV.sub (lv' := [(0, .ref a0), (1, .ref a1), (2, .int x2), (3, .ref a3), (5, .int x5), (6, .int v16)]) [1, 2, 3, 4, 5, 6] rfl ?_
          exact J88 Z17 g19 hB0 hB1 hB3 hFr hF
        · replace hF := (if_pos c28).symm.trans hF
          refine ab_aload_n C 1 rfl rfl dX6_ask_72 ?_
          refine ab_dup C rfl dX6_ask_73 ?_
          refine ab_g6 (v := .int (Z17.1 2)) C lf_X6_19 hB0.1 rfl dX6_ask_74 ?_
          refine ab_iconst (v := (1 : Int32)) C dX6_ask_77 (by decide) ?_
          refine ab_iadd C dX6_ask_78 ?_
          refine ab_p6 (ty := .int) C lf_X6_19 rfl (by decide +kernel) rfl rfl (Nat.le_of_ble_eq_true rfl) hB0.1 dX6_ask_79 (fun g29 eg29 og29 => ?_)
          have hB0 : X6_at g29 a0 (sI Z17 2 ((Z17.1 2) + (1 : Int32))) := X6_p2 hB0 eg29 og29
          have hB1 : X2_at g29 a1 S1 := X2_off hB1 (fun q i1 i2 => og29 q (by omega))
          have hB3 : X0_at g29 a3 Z18 := X0_off hB3 (fun q i1 i2 => og29 q (by omega))
          have hFr : ∀ q, (q < a0 ∨ a0 + 2 ≤ q) → (q < a3 ∨ a3 + 3 ≤ q) → g29 q = h q := fun q u0 u1 => (og29 q (by omega)).trans (hFr q u0 u1)
          refine ab_aload_n C 1 rfl rfl dX6_ask_82 ?_
          refine ab_lload C 0 rfl dX6_ask_83 ?_
          obtain ⟨v30, hxv30, hF⟩ := Option.bind_eq_some_iff.mp hF
          refine ab_cVN (st := []) C lm_X6_41 (X6_mark_ok (xl X) hB0 (r := v30) hxv30) [.long v21] rfl hB0.1 rfl rfl rfl (by decide) ⟨Nat.zero_le _, Nat.zero_le _⟩ (Nat.le_of_ble_eq_true rfl) dX6_ask_85 (fun g31 pg31 => ?_)
          obtain ⟨k0, Og31⟩ := pg31
          have hB0 : X6_at g31 a0 v30 := k0
          have hB1 : X2_at g31 a1 S1 := X2_off hB1 (fun q i1 i2 => Og31 q (by omega))
          have hB3 : X0_at g31 a3 Z18 := X0_off hB3 (fun q i1 i2 => Og31 q (by omega))
          have hFr : ∀ q, (q < a0 ∨ a0 + 2 ≤ q) → (q < a3 ∨ a3 + 3 ≤ q) → g31 q = h q := fun q u0 u1 => (Og31 q (by omega)).trans (hFr q u0 u1)
          refine aV.sub (lv' := [(0, .ref a0), (1, .ref a1), (2, .int x2), (3, .ref a3), (5, .int x5), (6, .int v16)]) [1, 2, 3, 4, 5, 6] rfl ?_
          exact J88 v30 g31 hB0 hB1 hB3 hFr hF
  refine aV.sub (lv' := [(0, .ref a0), (1, .ref a1), (2, .int x2), (3, .ref a3), (5, .int x5), (6, .int v15)]) [1, 2, 3, 4, 6, 0] rfl ?_
  obtain ⟨e32, he32, hF⟩ := Option.bind_eq_some_iff.mp hF
  refine L49 aFu v15 (sI e9 1 v12.1) v12.2 g14 hB0 hB1 hB3 hFr e32 he32 (fun g33 hB0 hB1 hB3 hFr => ?_)
  obtain rfl := Option.some.inj hF
  exact ab_vret C R0 dX6_ask_98 ⟨rfl, rfl, hB0, hB3, hFr⟩
theorem dX6_nextToAsk_0 : decode cX6_nextToAsk 0 = .ok (.aload_n 0, 1) := by decide +kernel
theorem dX6_nextToAsk_1 : decode cX6_nextToAsk 1 = .ok (.getfield 19, 3) := by decide +kernel
theorem dX6_nextToAsk_4 : decode cX6_nextToAsk 4 = .ok (.ifCond .ne 6, 3) := by decide +kernel
theorem dX6_nextToAsk_7 : decode cX6_nextToAsk 7 = .ok (.bipush (-4), 2) := by decide +kernel
theorem dX6_nextToAsk_9 : decode cX6_nextToAsk 9 = .ok (.ireturn, 1) := by decide +kernel
theorem dX6_nextToAsk_10 : decode cX6_nextToAsk 10 = .ok (.bipush (-4), 2) := by decide +kernel
theorem dX6_nextToAsk_12 : decode cX6_nextToAsk 12 = .ok (.istore_n 2, 1) := by decide +kernel
theorem dX6_nextToAsk_13 : decode cX6_nextToAsk 13 = .ok (.ldc 57, 2) := by decide +kernel
theorem dX6_nextToAsk_15 : decode cX6_nextToAsk 15 = .ok (.istore_n 3, 1) := by decide +kernel
theorem dX6_nextToAsk_16 : decode cX6_nextToAsk 16 = .ok (.iconst 0, 1) := by decide +kernel
theorem dX6_nextToAsk_17 : decode cX6_nextToAsk 17 = .ok (.istore 4, 2) := by decide +kernel
theorem dX6_nextToAsk_19 : decode cX6_nextToAsk 19 = .ok (.iload 4, 2) := by decide +kernel
theorem dX6_nextToAsk_21 : decode cX6_nextToAsk 21 = .ok (.bipush 64, 2) := by decide +kernel
theorem dX6_nextToAsk_23 : decode cX6_nextToAsk 23 = .ok (.if_icmp .ge 49, 3) := by decide +kernel
theorem dX6_nextToAsk_26 : decode cX6_nextToAsk 26 = .ok (.iconst 2, 1) := by decide +kernel
theorem dX6_nextToAsk_27 : decode cX6_nextToAsk 27 = .ok (.aload_n 0, 1) := by decide +kernel
theorem dX6_nextToAsk_28 : decode cX6_nextToAsk 28 = .ok (.getfield 9, 3) := by decide +kernel
theorem dX6_nextToAsk_31 : decode cX6_nextToAsk 31 = .ok (.iload 4, 2) := by decide +kernel
theorem dX6_nextToAsk_33 : decode cX6_nextToAsk 33 = .ok (.iaload, 1) := by decide +kernel
theorem dX6_nextToAsk_34 : decode cX6_nextToAsk 34 = .ok (.imul, 1) := by decide +kernel
theorem dX6_nextToAsk_35 : decode cX6_nextToAsk 35 = .ok (.aload_n 0, 1) := by decide +kernel
theorem dX6_nextToAsk_36 : decode cX6_nextToAsk 36 = .ok (.getfield 19, 3) := by decide +kernel
theorem dX6_nextToAsk_39 : decode cX6_nextToAsk 39 = .ok (.isub, 1) := by decide +kernel
theorem dX6_nextToAsk_40 : decode cX6_nextToAsk 40 = .ok (.invokestatic 58, 3) := by decide +kernel
theorem dX6_nextToAsk_43 : decode cX6_nextToAsk 43 = .ok (.istore 5, 2) := by decide +kernel
theorem dX6_nextToAsk_45 : decode cX6_nextToAsk 45 = .ok (.aload_n 1, 1) := by decide +kernel
theorem dX6_nextToAsk_46 : decode cX6_nextToAsk 46 = .ok (.iload 4, 2) := by decide +kernel
theorem dX6_nextToAsk_48 : decode cX6_nextToAsk 48 = .ok (.invokevirtual 64, 3) := by decide +kernel
theorem dX6_nextToAsk_51 : decode cX6_nextToAsk 51 = .ok (.ifCond .eq 15, 3) := by decide +kernel
theorem dX6_nextToAsk_54 : decode cX6_nextToAsk 54 = .ok (.iload 5, 2) := by decide +kernel
theorem dX6_nextToAsk_56 : decode cX6_nextToAsk 56 = .ok (.iload_n 3, 1) := by decide +kernel
theorem dX6_nextToAsk_57 : decode cX6_nextToAsk 57 = .ok (.if_icmp .ge 9, 3) := by decide +kernel
theorem dX6_nextToAsk_60 : decode cX6_nextToAsk 60 = .ok (.iload 4, 2) := by decide +kernel
theorem dX6_nextToAsk_62 : decode cX6_nextToAsk 62 = .ok (.istore_n 2, 1) := by decide +kernel
theorem dX6_nextToAsk_63 : decode cX6_nextToAsk 63 = .ok (.iload 5, 2) := by decide +kernel
theorem dX6_nextToAsk_65 : decode cX6_nextToAsk 65 = .ok (.istore_n 3, 1) := by decide +kernel
theorem dX6_nextToAsk_66 : decode cX6_nextToAsk 66 = .ok (.iinc 4 1, 3) := by decide +kernel
theorem dX6_nextToAsk_69 : decode cX6_nextToAsk 69 = .ok (.goto (-50), 3) := by decide +kernel
theorem dX6_nextToAsk_72 : decode cX6_nextToAsk 72 = .ok (.iload_n 2, 1) := by decide +kernel
theorem dX6_nextToAsk_73 : decode cX6_nextToAsk 73 = .ok (.ireturn, 1) := by decide +kernel
def X6_nextToAsk_L19 (S0 : Rec) (S1 : Rec) : Nat → Int32 → Int32 → Int32 → Option (Int32)
  | 0, _, _, _ => none
  | n19 + 1, v2, v3, v4 => if (64 : Int32) ≤ v4 then
      some v2
    else
      (rdI (S0.2.1 0) 64 v4).bind fun v6 =>
      aLet (a_abs (((2 : Int32) * v6) - (S0.1 2))) fun v7 =>
      (X2_hasCell S1 v4).bind fun v8 =>
      if v8 = 0 then
        aLet (v4 + (1 : Int32)) fun v10 =>
        X6_nextToAsk_L19 S0 S1 n19 v2 v3 v10
      else
        if v3 ≤ v7 then
          aLet (v4 + (1 : Int32)) fun v12 =>
          X6_nextToAsk_L19 S0 S1 n19 v2 v3 v12
        else
          aLet (v4 + (1 : Int32)) fun v13 =>
          X6_nextToAsk_L19 S0 S1 n19 v4 v7 v13
def X6_nextToAsk (S0 : Rec) (S1 : Rec) : Option (Int32) :=
  if (S0.1 2) = 0 then
    some (-4 : Int32)
  else
    (X6_nextToAsk_L19 S0 S1 aFu (-4 : Int32) (1000000 : Int32) (0 : Int32)).bind fun e14 =>
    some e14
set_option maxRecDepth 100000 in
set_option maxHeartbeats 4000000 in
theorem X6_nextToAsk_ok (l : Launch) {h : aH} {nx : Nat} {a0 : Nat} {a1 : Nat} {S0 : Rec} {S1 : Rec} (hB0 : X6_at h a0 S0) (hB1 : X2_at h a1 S1) {r : Int32} (hF : X6_nextToAsk S0 S1 = some r) : aOk l 2 0 0 yX6_nextToAsk cX6_nextToAsk 6 (some .int) [.ref a0, .ref a1] h nx (aRd (.int r) h nx) := by
  refine aOk.of (by decide +kernel) (Nat.le_of_ble_eq_true rfl) (fun X G hX C R0 _ => ?_)
  subst hX
  show aV X G 6 0 [(0, .ref a0), (1, .ref a1)] [] h nx 0 0
  rw [X6_nextToAsk] at hF
  refine ab_aload_n C 0 rfl rfl dX6_nextToAsk_0 ?_
  refine ab_g6 (v := .int (S0.1 2)) C lf_X6_19 hB0.1 rfl dX6_nextToAsk_1 ?_
  refine ab_if_ne C 10 dX6_nextToAsk_4 (by decide) (fun c1 => ?_) (fun c1 => ?_)
  · replace hF := (if_neg c1).symm.trans hF
    refine ab_bipush (v := (-4 : Int32)) C dX6_nextToAsk_10 (by decide) ?_
    refine ab_istore_n (lv' := [(2, .int (-4 : Int32)), (0, .ref a0), (1, .ref a1)]) C dX6_nextToAsk_12 rfl (by decide) rfl ?_
    refine ab_ldc (v := (1000000 : Int32)) C dX6_nextToAsk_13 lq_X6_57 ?_
    refine ab_istore_n (lv' := [(3, .int (1000000 : Int32)), (2, .int (-4 : Int32)), (0, .ref a0), (1, .ref a1)]) C dX6_nextToAsk_15 rfl (by decide) rfl ?_
    refine ab_iconst (v := (0 : Int32)) C dX6_nextToAsk_16 (by decide) ?_
    refine ab_istore (lv' := [(4, .int (0 : Int32)), (3, .int (1000000 : Int32)), (2, .int (-4 : Int32)), (0, .ref a0), (1, .ref a1)]) C dX6_nextToAsk_17 (by decide) rfl ?_
    have L19 : ∀ (n19 : Nat) (v2 : Int32) (v3 : Int32) (v4 : Int32), ∀ (res19 : Int32), X6_nextToAsk_L19 S0 S1 n19 v2 v3 v4 = some res19 → (aV X G 6 72 [(2, .int res19)] [] h nx 0 0) → aV X G 6 19 [(0, .ref a0), (1, .ref a1), (2, .int v2), (3, .int v3), (4, .int v4)] [] h nx 0 0 := by
      intro n19
      induction n19 with
      | zero => intro v2 v3 v4 res19 hF KX19; cases (show (none : Option (Int32)) = some res19 from hF)
      | succ n19 ih19 =>
        intro v2 v3 v4 res19 hF KX19
        rw [X6_nextToAsk_L19] at hF
        refine ab_iload C 4 rfl dX6_nextToAsk_19 ?_
        refine ab_bipush (v := (64 : Int32)) C dX6_nextToAsk_21 (by decide) ?_
        refine ab_icmp_ge C 72 dX6_nextToAsk_23 (by decide) (fun c5 => ?_) (fun c5 => ?_)
        · replace hF := (if_pos c5).symm.trans hF
          obtain rfl := Option.some.inj hF
          refine aV.sub (lv' := [(2, .int v2)]) [2] rfl ?_
          exact KX19
        · replace hF := (if_neg c5).symm.trans hF
          refine ab_iconst (v := (2 : Int32)) C dX6_nextToAsk_26 (by decide) ?_
          refine ab_aload_n C 0 rfl rfl dX6_nextToAsk_27 ?_
          refine ab_g6 (v := .ref (a0 + 1)) C lf_X6_9 hB0.1 rfl dX6_nextToAsk_28 ?_
          refine ab_iload C 4 rfl dX6_nextToAsk_31 ?_
          obtain ⟨v6, hxv6, hF⟩ := Option.bind_eq_some_iff.mp hF
          refine ab_iald C (X6_r0 hB0) hxv6 dX6_nextToAsk_33 ?_
          refine ab_imul C dX6_nextToAsk_34 ?_
          refine ab_aload_n C 0 rfl rfl dX6_nextToAsk_35 ?_
          refine ab_g6 (v := .int (S0.1 2)) C lf_X6_19 hB0.1 rfl dX6_nextToAsk_36 ?_
          refine ab_isub C dX6_nextToAsk_39 ?_
          refine ab_mabs C (own := RX6) (a_mem 775 (by decide +kernel) (by decide +kernel)) (Nat.le_of_ble_eq_true rfl) ⟨Nat.zero_le _, Nat.zero_le _⟩ (Nat.le_of_ble_eq_true rfl) dX6_nextToAsk_40 ?_
          refine ab_topi (fun v7 qv7 => ?_)
          replace hF := aLet_e hF v7 qv7
          refine ab_istore (lv' := [(5, .int v7), (0, .ref a0), (1, .ref a1), (2, .int v2), (3, .int v3), (4, .int v4)]) C dX6_nextToAsk_43 (by decide) rfl ?_
          refine ab_aload_n C 2 rfl rfl dX6_nextToAsk_45 ?_
          refine ab_iload C 5 rfl dX6_nextToAsk_46 ?_
          obtain ⟨v8, hxv8, hF⟩ := Option.bind_eq_some_iff.mp hF
          refine ab_cVR (v := .int v8) (st := []) C lm_X6_64 (X2_hasCell_ok (xl X) hB1 (r := v8) hxv8) [.int v4] rfl hB1.1 rfl rfl rfl (by decide) ⟨Nat.zero_le _, Nat.zero_le _⟩ (Nat.le_of_ble_eq_true rfl) dX6_nextToAsk_48 ?_
          refine ab_if_eq C 66 dX6_nextToAsk_51 (by decide) (fun c9 => ?_) (fun c9 => ?_)
          · replace hF := (if_pos c9).symm.trans hF
            obtain ⟨v10, qv10⟩ : ∃ y : Int32, y = (v4 + (1 : Int32)) := ⟨_, rfl⟩
            replace hF := aLet_e hF v10 qv10
            refine ab_iinc (lv' := [(4, .int v10), (5, .int v7), (0, .ref a0), (1, .ref a1), (2, .int v2), (3, .int v3)]) C 5 rfl dX6_nextToAsk_66 (by rw [qv10]; rfl) (by decide) rfl ?_
            refine ab_goto C 19 dX6_nextToAsk_69 (by decide) ?_
            refine aV.sub (lv' := [(0, .ref a0), (1, .ref a1), (2, .int v2), (3, .int v3), (4, .int v10)]) [2, 3, 4, 5, 0] rfl ?_
            exact ih19 v2 v3 v10 res19 hF KX19
          · replace hF := (if_neg c9).symm.trans hF
            refine ab_iload C 0 rfl dX6_nextToAsk_54 ?_
            refine ab_iload_n C 4 rfl rfl dX6_nextToAsk_56 ?_
            refine ab_icmp_ge C 66 dX6_nextToAsk_57 (by decide) (fun c11 => ?_) (fun c11 => ?_)
            · replace hF := (if_pos c11).symm.trans hF
              obtain ⟨v12, qv12⟩ : ∃ y : Int32, y = (v4 + (1 : Int32)) := ⟨_, rfl⟩
              replace hF := aLet_e hF v12 qv12
              refine ab_iinc (lv' := [(4, .int v12), (5, .int v7), (0, .ref a0), (1, .ref a1), (2, .int v2), (3, .int v3)]) C 5 rfl dX6_nextToAsk_66 (by rw [qv12]; rfl) (by decide) rfl ?_
              refine ab_goto C 19 dX6_nextToAsk_69 (by decide) ?_
              refine aV.sub (lv' := [(0, .ref a0), (1, .ref a1), (2, .int v2), (3, .int v3), (4, .int v12)]) [2, 3, 4, 5, 0] rfl ?_
              exact ih19 v2 v3 v12 res19 hF KX19
            · replace hF := (if_neg c11).symm.trans hF
              refine ab_iload C 5 rfl dX6_nextToAsk_60 ?_
              refine ab_istore_n (lv' := [(2, .int v4), (5, .int v7), (0, .ref a0), (1, .ref a1), (3, .int v3), (4, .int v4)]) C dX6_nextToAsk_62 rfl (by decide) rfl ?_
              refine ab_iload C 1 rfl dX6_nextToAsk_63 ?_
              refine ab_istore_n (lv' := [(3, .int v7), (2, .int v4), (5, .int v7), (0, .ref a0), (1, .ref a1), (4, .int v4)]) C dX6_nextToAsk_65 rfl (by decide) rfl ?_
              obtain ⟨v13, qv13⟩ : ∃ y : Int32, y = (v4 + (1 : Int32)) := ⟨_, rfl⟩
              replace hF := aLet_e hF v13 qv13
              refine ab_iinc (lv' := [(4, .int v13), (3, .int v7), (2, .int v4), (5, .int v7), (0, .ref a0), (1, .ref a1)]) C 5 rfl dX6_nextToAsk_66 (by rw [qv13]; rfl) (by decide) rfl ?_
              refine ab_goto C 19 dX6_nextToAsk_69 (by decide) ?_
              refine aV.sub (lv' := [(0, .ref a0), (1, .ref a1), (2, .int v4), (3, .int v7), (4, .int v13)]) [4, 5, 2, 1, 0] rfl ?_
              exact ih19 v4 v7 v13 res19 hF KX19
    refine aV.sub (lv' := [(0, .ref a0), (1, .ref a1), (2, .int (-4 : Int32)), (3, .int (1000000 : Int32)), (4, .int (0 : Int32))]) [3, 4, 2, 1, 0] rfl ?_
    obtain ⟨e14, he14, hF⟩ := Option.bind_eq_some_iff.mp hF
    refine L19 aFu (-4 : Int32) (1000000 : Int32) (0 : Int32) e14 he14 ?_
    refine ab_iload_n C 0 rfl rfl dX6_nextToAsk_72 ?_
    obtain rfl := Option.some.inj hF
    exact ab_iret C R0 rfl dX6_nextToAsk_73 ⟨rfl, rfl, rfl⟩
  · replace hF := (if_pos c1).symm.trans hF
    refine ab_bipush (v := (-4 : Int32)) C dX6_nextToAsk_7 (by decide) ?_
    obtain rfl := Option.some.inj hF
    exact ab_iret C R0 rfl dX6_nextToAsk_9 ⟨rfl, rfl, rfl⟩
theorem dX7_sign_0 : decode cX7_sign 0 = .ok (.aload_n 0, 1) := by decide +kernel
theorem dX7_sign_1 : decode cX7_sign 1 = .ok (.getfield 19, 3) := by decide +kernel
theorem dX7_sign_4 : decode cX7_sign 4 = .ok (.ifCond .lt 38, 3) := by decide +kernel
theorem dX7_sign_7 : decode cX7_sign 7 = .ok (.aload_n 0, 1) := by decide +kernel
theorem dX7_sign_8 : decode cX7_sign 8 = .ok (.getfield 19, 3) := by decide +kernel
theorem dX7_sign_11 : decode cX7_sign 11 = .ok (.aload_n 0, 1) := by decide +kernel
theorem dX7_sign_12 : decode cX7_sign 12 = .ok (.getfield 15, 3) := by decide +kernel
theorem dX7_sign_15 : decode cX7_sign 15 = .ok (.if_icmp .ge 27, 3) := by decide +kernel
theorem dX7_sign_18 : decode cX7_sign 18 = .ok (.aload_n 0, 1) := by decide +kernel
theorem dX7_sign_19 : decode cX7_sign 19 = .ok (.getfield 19, 3) := by decide +kernel
theorem dX7_sign_22 : decode cX7_sign 22 = .ok (.aload_n 0, 1) := by decide +kernel
theorem dX7_sign_23 : decode cX7_sign 23 = .ok (.getfield 9, 3) := by decide +kernel
theorem dX7_sign_26 : decode cX7_sign 26 = .ok (.arraylength, 1) := by decide +kernel
theorem dX7_sign_27 : decode cX7_sign 27 = .ok (.if_icmp .ge 15, 3) := by decide +kernel
theorem dX7_sign_30 : decode cX7_sign 30 = .ok (.aload_n 0, 1) := by decide +kernel
theorem dX7_sign_31 : decode cX7_sign 31 = .ok (.getfield 9, 3) := by decide +kernel
theorem dX7_sign_34 : decode cX7_sign 34 = .ok (.aload_n 0, 1) := by decide +kernel
theorem dX7_sign_35 : decode cX7_sign 35 = .ok (.getfield 19, 3) := by decide +kernel
theorem dX7_sign_38 : decode cX7_sign 38 = .ok (.iaload, 1) := by decide +kernel
theorem dX7_sign_39 : decode cX7_sign 39 = .ok (.goto 4, 3) := by decide +kernel
theorem dX7_sign_42 : decode cX7_sign 42 = .ok (.iconst (-1), 1) := by decide +kernel
theorem dX7_sign_43 : decode cX7_sign 43 = .ok (.ireturn, 1) := by decide +kernel
def X7_sign (S0 : Rec) : Option (Int32) :=
  if (S0.1 2) < 0 then
    some (-1 : Int32)
  else
    if (S0.1 1) ≤ (S0.1 2) then
      some (-1 : Int32)
    else
      if (Int32.ofNat 130) ≤ (S0.1 2) then
        some (-1 : Int32)
      else
        (rdI (S0.2.1 0) 130 (S0.1 2)).bind fun v4 =>
        some v4
set_option maxRecDepth 100000 in
set_option maxHeartbeats 4000000 in
theorem X7_sign_ok (l : Launch) {h : aH} {nx : Nat} {a0 : Nat} {S0 : Rec} (hB0 : X7_at h a0 S0) {r : Int32} (hF : X7_sign S0 = some r) : aOk l 0 0 0 yX7_sign cX7_sign 1 (some .int) [.ref a0] h nx (aRd (.int r) h nx) := by
  refine aOk.of (by decide +kernel) (Nat.le_of_ble_eq_true rfl) (fun X G hX C R0 _ => ?_)
  subst hX
  show aV X G 1 0 [(0, .ref a0)] [] h nx 0 0
  rw [X7_sign] at hF
  refine ab_aload_n C 0 rfl rfl dX7_sign_0 ?_
  refine ab_g7 (v := .int (S0.1 2)) C lf_X7_19 hB0.1 rfl dX7_sign_1 ?_
  refine ab_if_lt C 42 dX7_sign_4 (by decide) (fun c1 => ?_) (fun c1 => ?_)
  · replace hF := (if_pos c1).symm.trans hF
    refine ab_iconst (v := (-1 : Int32)) C dX7_sign_42 (by decide) ?_
    obtain rfl := Option.some.inj hF
    exact ab_iret C R0 rfl dX7_sign_43 ⟨rfl, rfl, rfl⟩
  · replace hF := (if_neg c1).symm.trans hF
    refine ab_aload_n C 0 rfl rfl dX7_sign_7 ?_
    refine ab_g7 (v := .int (S0.1 2)) C lf_X7_19 hB0.1 rfl dX7_sign_8 ?_
    refine ab_aload_n C 0 rfl rfl dX7_sign_11 ?_
    refine ab_g7 (v := .int (S0.1 1)) C lf_X7_15 hB0.1 rfl dX7_sign_12 ?_
    refine ab_icmp_ge C 42 dX7_sign_15 (by decide) (fun c2 => ?_) (fun c2 => ?_)
    · replace hF := (if_pos c2).symm.trans hF
      refine ab_iconst (v := (-1 : Int32)) C dX7_sign_42 (by decide) ?_
      obtain rfl := Option.some.inj hF
      exact ab_iret C R0 rfl dX7_sign_43 ⟨rfl, rfl, rfl⟩
    · replace hF := (if_neg c2).symm.trans hF
      refine ab_aload_n C 0 rfl rfl dX7_sign_18 ?_
      refine ab_g7 (v := .int (S0.1 2)) C lf_X7_19 hB0.1 rfl dX7_sign_19 ?_
      refine ab_aload_n C 0 rfl rfl dX7_sign_22 ?_
      refine ab_g7 (v := .ref (a0 + 1)) C lf_X7_9 hB0.1 rfl dX7_sign_23 ?_
      refine ab_alen0 C (X7_r0 hB0) dX7_sign_26 ?_
      refine ab_icmp_ge C 42 dX7_sign_27 (by decide) (fun c3 => ?_) (fun c3 => ?_)
      · replace hF := (if_pos c3).symm.trans hF
        refine ab_iconst (v := (-1 : Int32)) C dX7_sign_42 (by decide) ?_
        obtain rfl := Option.some.inj hF
        exact ab_iret C R0 rfl dX7_sign_43 ⟨rfl, rfl, rfl⟩
      · replace hF := (if_neg c3).symm.trans hF
        refine ab_aload_n C 0 rfl rfl dX7_sign_30 ?_
        refine ab_g7 (v := .ref (a0 + 1)) C lf_X7_9 hB0.1 rfl dX7_sign_31 ?_
        refine ab_aload_n C 0 rfl rfl dX7_sign_34 ?_
        refine ab_g7 (v := .int (S0.1 2)) C lf_X7_19 hB0.1 rfl dX7_sign_35 ?_
        obtain ⟨v4, hxv4, hF⟩ := Option.bind_eq_some_iff.mp hF
        refine ab_iald C (X7_r0 hB0) hxv4 dX7_sign_38 ?_
        refine ab_goto C 43 dX7_sign_39 (by decide) ?_
        obtain rfl := Option.some.inj hF
        exact ab_iret C R0 rfl dX7_sign_43 ⟨rfl, rfl, rfl⟩
