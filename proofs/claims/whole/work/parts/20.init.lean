/-! the constructor of the whole -/
theorem dX8_init_0 : decode cX8_init 0 = .ok (.aload_n 0, 1) := by decide +kernel
theorem dX8_init_1 : decode cX8_init 1 = .ok (.invokespecial 1, 3) := by decide +kernel
theorem dX8_init_4 : decode cX8_init 4 = .ok (.aload_n 0, 1) := by decide +kernel
theorem dX8_init_5 : decode cX8_init 5 = .ok (.new 7, 3) := by decide +kernel
theorem dX8_init_8 : decode cX8_init 8 = .ok (.dup, 1) := by decide +kernel
theorem dX8_init_9 : decode cX8_init 9 = .ok (.invokespecial 9, 3) := by decide +kernel
theorem dX8_init_12 : decode cX8_init 12 = .ok (.putfield 10, 3) := by decide +kernel
theorem dX8_init_15 : decode cX8_init 15 = .ok (.aload_n 0, 1) := by decide +kernel
theorem dX8_init_16 : decode cX8_init 16 = .ok (.new 16, 3) := by decide +kernel
theorem dX8_init_19 : decode cX8_init 19 = .ok (.dup, 1) := by decide +kernel
theorem dX8_init_20 : decode cX8_init 20 = .ok (.invokespecial 18, 3) := by decide +kernel
theorem dX8_init_23 : decode cX8_init 23 = .ok (.putfield 19, 3) := by decide +kernel
theorem dX8_init_26 : decode cX8_init 26 = .ok (.aload_n 0, 1) := by decide +kernel
theorem dX8_init_27 : decode cX8_init 27 = .ok (.new 23, 3) := by decide +kernel
theorem dX8_init_30 : decode cX8_init 30 = .ok (.dup, 1) := by decide +kernel
theorem dX8_init_31 : decode cX8_init 31 = .ok (.invokespecial 25, 3) := by decide +kernel
theorem dX8_init_34 : decode cX8_init 34 = .ok (.putfield 26, 3) := by decide +kernel
theorem dX8_init_37 : decode cX8_init 37 = .ok (.aload_n 0, 1) := by decide +kernel
theorem dX8_init_38 : decode cX8_init 38 = .ok (.iconst 2, 1) := by decide +kernel
theorem dX8_init_39 : decode cX8_init 39 = .ok (.anewarray 16, 3) := by decide +kernel
theorem dX8_init_42 : decode cX8_init 42 = .ok (.putfield 30, 3) := by decide +kernel
theorem dX8_init_45 : decode cX8_init 45 = .ok (.aload_n 0, 1) := by decide +kernel
theorem dX8_init_46 : decode cX8_init 46 = .ok (.iconst 4, 1) := by decide +kernel
theorem dX8_init_47 : decode cX8_init 47 = .ok (.anewarray 34, 3) := by decide +kernel
theorem dX8_init_50 : decode cX8_init 50 = .ok (.putfield 36, 3) := by decide +kernel
theorem dX8_init_53 : decode cX8_init 53 = .ok (.aload_n 0, 1) := by decide +kernel
theorem dX8_init_54 : decode cX8_init 54 = .ok (.new 16, 3) := by decide +kernel
theorem dX8_init_57 : decode cX8_init 57 = .ok (.dup, 1) := by decide +kernel
theorem dX8_init_58 : decode cX8_init 58 = .ok (.invokespecial 18, 3) := by decide +kernel
theorem dX8_init_61 : decode cX8_init 61 = .ok (.putfield 40, 3) := by decide +kernel
theorem dX8_init_64 : decode cX8_init 64 = .ok (.aload_n 0, 1) := by decide +kernel
theorem dX8_init_65 : decode cX8_init 65 = .ok (.new 16, 3) := by decide +kernel
theorem dX8_init_68 : decode cX8_init 68 = .ok (.dup, 1) := by decide +kernel
theorem dX8_init_69 : decode cX8_init 69 = .ok (.invokespecial 18, 3) := by decide +kernel
theorem dX8_init_72 : decode cX8_init 72 = .ok (.putfield 43, 3) := by decide +kernel
theorem dX8_init_75 : decode cX8_init 75 = .ok (.aload_n 0, 1) := by decide +kernel
theorem dX8_init_76 : decode cX8_init 76 = .ok (.new 46, 3) := by decide +kernel
theorem dX8_init_79 : decode cX8_init 79 = .ok (.dup, 1) := by decide +kernel
theorem dX8_init_80 : decode cX8_init 80 = .ok (.invokespecial 48, 3) := by decide +kernel
theorem dX8_init_83 : decode cX8_init 83 = .ok (.putfield 49, 3) := by decide +kernel
theorem dX8_init_86 : decode cX8_init 86 = .ok (.aload_n 0, 1) := by decide +kernel
theorem dX8_init_87 : decode cX8_init 87 = .ok (.new 53, 3) := by decide +kernel
theorem dX8_init_90 : decode cX8_init 90 = .ok (.dup, 1) := by decide +kernel
theorem dX8_init_91 : decode cX8_init 91 = .ok (.invokespecial 55, 3) := by decide +kernel
theorem dX8_init_94 : decode cX8_init 94 = .ok (.putfield 56, 3) := by decide +kernel
theorem dX8_init_97 : decode cX8_init 97 = .ok (.aload_n 0, 1) := by decide +kernel
theorem dX8_init_98 : decode cX8_init 98 = .ok (.new 60, 3) := by decide +kernel
theorem dX8_init_101 : decode cX8_init 101 = .ok (.dup, 1) := by decide +kernel
theorem dX8_init_102 : decode cX8_init 102 = .ok (.invokespecial 62, 3) := by decide +kernel
theorem dX8_init_105 : decode cX8_init 105 = .ok (.putfield 63, 3) := by decide +kernel
theorem dX8_init_108 : decode cX8_init 108 = .ok (.aload_n 0, 1) := by decide +kernel
theorem dX8_init_109 : decode cX8_init 109 = .ok (.new 67, 3) := by decide +kernel
theorem dX8_init_112 : decode cX8_init 112 = .ok (.dup, 1) := by decide +kernel
theorem dX8_init_113 : decode cX8_init 113 = .ok (.invokespecial 69, 3) := by decide +kernel
theorem dX8_init_116 : decode cX8_init 116 = .ok (.putfield 70, 3) := by decide +kernel
theorem dX8_init_119 : decode cX8_init 119 = .ok (.return_, 1) := by decide +kernel
set_option maxRecDepth 100000 in
set_option maxHeartbeats 4000000 in
theorem X8_init_ok (l : Launch) {h : aH} (hO : h 4 = some (.inr (8, [.null, .null, .null, .null, .null, .null, .null, .null, .null, .null, .null]))) : aOk l 3 41 513 yX8_init cX8_init 1 none [.ref 4] h 5 (fun v h1 nx1 => v = none ∧ nx1 = 46 ∧ X8_at h1 ∧ X7_at h1 5 zR ∧ X2_at h1 7 zR ∧ X4_at h1 15 (fun _ => none) zR ∧ h1 17 = some (.inl (3, 2, .inr (.inr (.inr (.inr (fun _ => none)))))) ∧ h1 18 = some (.inl (4, 4, .inr (.inr (.inr (.inr (fun _ => none)))))) ∧ X2_at h1 19 zR ∧ X2_at h1 27 zR ∧ X0_at h1 35 zR ∧ X6_at h1 38 zR ∧ X3_at h1 40 zR ∧ X1_at h1 44 zR ∧ ∀ q, q < 4 → h1 q = h q) := by
  refine aOk.of (by decide +kernel) (Nat.le_of_ble_eq_true rfl) (fun X G hX C R0 hI => ?_)
  subst hX
  have hI := hI rfl
  have hFr : ∀ q, q < 4 → h q = h q := fun _ _ => rfl
  show aV X G 1 0 [(0, .ref 4)] [] h 5 0 0
  refine ab_aload_n C 0 rfl rfl dX8_init_0 ?_
  refine ab_objInit C (a_mem 78 (by decide +kernel) (by decide +kernel)) (a_mem 79 (by decide +kernel) (by decide +kernel)) (a_mem 80 (by decide +kernel) (by decide +kernel)) (by decide) dX8_init_1 ?_
  refine ab_aload_n C 0 rfl rfl dX8_init_4 ?_
  refine ab_new C (ci := 7) (fs := [.null, .int 0, .int 0]) tyX7 tyX7_ok rfl inX7 (a_mem 81 (by decide +kernel) (by decide +kernel)) (a_mem 82 (by decide +kernel) (by decide +kernel)) (a_mem 55 (by decide +kernel) (by decide +kernel)) (fun G j hj => by rcases (show j = 0 ∨ j = 1 ∨ j = 2 by omega) with rfl | rfl | rfl <;> rfl) (by decide) ⟨by decide, by decide⟩ dX8_init_5 (fun g1 eg1 og1 => ?_)
  refine ab_dup C rfl dX8_init_8 ?_
  refine ab_cI (st := [.ref 5, .ref 4]) C lm_X8_9 (X7_init_ok (xl X) (by decide) rfl eg1) [] rfl (by decide) rfl rfl (by decide) ⟨by decide, by decide⟩ (Nat.le_of_ble_eq_true rfl) dX8_init_9 (fun v g2 nxg2 pg2 => ?_)
  obtain ⟨rfl, rfl, b_tape, oN⟩ := pg2
  have oN : ∀ q, q < 5 → g2 q = h q := fun q u => (oN q u).trans (og1 q (by omega))
  have hO := (oN 4 (by omega)).trans hO
  have hFr : ∀ q, q < 4 → g2 q = h q := fun q u => (oN q (by omega)).trans (hFr q u)
  show aV X G 1 12 [(0, .ref 4)] [.ref 5, .ref 4] g2 7 2 133
  refine ab_pF8 (v := .ref 5) (kf := 0) (ty := .object "GlebeVowels$Tape") C (a_mem 251 (by decide +kernel) (by decide +kernel)) (by decide) rfl hI rfl (by decide +kernel) rfl rfl (Nat.le_of_ble_eq_true rfl) hO dX8_init_12 (fun g3 eg3 og3 => ?_)
  have hO : g3 4 = some (.inr (8, [.ref 5, .null, .null, .null, .null, .null, .null, .null, .null, .null, .null])) := eg3
  have b_tape : X7_at g3 5 zR := X7_off b_tape (fun q i1 i2 => og3 q (by omega))
  have hFr : ∀ q, q < 4 → g3 q = h q := fun q u => (og3 q (by omega)).trans (hFr q u)
  refine ab_aload_n C 0 rfl rfl dX8_init_15 ?_
  refine ab_new C (ci := 2) (fs := [.int 0, .null, .int 0, .int 0, .int 0, .null, .null, .null, .int 0, .null, .null, .null]) tyX2 tyX2_ok rfl inX2 (a_mem 98 (by decide +kernel) (by decide +kernel)) (a_mem 99 (by decide +kernel) (by decide +kernel)) (a_mem 56 (by decide +kernel) (by decide +kernel)) (fun G j hj => by rcases (show j = 0 ∨ j = 1 ∨ j = 2 ∨ j = 3 ∨ j = 4 ∨ j = 5 ∨ j = 6 ∨ j = 7 ∨ j = 8 ∨ j = 9 ∨ j = 10 ∨ j = 11 by omega) with rfl | rfl | rfl | rfl | rfl | rfl | rfl | rfl | rfl | rfl | rfl | rfl <;> rfl) (by decide) ⟨by decide, by decide⟩ dX8_init_16 (fun g4 eg4 og4 => ?_)
  refine ab_dup C rfl dX8_init_19 ?_
  refine ab_cI (st := [.ref 7, .ref 4]) C lm_X8_18 (X2_init_ok (xl X) (by decide) rfl eg4) [] rfl (by decide) rfl rfl (by decide) ⟨by decide, by decide⟩ (Nat.le_of_ble_eq_true rfl) dX8_init_20 (fun v g5 nxg5 pg5 => ?_)
  obtain ⟨rfl, rfl, b_now, oN⟩ := pg5
  have oN : ∀ q, q < 7 → g5 q = g3 q := fun q u => (oN q u).trans (og4 q (by omega))
  have hO := (oN 4 (by omega)).trans hO
  have b_tape : X7_at g5 5 zR := X7_off b_tape (fun q i1 i2 => oN q (by omega))
  have hFr : ∀ q, q < 4 → g5 q = h q := fun q u => (oN q (by omega)).trans (hFr q u)
  show aV X G 1 23 [(0, .ref 4)] [.ref 7, .ref 4] g5 15 10 183
  refine ab_pF8 (v := .ref 7) (kf := 1) (ty := .object "GlebeVowels$Land") C (a_mem 252 (by decide +kernel) (by decide +kernel)) (by decide) rfl hI rfl (by decide +kernel) rfl rfl (Nat.le_of_ble_eq_true rfl) hO dX8_init_23 (fun g6 eg6 og6 => ?_)
  have hO : g6 4 = some (.inr (8, [.ref 5, .ref 7, .null, .null, .null, .null, .null, .null, .null, .null, .null])) := eg6
  have b_tape : X7_at g6 5 zR := X7_off b_tape (fun q i1 i2 => og6 q (by omega))
  have b_now : X2_at g6 7 zR := X2_off b_now (fun q i1 i2 => og6 q (by omega))
  have hFr : ∀ q, q < 4 → g6 q = h q := fun q u => (og6 q (by omega)).trans (hFr q u)
  refine ab_aload_n C 0 rfl rfl dX8_init_26 ?_
  refine ab_new C (ci := 4) (fs := [.null, .int 0, .int 0]) tyX4 tyX4_ok rfl inX4 (a_mem 161 (by decide +kernel) (by decide +kernel)) (a_mem 162 (by decide +kernel) (by decide +kernel)) (a_mem 57 (by decide +kernel) (by decide +kernel)) (fun G j hj => by rcases (show j = 0 ∨ j = 1 ∨ j = 2 by omega) with rfl | rfl | rfl <;> rfl) (by decide) ⟨by decide, by decide⟩ dX8_init_27 (fun g7 eg7 og7 => ?_)
  refine ab_dup C rfl dX8_init_30 ?_
  refine ab_cI (st := [.ref 15, .ref 4]) C lm_X8_25 (X4_init_ok (xl X) (by decide) rfl eg7) [] rfl (by decide) rfl rfl (by decide) ⟨by decide, by decide⟩ (Nat.le_of_ble_eq_true rfl) dX8_init_31 (fun v g8 nxg8 pg8 => ?_)
  obtain ⟨rfl, rfl, b_past, oN⟩ := pg8
  have oN : ∀ q, q < 15 → g8 q = g6 q := fun q u => (oN q u).trans (og7 q (by omega))
  have hO := (oN 4 (by omega)).trans hO
  have b_tape : X7_at g8 5 zR := X7_off b_tape (fun q i1 i2 => oN q (by omega))
  have b_now : X2_at g8 7 zR := X2_off b_now (fun q i1 i2 => oN q (by omega))
  have hFr : ∀ q, q < 4 → g8 q = h q := fun q u => (oN q (by omega)).trans (hFr q u)
  show aV X G 1 34 [(0, .ref 4)] [.ref 15, .ref 4] g8 17 12 210
  refine ab_pF8 (v := .ref 15) (kf := 2) (ty := .object "GlebeVowels$Past") C (a_mem 253 (by decide +kernel) (by decide +kernel)) (by decide) rfl hI rfl (by decide +kernel) rfl rfl (Nat.le_of_ble_eq_true rfl) hO dX8_init_34 (fun g9 eg9 og9 => ?_)
  have hO : g9 4 = some (.inr (8, [.ref 5, .ref 7, .ref 15, .null, .null, .null, .null, .null, .null, .null, .null])) := eg9
  have b_tape : X7_at g9 5 zR := X7_off b_tape (fun q i1 i2 => og9 q (by omega))
  have b_now : X2_at g9 7 zR := X2_off b_now (fun q i1 i2 => og9 q (by omega))
  have b_past : X4_at g9 15 (fun _ => none) zR := X4_off b_past (fun q i1 i2 => og9 q (by omega))
  have hFr : ∀ q, q < 4 → g9 q = h q := fun q u => (og9 q (by omega)).trans (hFr q u)
  refine ab_aload_n C 0 rfl rfl dX8_init_37 ?_
  refine ab_iconst (v := (2 : Int32)) C dX8_init_38 (by decide) ?_
  refine ab_newq3 C (z := (2 : Int32)) (m := 2) (by decide) (by decide) (by decide) (a_mem 98 (by decide +kernel) (by decide +kernel)) (by decide) ⟨by decide, by decide⟩ dX8_init_39 (fun g10 eg10 og10 => ?_)
  have hO := (og10 4 (by omega)).trans hO
  have b_tape : X7_at g10 5 zR := X7_off b_tape (fun q i1 i2 => og10 q (by omega))
  have b_now : X2_at g10 7 zR := X2_off b_now (fun q i1 i2 => og10 q (by omega))
  have b_past : X4_at g10 15 (fun _ => none) zR := X4_off b_past (fun q i1 i2 => og10 q (by omega))
  have hFr : ∀ q, q < 4 → g10 q = h q := fun q u => (og10 q (by omega)).trans (hFr q u)
  have b_images : g10 17 = some (.inl (3, 2, .inr (.inr (.inr (.inr (fun _ => none)))))) := eg10
  show aV X G 1 42 [(0, .ref 4)] [.ref 17, .ref 4] g10 18 13 212
  refine ab_pF8 (v := .ref 17) (kf := 3) (ty := .array (.object "GlebeVowels$Land")) C (a_mem 254 (by decide +kernel) (by decide +kernel)) (by decide) rfl hI rfl (by decide +kernel) rfl rfl (Nat.le_of_ble_eq_true rfl) hO dX8_init_42 (fun g11 eg11 og11 => ?_)
  have hO : g11 4 = some (.inr (8, [.ref 5, .ref 7, .ref 15, .ref 17, .null, .null, .null, .null, .null, .null, .null])) := eg11
  have b_tape : X7_at g11 5 zR := X7_off b_tape (fun q i1 i2 => og11 q (by omega))
  have b_now : X2_at g11 7 zR := X2_off b_now (fun q i1 i2 => og11 q (by omega))
  have b_past : X4_at g11 15 (fun _ => none) zR := X4_off b_past (fun q i1 i2 => og11 q (by omega))
  have b_images : g11 17 = some (.inl (3, 2, .inr (.inr (.inr (.inr (fun _ => none)))))) := (og11 17 (by omega)).trans b_images
  have hFr : ∀ q, q < 4 → g11 q = h q := fun q u => (og11 q (by omega)).trans (hFr q u)
  refine ab_aload_n C 0 rfl rfl dX8_init_45 ?_
  refine ab_iconst (v := (4 : Int32)) C dX8_init_46 (by decide) ?_
  refine ab_newq4 C (z := (4 : Int32)) (m := 4) (by decide) (by decide) (by decide) (a_mem 179 (by decide +kernel) (by decide +kernel)) (by decide) ⟨by decide, by decide⟩ dX8_init_47 (fun g12 eg12 og12 => ?_)
  have hO := (og12 4 (by omega)).trans hO
  have b_tape : X7_at g12 5 zR := X7_off b_tape (fun q i1 i2 => og12 q (by omega))
  have b_now : X2_at g12 7 zR := X2_off b_now (fun q i1 i2 => og12 q (by omega))
  have b_past : X4_at g12 15 (fun _ => none) zR := X4_off b_past (fun q i1 i2 => og12 q (by omega))
  have b_images : g12 17 = some (.inl (3, 2, .inr (.inr (.inr (.inr (fun _ => none)))))) := (og12 17 (by omega)).trans b_images
  have hFr : ∀ q, q < 4 → g12 q = h q := fun q u => (og12 q (by omega)).trans (hFr q u)
  have b_sheets : g12 18 = some (.inl (4, 4, .inr (.inr (.inr (.inr (fun _ => none)))))) := eg12
  show aV X G 1 50 [(0, .ref 4)] [.ref 18, .ref 4] g12 19 14 216
  refine ab_pF8 (v := .ref 18) (kf := 4) (ty := .array (.object "GlebeVowels$Sheet")) C (a_mem 255 (by decide +kernel) (by decide +kernel)) (by decide) rfl hI rfl (by decide +kernel) rfl rfl (Nat.le_of_ble_eq_true rfl) hO dX8_init_50 (fun g13 eg13 og13 => ?_)
  have hO : g13 4 = some (.inr (8, [.ref 5, .ref 7, .ref 15, .ref 17, .ref 18, .null, .null, .null, .null, .null, .null])) := eg13
  have b_tape : X7_at g13 5 zR := X7_off b_tape (fun q i1 i2 => og13 q (by omega))
  have b_now : X2_at g13 7 zR := X2_off b_now (fun q i1 i2 => og13 q (by omega))
  have b_past : X4_at g13 15 (fun _ => none) zR := X4_off b_past (fun q i1 i2 => og13 q (by omega))
  have b_images : g13 17 = some (.inl (3, 2, .inr (.inr (.inr (.inr (fun _ => none)))))) := (og13 17 (by omega)).trans b_images
  have b_sheets : g13 18 = some (.inl (4, 4, .inr (.inr (.inr (.inr (fun _ => none)))))) := (og13 18 (by omega)).trans b_sheets
  have hFr : ∀ q, q < 4 → g13 q = h q := fun q u => (og13 q (by omega)).trans (hFr q u)
  refine ab_aload_n C 0 rfl rfl dX8_init_53 ?_
  refine ab_new C (ci := 2) (fs := [.int 0, .null, .int 0, .int 0, .int 0, .null, .null, .null, .int 0, .null, .null, .null]) tyX2 tyX2_ok rfl inX2 (a_mem 98 (by decide +kernel) (by decide +kernel)) (a_mem 99 (by decide +kernel) (by decide +kernel)) (a_mem 56 (by decide +kernel) (by decide +kernel)) (fun G j hj => by rcases (show j = 0 ∨ j = 1 ∨ j = 2 ∨ j = 3 ∨ j = 4 ∨ j = 5 ∨ j = 6 ∨ j = 7 ∨ j = 8 ∨ j = 9 ∨ j = 10 ∨ j = 11 by omega) with rfl | rfl | rfl | rfl | rfl | rfl | rfl | rfl | rfl | rfl | rfl | rfl <;> rfl) (by decide) ⟨by decide, by decide⟩ dX8_init_54 (fun g14 eg14 og14 => ?_)
  refine ab_dup C rfl dX8_init_57 ?_
  refine ab_cI (st := [.ref 19, .ref 4]) C lm_X8_18 (X2_init_ok (xl X) (by decide) rfl eg14) [] rfl (by decide) rfl rfl (by decide) ⟨by decide, by decide⟩ (Nat.le_of_ble_eq_true rfl) dX8_init_58 (fun v g15 nxg15 pg15 => ?_)
  obtain ⟨rfl, rfl, b_trial, oN⟩ := pg15
  have oN : ∀ q, q < 19 → g15 q = g13 q := fun q u => (oN q u).trans (og14 q (by omega))
  have hO := (oN 4 (by omega)).trans hO
  have b_tape : X7_at g15 5 zR := X7_off b_tape (fun q i1 i2 => oN q (by omega))
  have b_now : X2_at g15 7 zR := X2_off b_now (fun q i1 i2 => oN q (by omega))
  have b_past : X4_at g15 15 (fun _ => none) zR := X4_off b_past (fun q i1 i2 => oN q (by omega))
  have b_images : g15 17 = some (.inl (3, 2, .inr (.inr (.inr (.inr (fun _ => none)))))) := (oN 17 (by omega)).trans b_images
  have b_sheets : g15 18 = some (.inl (4, 4, .inr (.inr (.inr (.inr (fun _ => none)))))) := (oN 18 (by omega)).trans b_sheets
  have hFr : ∀ q, q < 4 → g15 q = h q := fun q u => (oN q (by omega)).trans (hFr q u)
  show aV X G 1 61 [(0, .ref 4)] [.ref 19, .ref 4] g15 27 22 266
  refine ab_pF8 (v := .ref 19) (kf := 5) (ty := .object "GlebeVowels$Land") C (a_mem 256 (by decide +kernel) (by decide +kernel)) (by decide) rfl hI rfl (by decide +kernel) rfl rfl (Nat.le_of_ble_eq_true rfl) hO dX8_init_61 (fun g16 eg16 og16 => ?_)
  have hO : g16 4 = some (.inr (8, [.ref 5, .ref 7, .ref 15, .ref 17, .ref 18, .ref 19, .null, .null, .null, .null, .null])) := eg16
  have b_tape : X7_at g16 5 zR := X7_off b_tape (fun q i1 i2 => og16 q (by omega))
  have b_now : X2_at g16 7 zR := X2_off b_now (fun q i1 i2 => og16 q (by omega))
  have b_past : X4_at g16 15 (fun _ => none) zR := X4_off b_past (fun q i1 i2 => og16 q (by omega))
  have b_images : g16 17 = some (.inl (3, 2, .inr (.inr (.inr (.inr (fun _ => none)))))) := (og16 17 (by omega)).trans b_images
  have b_sheets : g16 18 = some (.inl (4, 4, .inr (.inr (.inr (.inr (fun _ => none)))))) := (og16 18 (by omega)).trans b_sheets
  have b_trial : X2_at g16 19 zR := X2_off b_trial (fun q i1 i2 => og16 q (by omega))
  have hFr : ∀ q, q < 4 → g16 q = h q := fun q u => (og16 q (by omega)).trans (hFr q u)
  refine ab_aload_n C 0 rfl rfl dX8_init_64 ?_
  refine ab_new C (ci := 2) (fs := [.int 0, .null, .int 0, .int 0, .int 0, .null, .null, .null, .int 0, .null, .null, .null]) tyX2 tyX2_ok rfl inX2 (a_mem 98 (by decide +kernel) (by decide +kernel)) (a_mem 99 (by decide +kernel) (by decide +kernel)) (a_mem 56 (by decide +kernel) (by decide +kernel)) (fun G j hj => by rcases (show j = 0 ∨ j = 1 ∨ j = 2 ∨ j = 3 ∨ j = 4 ∨ j = 5 ∨ j = 6 ∨ j = 7 ∨ j = 8 ∨ j = 9 ∨ j = 10 ∨ j = 11 by omega) with rfl | rfl | rfl | rfl | rfl | rfl | rfl | rfl | rfl | rfl | rfl | rfl <;> rfl) (by decide) ⟨by decide, by decide⟩ dX8_init_65 (fun g17 eg17 og17 => ?_)
  refine ab_dup C rfl dX8_init_68 ?_
  refine ab_cI (st := [.ref 27, .ref 4]) C lm_X8_18 (X2_init_ok (xl X) (by decide) rfl eg17) [] rfl (by decide) rfl rfl (by decide) ⟨by decide, by decide⟩ (Nat.le_of_ble_eq_true rfl) dX8_init_69 (fun v g18 nxg18 pg18 => ?_)
  obtain ⟨rfl, rfl, b_earlier, oN⟩ := pg18
  have oN : ∀ q, q < 27 → g18 q = g16 q := fun q u => (oN q u).trans (og17 q (by omega))
  have hO := (oN 4 (by omega)).trans hO
  have b_tape : X7_at g18 5 zR := X7_off b_tape (fun q i1 i2 => oN q (by omega))
  have b_now : X2_at g18 7 zR := X2_off b_now (fun q i1 i2 => oN q (by omega))
  have b_past : X4_at g18 15 (fun _ => none) zR := X4_off b_past (fun q i1 i2 => oN q (by omega))
  have b_images : g18 17 = some (.inl (3, 2, .inr (.inr (.inr (.inr (fun _ => none)))))) := (oN 17 (by omega)).trans b_images
  have b_sheets : g18 18 = some (.inl (4, 4, .inr (.inr (.inr (.inr (fun _ => none)))))) := (oN 18 (by omega)).trans b_sheets
  have b_trial : X2_at g18 19 zR := X2_off b_trial (fun q i1 i2 => oN q (by omega))
  have hFr : ∀ q, q < 4 → g18 q = h q := fun q u => (oN q (by omega)).trans (hFr q u)
  show aV X G 1 72 [(0, .ref 4)] [.ref 27, .ref 4] g18 35 30 316
  refine ab_pF8 (v := .ref 27) (kf := 6) (ty := .object "GlebeVowels$Land") C (a_mem 257 (by decide +kernel) (by decide +kernel)) (by decide) rfl hI rfl (by decide +kernel) rfl rfl (Nat.le_of_ble_eq_true rfl) hO dX8_init_72 (fun g19 eg19 og19 => ?_)
  have hO : g19 4 = some (.inr (8, [.ref 5, .ref 7, .ref 15, .ref 17, .ref 18, .ref 19, .ref 27, .null, .null, .null, .null])) := eg19
  have b_tape : X7_at g19 5 zR := X7_off b_tape (fun q i1 i2 => og19 q (by omega))
  have b_now : X2_at g19 7 zR := X2_off b_now (fun q i1 i2 => og19 q (by omega))
  have b_past : X4_at g19 15 (fun _ => none) zR := X4_off b_past (fun q i1 i2 => og19 q (by omega))
  have b_images : g19 17 = some (.inl (3, 2, .inr (.inr (.inr (.inr (fun _ => none)))))) := (og19 17 (by omega)).trans b_images
  have b_sheets : g19 18 = some (.inl (4, 4, .inr (.inr (.inr (.inr (fun _ => none)))))) := (og19 18 (by omega)).trans b_sheets
  have b_trial : X2_at g19 19 zR := X2_off b_trial (fun q i1 i2 => og19 q (by omega))
  have b_earlier : X2_at g19 27 zR := X2_off b_earlier (fun q i1 i2 => og19 q (by omega))
  have hFr : ∀ q, q < 4 → g19 q = h q := fun q u => (og19 q (by omega)).trans (hFr q u)
  refine ab_aload_n C 0 rfl rfl dX8_init_75 ?_
  refine ab_new C (ci := 0) (fs := [.null, .int 0, .null, .int 0]) tyX0 tyX0_ok rfl inX0 (a_mem 181 (by decide +kernel) (by decide +kernel)) (a_mem 182 (by decide +kernel) (by decide +kernel)) (a_mem 58 (by decide +kernel) (by decide +kernel)) (fun G j hj => by rcases (show j = 0 ∨ j = 1 ∨ j = 2 ∨ j = 3 by omega) with rfl | rfl | rfl | rfl <;> rfl) (by decide) ⟨by decide, by decide⟩ dX8_init_76 (fun g20 eg20 og20 => ?_)
  refine ab_dup C rfl dX8_init_79 ?_
  refine ab_cI (st := [.ref 35, .ref 4]) C lm_X8_48 (X0_init_ok (xl X) (by decide) rfl eg20) [] rfl (by decide) rfl rfl (by decide) ⟨by decide, by decide⟩ (Nat.le_of_ble_eq_true rfl) dX8_init_80 (fun v g21 nxg21 pg21 => ?_)
  obtain ⟨rfl, rfl, b_sets, oN⟩ := pg21
  have oN : ∀ q, q < 35 → g21 q = g19 q := fun q u => (oN q u).trans (og20 q (by omega))
  have hO := (oN 4 (by omega)).trans hO
  have b_tape : X7_at g21 5 zR := X7_off b_tape (fun q i1 i2 => oN q (by omega))
  have b_now : X2_at g21 7 zR := X2_off b_now (fun q i1 i2 => oN q (by omega))
  have b_past : X4_at g21 15 (fun _ => none) zR := X4_off b_past (fun q i1 i2 => oN q (by omega))
  have b_images : g21 17 = some (.inl (3, 2, .inr (.inr (.inr (.inr (fun _ => none)))))) := (oN 17 (by omega)).trans b_images
  have b_sheets : g21 18 = some (.inl (4, 4, .inr (.inr (.inr (.inr (fun _ => none)))))) := (oN 18 (by omega)).trans b_sheets
  have b_trial : X2_at g21 19 zR := X2_off b_trial (fun q i1 i2 => oN q (by omega))
  have b_earlier : X2_at g21 27 zR := X2_off b_earlier (fun q i1 i2 => oN q (by omega))
  have hFr : ∀ q, q < 4 → g21 q = h q := fun q u => (oN q (by omega)).trans (hFr q u)
  show aV X G 1 83 [(0, .ref 4)] [.ref 35, .ref 4] g21 38 33 359
  refine ab_pF8 (v := .ref 35) (kf := 7) (ty := .object "GlebeVowels$CellSets") C (a_mem 258 (by decide +kernel) (by decide +kernel)) (by decide) rfl hI rfl (by decide +kernel) rfl rfl (Nat.le_of_ble_eq_true rfl) hO dX8_init_83 (fun g22 eg22 og22 => ?_)
  have hO : g22 4 = some (.inr (8, [.ref 5, .ref 7, .ref 15, .ref 17, .ref 18, .ref 19, .ref 27, .ref 35, .null, .null, .null])) := eg22
  have b_tape : X7_at g22 5 zR := X7_off b_tape (fun q i1 i2 => og22 q (by omega))
  have b_now : X2_at g22 7 zR := X2_off b_now (fun q i1 i2 => og22 q (by omega))
  have b_past : X4_at g22 15 (fun _ => none) zR := X4_off b_past (fun q i1 i2 => og22 q (by omega))
  have b_images : g22 17 = some (.inl (3, 2, .inr (.inr (.inr (.inr (fun _ => none)))))) := (og22 17 (by omega)).trans b_images
  have b_sheets : g22 18 = some (.inl (4, 4, .inr (.inr (.inr (.inr (fun _ => none)))))) := (og22 18 (by omega)).trans b_sheets
  have b_trial : X2_at g22 19 zR := X2_off b_trial (fun q i1 i2 => og22 q (by omega))
  have b_earlier : X2_at g22 27 zR := X2_off b_earlier (fun q i1 i2 => og22 q (by omega))
  have b_sets : X0_at g22 35 zR := X0_off b_sets (fun q i1 i2 => og22 q (by omega))
  have hFr : ∀ q, q < 4 → g22 q = h q := fun q u => (og22 q (by omega)).trans (hFr q u)
  refine ab_aload_n C 0 rfl rfl dX8_init_86 ?_
  refine ab_new C (ci := 6) (fs := [.null, .int 0, .int 0]) tyX6 tyX6_ok rfl inX6 (a_mem 203 (by decide +kernel) (by decide +kernel)) (a_mem 204 (by decide +kernel) (by decide +kernel)) (a_mem 60 (by decide +kernel) (by decide +kernel)) (fun G j hj => by rcases (show j = 0 ∨ j = 1 ∨ j = 2 by omega) with rfl | rfl | rfl <;> rfl) (by decide) ⟨by decide, by decide⟩ dX8_init_87 (fun g23 eg23 og23 => ?_)
  refine ab_dup C rfl dX8_init_90 ?_
  refine ab_cI (st := [.ref 38, .ref 4]) C lm_X8_55 (X6_init_ok (xl X) (by decide) rfl eg23) [] rfl (by decide) rfl rfl (by decide) ⟨by decide, by decide⟩ (Nat.le_of_ble_eq_true rfl) dX8_init_91 (fun v g24 nxg24 pg24 => ?_)
  obtain ⟨rfl, rfl, b_survey, oN⟩ := pg24
  have oN : ∀ q, q < 38 → g24 q = g22 q := fun q u => (oN q u).trans (og23 q (by omega))
  have hO := (oN 4 (by omega)).trans hO
  have b_tape : X7_at g24 5 zR := X7_off b_tape (fun q i1 i2 => oN q (by omega))
  have b_now : X2_at g24 7 zR := X2_off b_now (fun q i1 i2 => oN q (by omega))
  have b_past : X4_at g24 15 (fun _ => none) zR := X4_off b_past (fun q i1 i2 => oN q (by omega))
  have b_images : g24 17 = some (.inl (3, 2, .inr (.inr (.inr (.inr (fun _ => none)))))) := (oN 17 (by omega)).trans b_images
  have b_sheets : g24 18 = some (.inl (4, 4, .inr (.inr (.inr (.inr (fun _ => none)))))) := (oN 18 (by omega)).trans b_sheets
  have b_trial : X2_at g24 19 zR := X2_off b_trial (fun q i1 i2 => oN q (by omega))
  have b_earlier : X2_at g24 27 zR := X2_off b_earlier (fun q i1 i2 => oN q (by omega))
  have b_sets : X0_at g24 35 zR := X0_off b_sets (fun q i1 i2 => oN q (by omega))
  have hFr : ∀ q, q < 4 → g24 q = h q := fun q u => (oN q (by omega)).trans (hFr q u)
  show aV X G 1 94 [(0, .ref 4)] [.ref 38, .ref 4] g24 40 35 426
  refine ab_pF8 (v := .ref 38) (kf := 8) (ty := .object "GlebeVowels$Survey") C (a_mem 259 (by decide +kernel) (by decide +kernel)) (by decide) rfl hI rfl (by decide +kernel) rfl rfl (Nat.le_of_ble_eq_true rfl) hO dX8_init_94 (fun g25 eg25 og25 => ?_)
  have hO : g25 4 = some (.inr (8, [.ref 5, .ref 7, .ref 15, .ref 17, .ref 18, .ref 19, .ref 27, .ref 35, .ref 38, .null, .null])) := eg25
  have b_tape : X7_at g25 5 zR := X7_off b_tape (fun q i1 i2 => og25 q (by omega))
  have b_now : X2_at g25 7 zR := X2_off b_now (fun q i1 i2 => og25 q (by omega))
  have b_past : X4_at g25 15 (fun _ => none) zR := X4_off b_past (fun q i1 i2 => og25 q (by omega))
  have b_images : g25 17 = some (.inl (3, 2, .inr (.inr (.inr (.inr (fun _ => none)))))) := (og25 17 (by omega)).trans b_images
  have b_sheets : g25 18 = some (.inl (4, 4, .inr (.inr (.inr (.inr (fun _ => none)))))) := (og25 18 (by omega)).trans b_sheets
  have b_trial : X2_at g25 19 zR := X2_off b_trial (fun q i1 i2 => og25 q (by omega))
  have b_earlier : X2_at g25 27 zR := X2_off b_earlier (fun q i1 i2 => og25 q (by omega))
  have b_sets : X0_at g25 35 zR := X0_off b_sets (fun q i1 i2 => og25 q (by omega))
  have b_survey : X6_at g25 38 zR := X6_off b_survey (fun q i1 i2 => og25 q (by omega))
  have hFr : ∀ q, q < 4 → g25 q = h q := fun q u => (og25 q (by omega)).trans (hFr q u)
  refine ab_aload_n C 0 rfl rfl dX8_init_97 ?_
  refine ab_new C (ci := 3) (fs := [.null, .null, .null, .int 0]) tyX3 tyX3_ok rfl inX3 (a_mem 219 (by decide +kernel) (by decide +kernel)) (a_mem 220 (by decide +kernel) (by decide +kernel)) (a_mem 61 (by decide +kernel) (by decide +kernel)) (fun G j hj => by rcases (show j = 0 ∨ j = 1 ∨ j = 2 ∨ j = 3 by omega) with rfl | rfl | rfl | rfl <;> rfl) (by decide) ⟨by decide, by decide⟩ dX8_init_98 (fun g26 eg26 og26 => ?_)
  refine ab_dup C rfl dX8_init_101 ?_
  refine ab_cI (st := [.ref 40, .ref 4]) C lm_X8_62 (X3_init_ok (xl X) (by decide) rfl eg26) [] rfl (by decide) rfl rfl (by decide) ⟨by decide, by decide⟩ (Nat.le_of_ble_eq_true rfl) dX8_init_102 (fun v g27 nxg27 pg27 => ?_)
  obtain ⟨rfl, rfl, b_marriages, oN⟩ := pg27
  have oN : ∀ q, q < 40 → g27 q = g25 q := fun q u => (oN q u).trans (og26 q (by omega))
  have hO := (oN 4 (by omega)).trans hO
  have b_tape : X7_at g27 5 zR := X7_off b_tape (fun q i1 i2 => oN q (by omega))
  have b_now : X2_at g27 7 zR := X2_off b_now (fun q i1 i2 => oN q (by omega))
  have b_past : X4_at g27 15 (fun _ => none) zR := X4_off b_past (fun q i1 i2 => oN q (by omega))
  have b_images : g27 17 = some (.inl (3, 2, .inr (.inr (.inr (.inr (fun _ => none)))))) := (oN 17 (by omega)).trans b_images
  have b_sheets : g27 18 = some (.inl (4, 4, .inr (.inr (.inr (.inr (fun _ => none)))))) := (oN 18 (by omega)).trans b_sheets
  have b_trial : X2_at g27 19 zR := X2_off b_trial (fun q i1 i2 => oN q (by omega))
  have b_earlier : X2_at g27 27 zR := X2_off b_earlier (fun q i1 i2 => oN q (by omega))
  have b_sets : X0_at g27 35 zR := X0_off b_sets (fun q i1 i2 => oN q (by omega))
  have b_survey : X6_at g27 38 zR := X6_off b_survey (fun q i1 i2 => oN q (by omega))
  have hFr : ∀ q, q < 4 → g27 q = h q := fun q u => (oN q (by omega)).trans (hFr q u)
  show aV X G 1 105 [(0, .ref 4)] [.ref 40, .ref 4] g27 44 39 506
  refine ab_pF8 (v := .ref 40) (kf := 9) (ty := .object "GlebeVowels$Marriages") C (a_mem 260 (by decide +kernel) (by decide +kernel)) (by decide) rfl hI rfl (by decide +kernel) rfl rfl (Nat.le_of_ble_eq_true rfl) hO dX8_init_105 (fun g28 eg28 og28 => ?_)
  have hO : g28 4 = some (.inr (8, [.ref 5, .ref 7, .ref 15, .ref 17, .ref 18, .ref 19, .ref 27, .ref 35, .ref 38, .ref 40, .null])) := eg28
  have b_tape : X7_at g28 5 zR := X7_off b_tape (fun q i1 i2 => og28 q (by omega))
  have b_now : X2_at g28 7 zR := X2_off b_now (fun q i1 i2 => og28 q (by omega))
  have b_past : X4_at g28 15 (fun _ => none) zR := X4_off b_past (fun q i1 i2 => og28 q (by omega))
  have b_images : g28 17 = some (.inl (3, 2, .inr (.inr (.inr (.inr (fun _ => none)))))) := (og28 17 (by omega)).trans b_images
  have b_sheets : g28 18 = some (.inl (4, 4, .inr (.inr (.inr (.inr (fun _ => none)))))) := (og28 18 (by omega)).trans b_sheets
  have b_trial : X2_at g28 19 zR := X2_off b_trial (fun q i1 i2 => og28 q (by omega))
  have b_earlier : X2_at g28 27 zR := X2_off b_earlier (fun q i1 i2 => og28 q (by omega))
  have b_sets : X0_at g28 35 zR := X0_off b_sets (fun q i1 i2 => og28 q (by omega))
  have b_survey : X6_at g28 38 zR := X6_off b_survey (fun q i1 i2 => og28 q (by omega))
  have b_marriages : X3_at g28 40 zR := X3_off b_marriages (fun q i1 i2 => og28 q (by omega))
  have hFr : ∀ q, q < 4 → g28 q = h q := fun q u => (og28 q (by omega)).trans (hFr q u)
  refine ab_aload_n C 0 rfl rfl dX8_init_108 ?_
  refine ab_new C (ci := 1) (fs := [.null, .int 0]) tyX1 tyX1_ok rfl inX1 (a_mem 238 (by decide +kernel) (by decide +kernel)) (a_mem 239 (by decide +kernel) (by decide +kernel)) (a_mem 62 (by decide +kernel) (by decide +kernel)) (fun G j hj => by rcases (show j = 0 ∨ j = 1 by omega) with rfl | rfl <;> rfl) (by decide) ⟨by decide, by decide⟩ dX8_init_109 (fun g29 eg29 og29 => ?_)
  refine ab_dup C rfl dX8_init_112 ?_
  refine ab_cI (st := [.ref 44, .ref 4]) C lm_X8_69 (X1_init_ok (xl X) (by decide) rfl eg29) [] rfl (by decide) rfl rfl (by decide) ⟨by decide, by decide⟩ (Nat.le_of_ble_eq_true rfl) dX8_init_113 (fun v g30 nxg30 pg30 => ?_)
  obtain ⟨rfl, rfl, b_finder, oN⟩ := pg30
  have oN : ∀ q, q < 44 → g30 q = g28 q := fun q u => (oN q u).trans (og29 q (by omega))
  have hO := (oN 4 (by omega)).trans hO
  have b_tape : X7_at g30 5 zR := X7_off b_tape (fun q i1 i2 => oN q (by omega))
  have b_now : X2_at g30 7 zR := X2_off b_now (fun q i1 i2 => oN q (by omega))
  have b_past : X4_at g30 15 (fun _ => none) zR := X4_off b_past (fun q i1 i2 => oN q (by omega))
  have b_images : g30 17 = some (.inl (3, 2, .inr (.inr (.inr (.inr (fun _ => none)))))) := (oN 17 (by omega)).trans b_images
  have b_sheets : g30 18 = some (.inl (4, 4, .inr (.inr (.inr (.inr (fun _ => none)))))) := (oN 18 (by omega)).trans b_sheets
  have b_trial : X2_at g30 19 zR := X2_off b_trial (fun q i1 i2 => oN q (by omega))
  have b_earlier : X2_at g30 27 zR := X2_off b_earlier (fun q i1 i2 => oN q (by omega))
  have b_sets : X0_at g30 35 zR := X0_off b_sets (fun q i1 i2 => oN q (by omega))
  have b_survey : X6_at g30 38 zR := X6_off b_survey (fun q i1 i2 => oN q (by omega))
  have b_marriages : X3_at g30 40 zR := X3_off b_marriages (fun q i1 i2 => oN q (by omega))
  have hFr : ∀ q, q < 4 → g30 q = h q := fun q u => (oN q (by omega)).trans (hFr q u)
  show aV X G 1 116 [(0, .ref 4)] [.ref 44, .ref 4] g30 46 41 513
  refine ab_pF8 (v := .ref 44) (kf := 10) (ty := .object "GlebeVowels$ChangeFinder") C (a_mem 261 (by decide +kernel) (by decide +kernel)) (by decide) rfl hI rfl (by decide +kernel) rfl rfl (Nat.le_of_ble_eq_true rfl) hO dX8_init_116 (fun g31 eg31 og31 => ?_)
  have hO : g31 4 = some (.inr (8, [.ref 5, .ref 7, .ref 15, .ref 17, .ref 18, .ref 19, .ref 27, .ref 35, .ref 38, .ref 40, .ref 44])) := eg31
  have b_tape : X7_at g31 5 zR := X7_off b_tape (fun q i1 i2 => og31 q (by omega))
  have b_now : X2_at g31 7 zR := X2_off b_now (fun q i1 i2 => og31 q (by omega))
  have b_past : X4_at g31 15 (fun _ => none) zR := X4_off b_past (fun q i1 i2 => og31 q (by omega))
  have b_images : g31 17 = some (.inl (3, 2, .inr (.inr (.inr (.inr (fun _ => none)))))) := (og31 17 (by omega)).trans b_images
  have b_sheets : g31 18 = some (.inl (4, 4, .inr (.inr (.inr (.inr (fun _ => none)))))) := (og31 18 (by omega)).trans b_sheets
  have b_trial : X2_at g31 19 zR := X2_off b_trial (fun q i1 i2 => og31 q (by omega))
  have b_earlier : X2_at g31 27 zR := X2_off b_earlier (fun q i1 i2 => og31 q (by omega))
  have b_sets : X0_at g31 35 zR := X0_off b_sets (fun q i1 i2 => og31 q (by omega))
  have b_survey : X6_at g31 38 zR := X6_off b_survey (fun q i1 i2 => og31 q (by omega))
  have b_marriages : X3_at g31 40 zR := X3_off b_marriages (fun q i1 i2 => og31 q (by omega))
  have b_finder : X1_at g31 44 zR := X1_off b_finder (fun q i1 i2 => og31 q (by omega))
  have hFr : ∀ q, q < 4 → g31 q = h q := fun q u => (og31 q (by omega)).trans (hFr q u)
  exact ab_vret C R0 dX8_init_119 ⟨rfl, rfl, hO, b_tape, b_now, b_past, b_images, b_sheets, b_trial, b_earlier, b_sets, b_survey, b_marriages, b_finder, hFr⟩
