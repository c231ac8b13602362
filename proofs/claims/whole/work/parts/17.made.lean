/-! constructors, and the cells that are made later: the past, the images, the sheets -/
def zR : Rec := (fun _ => 0, fun _ _ => 0, fun _ _ => 0)
section AI
variable {X : aX} {G : aG} {cc : ByteArray} {nL d MC MS pc : Nat} {own : String} {lv lv' : List (Nat × Value)} {st : List Value} {h : aH} {nx k n : Nat}
theorem ab_pF0 (C : aC X G cc nL d MC MS RX0) {idx kf a : Nat} {fs : List Value} {v : Value} {ty : FieldType} (hl : Cond.fieldLink RX0 idx (TX0 kf).1 (TX0 kf).2.1 (TX0 kf).2.2.1 ∈ lw_gt) (hkf : kf < 4) (hfin : (TX0 kf).2.2.2 = true) (hi0 : (xt X).name = "<init>") (hdecl : (TX0 kf).1 = RX0) (hdsc : parseFieldDescriptor (TX0 kf).2.2.1 = some ty) (hn : narrow ty (a_ev G v) = a_ev G v) (hfit : fits ty (a_ev G v) = true) (hln : kf < fs.length) (ha : h a = some (.inr (0, fs))) (hd : decode cc pc = .ok (.putfield idx, 3))
    (kk : ∀ h1 : aH, h1 a = some (.inr (0, fs.set kf v)) → (∀ q, q ≠ a → h1 q = h q) → aV X G nL (pc + 3) lv st h1 nx k n) : aV X G nL pc lv (v :: .ref a :: st) h nx k n :=
  ab_putF C (ci := 0) rfl inX0 tyX0 tyX0_ok nmX0 hkf hl rfl hfin hi0 hdecl hdsc hn hfit hln ha hd kk
theorem ab_pF1 (C : aC X G cc nL d MC MS RX1) {idx kf a : Nat} {fs : List Value} {v : Value} {ty : FieldType} (hl : Cond.fieldLink RX1 idx (TX1 kf).1 (TX1 kf).2.1 (TX1 kf).2.2.1 ∈ lw_gt) (hkf : kf < 2) (hfin : (TX1 kf).2.2.2 = true) (hi0 : (xt X).name = "<init>") (hdecl : (TX1 kf).1 = RX1) (hdsc : parseFieldDescriptor (TX1 kf).2.2.1 = some ty) (hn : narrow ty (a_ev G v) = a_ev G v) (hfit : fits ty (a_ev G v) = true) (hln : kf < fs.length) (ha : h a = some (.inr (1, fs))) (hd : decode cc pc = .ok (.putfield idx, 3))
    (kk : ∀ h1 : aH, h1 a = some (.inr (1, fs.set kf v)) → (∀ q, q ≠ a → h1 q = h q) → aV X G nL (pc + 3) lv st h1 nx k n) : aV X G nL pc lv (v :: .ref a :: st) h nx k n :=
  ab_putF C (ci := 1) rfl inX1 tyX1 tyX1_ok nmX1 hkf hl rfl hfin hi0 hdecl hdsc hn hfit hln ha hd kk
theorem ab_pF2 (C : aC X G cc nL d MC MS RX2) {idx kf a : Nat} {fs : List Value} {v : Value} {ty : FieldType} (hl : Cond.fieldLink RX2 idx (TX2 kf).1 (TX2 kf).2.1 (TX2 kf).2.2.1 ∈ lw_gt) (hkf : kf < 12) (hfin : (TX2 kf).2.2.2 = true) (hi0 : (xt X).name = "<init>") (hdecl : (TX2 kf).1 = RX2) (hdsc : parseFieldDescriptor (TX2 kf).2.2.1 = some ty) (hn : narrow ty (a_ev G v) = a_ev G v) (hfit : fits ty (a_ev G v) = true) (hln : kf < fs.length) (ha : h a = some (.inr (2, fs))) (hd : decode cc pc = .ok (.putfield idx, 3))
    (kk : ∀ h1 : aH, h1 a = some (.inr (2, fs.set kf v)) → (∀ q, q ≠ a → h1 q = h q) → aV X G nL (pc + 3) lv st h1 nx k n) : aV X G nL pc lv (v :: .ref a :: st) h nx k n :=
  ab_putF C (ci := 2) rfl inX2 tyX2 tyX2_ok nmX2 hkf hl rfl hfin hi0 hdecl hdsc hn hfit hln ha hd kk
theorem ab_pF3 (C : aC X G cc nL d MC MS RX3) {idx kf a : Nat} {fs : List Value} {v : Value} {ty : FieldType} (hl : Cond.fieldLink RX3 idx (TX3 kf).1 (TX3 kf).2.1 (TX3 kf).2.2.1 ∈ lw_gt) (hkf : kf < 4) (hfin : (TX3 kf).2.2.2 = true) (hi0 : (xt X).name = "<init>") (hdecl : (TX3 kf).1 = RX3) (hdsc : parseFieldDescriptor (TX3 kf).2.2.1 = some ty) (hn : narrow ty (a_ev G v) = a_ev G v) (hfit : fits ty (a_ev G v) = true) (hln : kf < fs.length) (ha : h a = some (.inr (3, fs))) (hd : decode cc pc = .ok (.putfield idx, 3))
    (kk : ∀ h1 : aH, h1 a = some (.inr (3, fs.set kf v)) → (∀ q, q ≠ a → h1 q = h q) → aV X G nL (pc + 3) lv st h1 nx k n) : aV X G nL pc lv (v :: .ref a :: st) h nx k n :=
  ab_putF C (ci := 3) rfl inX3 tyX3 tyX3_ok nmX3 hkf hl rfl hfin hi0 hdecl hdsc hn hfit hln ha hd kk
theorem ab_pF4 (C : aC X G cc nL d MC MS RX4) {idx kf a : Nat} {fs : List Value} {v : Value} {ty : FieldType} (hl : Cond.fieldLink RX4 idx (TX4 kf).1 (TX4 kf).2.1 (TX4 kf).2.2.1 ∈ lw_gt) (hkf : kf < 3) (hfin : (TX4 kf).2.2.2 = true) (hi0 : (xt X).name = "<init>") (hdecl : (TX4 kf).1 = RX4) (hdsc : parseFieldDescriptor (TX4 kf).2.2.1 = some ty) (hn : narrow ty (a_ev G v) = a_ev G v) (hfit : fits ty (a_ev G v) = true) (hln : kf < fs.length) (ha : h a = some (.inr (4, fs))) (hd : decode cc pc = .ok (.putfield idx, 3))
    (kk : ∀ h1 : aH, h1 a = some (.inr (4, fs.set kf v)) → (∀ q, q ≠ a → h1 q = h q) → aV X G nL (pc + 3) lv st h1 nx k n) : aV X G nL pc lv (v :: .ref a :: st) h nx k n :=
  ab_putF C (ci := 4) rfl inX4 tyX4 tyX4_ok nmX4 hkf hl rfl hfin hi0 hdecl hdsc hn hfit hln ha hd kk
theorem ab_pF5 (C : aC X G cc nL d MC MS RX5) {idx kf a : Nat} {fs : List Value} {v : Value} {ty : FieldType} (hl : Cond.fieldLink RX5 idx (TX5 kf).1 (TX5 kf).2.1 (TX5 kf).2.2.1 ∈ lw_gt) (hkf : kf < 2) (hfin : (TX5 kf).2.2.2 = true) (hi0 : (xt X).name = "<init>") (hdecl : (TX5 kf).1 = RX5) (hdsc : parseFieldDescriptor (TX5 kf).2.2.1 = some ty) (hn : narrow ty (a_ev G v) = a_ev G v) (hfit : fits ty (a_ev G v) = true) (hln : kf < fs.length) (ha : h a = some (.inr (5, fs))) (hd : decode cc pc = .ok (.putfield idx, 3))
    (kk : ∀ h1 : aH, h1 a = some (.inr (5, fs.set kf v)) → (∀ q, q ≠ a → h1 q = h q) → aV X G nL (pc + 3) lv st h1 nx k n) : aV X G nL pc lv (v :: .ref a :: st) h nx k n :=
  ab_putF C (ci := 5) rfl inX5 tyX5 tyX5_ok nmX5 hkf hl rfl hfin hi0 hdecl hdsc hn hfit hln ha hd kk
theorem ab_pF6 (C : aC X G cc nL d MC MS RX6) {idx kf a : Nat} {fs : List Value} {v : Value} {ty : FieldType} (hl : Cond.fieldLink RX6 idx (TX6 kf).1 (TX6 kf).2.1 (TX6 kf).2.2.1 ∈ lw_gt) (hkf : kf < 3) (hfin : (TX6 kf).2.2.2 = true) (hi0 : (xt X).name = "<init>") (hdecl : (TX6 kf).1 = RX6) (hdsc : parseFieldDescriptor (TX6 kf).2.2.1 = some ty) (hn : narrow ty (a_ev G v) = a_ev G v) (hfit : fits ty (a_ev G v) = true) (hln : kf < fs.length) (ha : h a = some (.inr (6, fs))) (hd : decode cc pc = .ok (.putfield idx, 3))
    (kk : ∀ h1 : aH, h1 a = some (.inr (6, fs.set kf v)) → (∀ q, q ≠ a → h1 q = h q) → aV X G nL (pc + 3) lv st h1 nx k n) : aV X G nL pc lv (v :: .ref a :: st) h nx k n :=
  ab_putF C (ci := 6) rfl inX6 tyX6 tyX6_ok nmX6 hkf hl rfl hfin hi0 hdecl hdsc hn hfit hln ha hd kk
theorem ab_pF7 (C : aC X G cc nL d MC MS RX7) {idx kf a : Nat} {fs : List Value} {v : Value} {ty : FieldType} (hl : Cond.fieldLink RX7 idx (TX7 kf).1 (TX7 kf).2.1 (TX7 kf).2.2.1 ∈ lw_gt) (hkf : kf < 3) (hfin : (TX7 kf).2.2.2 = true) (hi0 : (xt X).name = "<init>") (hdecl : (TX7 kf).1 = RX7) (hdsc : parseFieldDescriptor (TX7 kf).2.2.1 = some ty) (hn : narrow ty (a_ev G v) = a_ev G v) (hfit : fits ty (a_ev G v) = true) (hln : kf < fs.length) (ha : h a = some (.inr (7, fs))) (hd : decode cc pc = .ok (.putfield idx, 3))
    (kk : ∀ h1 : aH, h1 a = some (.inr (7, fs.set kf v)) → (∀ q, q ≠ a → h1 q = h q) → aV X G nL (pc + 3) lv st h1 nx k n) : aV X G nL pc lv (v :: .ref a :: st) h nx k n :=
  ab_putF C (ci := 7) rfl inX7 tyX7 tyX7_ok nmX7 hkf hl rfl hfin hi0 hdecl hdsc hn hfit hln ha hd kk
theorem ab_pF8 (C : aC X G cc nL d MC MS RX8) {idx kf a : Nat} {fs : List Value} {v : Value} {ty : FieldType} (hl : Cond.fieldLink RX8 idx (TX8 kf).1 (TX8 kf).2.1 (TX8 kf).2.2.1 ∈ lw_gt) (hkf : kf < 11) (hfin : (TX8 kf).2.2.2 = true) (hi0 : (xt X).name = "<init>") (hdecl : (TX8 kf).1 = RX8) (hdsc : parseFieldDescriptor (TX8 kf).2.2.1 = some ty) (hn : narrow ty (a_ev G v) = a_ev G v) (hfit : fits ty (a_ev G v) = true) (hln : kf < fs.length) (ha : h a = some (.inr (8, fs))) (hd : decode cc pc = .ok (.putfield idx, 3))
    (kk : ∀ h1 : aH, h1 a = some (.inr (8, fs.set kf v)) → (∀ q, q ≠ a → h1 q = h q) → aV X G nL (pc + 3) lv st h1 nx k n) : aV X G nL pc lv (v :: .ref a :: st) h nx k n :=
  ab_putF C (ci := 8) rfl inX8 tyX8 tyX8_ok nmX8 hkf hl rfl hfin hi0 hdecl hdsc hn hfit hln ha hd kk
theorem ab_pF9 (C : aC X G cc nL d MC MS RX9) {idx kf a : Nat} {fs : List Value} {v : Value} {ty : FieldType} (hl : Cond.fieldLink RX9 idx (TX9 kf).1 (TX9 kf).2.1 (TX9 kf).2.2.1 ∈ lw_gt) (hkf : kf < 30) (hfin : (TX9 kf).2.2.2 = true) (hi0 : (xt X).name = "<init>") (hdecl : (TX9 kf).1 = RX9) (hdsc : parseFieldDescriptor (TX9 kf).2.2.1 = some ty) (hn : narrow ty (a_ev G v) = a_ev G v) (hfit : fits ty (a_ev G v) = true) (hln : kf < fs.length) (ha : h a = some (.inr (9, fs))) (hd : decode cc pc = .ok (.putfield idx, 3))
    (kk : ∀ h1 : aH, h1 a = some (.inr (9, fs.set kf v)) → (∀ q, q ≠ a → h1 q = h q) → aV X G nL (pc + 3) lv st h1 nx k n) : aV X G nL pc lv (v :: .ref a :: st) h nx k n :=
  ab_putF C (ci := 9) rfl inX9 tyX9 tyX9_ok nmX9 hkf hl rfl hfin hi0 hdecl hdsc hn hfit hln ha hd kk
end AI
theorem a_mn24 (x : Int32) : ¬ a_max 0 (a_min x 24) < 0 ∧ (a_max 0 (a_min x 24)).toNatClampNeg ≤ 24 := by
  have key : ∀ z : Int32, ¬ z < 0 → z ≤ 24 → ¬ z < 0 ∧ z.toNatClampNeg ≤ 24 := by
    intro z h1 h2
    refine ⟨h1, ?_⟩
    have h3 := Int32.le_iff_toInt_le.mp h2
    have h4 : (24 : Int32).toInt = 24 := by decide
    rw [h4] at h3
    show z.toInt.toNat ≤ 24
    omega
  unfold a_max a_min
  by_cases q : 24 < x
  · rw [if_pos q]
    exact ⟨by decide, by decide⟩
  · rw [if_neg q]
    by_cases p : 0 < x
    · rw [if_pos p]
      exact key x (by intro w; have w1 := Int32.lt_iff_toInt_lt.mp w; have w2 := Int32.lt_iff_toInt_lt.mp p; omega) (Int32.not_lt.mp q)
    · rw [if_neg p]
      exact ⟨by decide, by decide⟩
theorem dX0_init_0 : decode cX0_init 0 = .ok (.aload_n 0, 1) := by decide +kernel
theorem dX0_init_1 : decode cX0_init 1 = .ok (.invokespecial 3, 3) := by decide +kernel
theorem dX0_init_4 : decode cX0_init 4 = .ok (.aload_n 0, 1) := by decide +kernel
theorem dX0_init_5 : decode cX0_init 5 = .ok (.bipush 36, 2) := by decide +kernel
theorem dX0_init_7 : decode cX0_init 7 = .ok (.newarray .long, 2) := by decide +kernel
theorem dX0_init_9 : decode cX0_init 9 = .ok (.putfield 9, 3) := by decide +kernel
theorem dX0_init_12 : decode cX0_init 12 = .ok (.aload_n 0, 1) := by decide +kernel
theorem dX0_init_13 : decode cX0_init 13 = .ok (.iconst 3, 1) := by decide +kernel
theorem dX0_init_14 : decode cX0_init 14 = .ok (.iconst 3, 1) := by decide +kernel
theorem dX0_init_15 : decode cX0_init 15 = .ok (.invokestatic 15, 3) := by decide +kernel
theorem dX0_init_18 : decode cX0_init 18 = .ok (.newarray .int, 2) := by decide +kernel
theorem dX0_init_20 : decode cX0_init 20 = .ok (.putfield 21, 3) := by decide +kernel
theorem dX0_init_23 : decode cX0_init 23 = .ok (.return_, 1) := by decide +kernel
set_option maxRecDepth 100000 in
set_option maxHeartbeats 4000000 in
theorem X0_init_ok (l : Launch) {h : aH} {nx a0 : Nat} (h4 : 4 ≤ a0) (hn : nx = a0 + 1) (hO : h a0 = some (.inr (0, [.null, .int 0, .null, .int 0]))) : aOk l 1 2 39 yX0_init cX0_init 1 none [.ref a0] h nx (fun v h1 nx1 => v = none ∧ nx1 = a0 + 3 ∧ X0_at h1 a0 zR ∧ ∀ q, q < a0 → h1 q = h q) := by
  refine aOk.of (by decide +kernel) (Nat.le_of_ble_eq_true rfl) (fun X G hX C R0 hI => ?_)
  subst hX; subst hn
  have hI := hI rfl
  have hFr : ∀ q, q < a0 → h q = h q := fun _ _ => rfl
  show aV X G 1 0 [(0, .ref a0)] [] h (a0 + 1) 0 0
  refine ab_aload_n C 0 rfl rfl dX0_init_0 ?_
  refine ab_objInit C (a_mem 186 (by decide +kernel) (by decide +kernel)) (a_mem 79 (by decide +kernel) (by decide +kernel)) (a_mem 80 (by decide +kernel) (by decide +kernel)) (by decide) dX0_init_1 ?_
  refine ab_aload_n C 0 rfl rfl dX0_init_4 ?_
  refine ab_bipush (v := (36 : Int32)) C dX0_init_5 (by decide) ?_
  refine ab_newaJ (z := (36 : Int32)) (m := 36) C (by decide) (by decide) (by decide) (a_mem 160 (by decide +kernel) (by decide +kernel)) (by omega) ⟨by decide, by decide⟩ dX0_init_7 (fun g1 eg1 og1 => ?_)
  have hO := (og1 a0 (by omega)).trans hO
  have f1 := eg1
  have hFr : ∀ q, q < a0 → g1 q = h q := fun q u => (og1 q (by omega)).trans (hFr q u)
  refine ab_pF0 (v := .ref (a0 + 1)) (kf := 0) (ty := .array .long) C (a_mem 190 (by decide +kernel) (by decide +kernel)) (by decide) rfl hI rfl (by decide +kernel) rfl rfl (Nat.le_of_ble_eq_true rfl) hO dX0_init_9 (fun g2 eg2 og2 => ?_)
  have hO : g2 a0 = some (.inr (0, [.ref (a0 + 1), .int 0, .null, .int 0])) := eg2
  have f1 := (og2 _ (by omega)).trans f1
  have hFr : ∀ q, q < a0 → g2 q = h q := fun q u => (og2 q (by omega)).trans (hFr q u)
  refine ab_aload_n C 0 rfl rfl dX0_init_12 ?_
  refine ab_iconst (v := (3 : Int32)) C dX0_init_13 (by decide) ?_
  refine ab_iconst (v := (3 : Int32)) C dX0_init_14 (by decide) ?_
  refine ab_mmax C (own := RX0) (a_mem 187 (by decide +kernel) (by decide +kernel)) (Nat.le_of_ble_eq_true rfl) ⟨by decide, by decide⟩ (Nat.le_of_ble_eq_true rfl) dX0_init_15 ?_
  refine ab_newaI (z := (a_max (3 : Int32) (3 : Int32))) (m := 3) C (by decide) (by decide) (by decide) (a_mem 97 (by decide +kernel) (by decide +kernel)) (by omega) ⟨by decide, by decide⟩ dX0_init_18 (fun g3 eg3 og3 => ?_)
  have hO := (og3 a0 (by omega)).trans hO
  have f1 := (og3 _ (by omega)).trans f1
  have f2 := eg3
  have hFr : ∀ q, q < a0 → g3 q = h q := fun q u => (og3 q (by omega)).trans (hFr q u)
  refine ab_pF0 (v := .ref (a0 + 2)) (kf := 2) (ty := .array .int) C (a_mem 192 (by decide +kernel) (by decide +kernel)) (by decide) rfl hI rfl (by decide +kernel) rfl rfl (Nat.le_of_ble_eq_true rfl) hO dX0_init_20 (fun g4 eg4 og4 => ?_)
  have hO : g4 a0 = some (.inr (0, [.ref (a0 + 1), .int 0, .ref (a0 + 2), .int 0])) := eg4
  have f1 := (og4 _ (by omega)).trans f1
  have f2 := (og4 _ (by omega)).trans f2
  have hFr : ∀ q, q < a0 → g4 q = h q := fun q u => (og4 q (by omega)).trans (hFr q u)
  refine aV.widen (k' := 2) (n' := 39) (by omega) (by omega) ?_
  exact ab_vret C R0 dX0_init_23 ⟨rfl, rfl, ⟨hO, f1, f2⟩, hFr⟩
theorem dX1_init_0 : decode cX1_init 0 = .ok (.aload_n 0, 1) := by decide +kernel
theorem dX1_init_1 : decode cX1_init 1 = .ok (.invokespecial 3, 3) := by decide +kernel
theorem dX1_init_4 : decode cX1_init 4 = .ok (.aload_n 0, 1) := by decide +kernel
theorem dX1_init_5 : decode cX1_init 5 = .ok (.iconst 5, 1) := by decide +kernel
theorem dX1_init_6 : decode cX1_init 6 = .ok (.newarray .int, 2) := by decide +kernel
theorem dX1_init_8 : decode cX1_init 8 = .ok (.putfield 9, 3) := by decide +kernel
theorem dX1_init_11 : decode cX1_init 11 = .ok (.return_, 1) := by decide +kernel
set_option maxRecDepth 100000 in
set_option maxHeartbeats 4000000 in
theorem X1_init_ok (l : Launch) {h : aH} {nx a0 : Nat} (h4 : 4 ≤ a0) (hn : nx = a0 + 1) (hO : h a0 = some (.inr (1, [.null, .int 0]))) : aOk l 1 1 5 yX1_init cX1_init 1 none [.ref a0] h nx (fun v h1 nx1 => v = none ∧ nx1 = a0 + 2 ∧ X1_at h1 a0 zR ∧ ∀ q, q < a0 → h1 q = h q) := by
  refine aOk.of (by decide +kernel) (Nat.le_of_ble_eq_true rfl) (fun X G hX C R0 hI => ?_)
  subst hX; subst hn
  have hI := hI rfl
  have hFr : ∀ q, q < a0 → h q = h q := fun _ _ => rfl
  show aV X G 1 0 [(0, .ref a0)] [] h (a0 + 1) 0 0
  refine ab_aload_n C 0 rfl rfl dX1_init_0 ?_
  refine ab_objInit C (a_mem 243 (by decide +kernel) (by decide +kernel)) (a_mem 79 (by decide +kernel) (by decide +kernel)) (a_mem 80 (by decide +kernel) (by decide +kernel)) (by decide) dX1_init_1 ?_
  refine ab_aload_n C 0 rfl rfl dX1_init_4 ?_
  refine ab_iconst (v := (5 : Int32)) C dX1_init_5 (by decide) ?_
  refine ab_newaI (z := (5 : Int32)) (m := 5) C (by decide) (by decide) (by decide) (a_mem 97 (by decide +kernel) (by decide +kernel)) (by omega) ⟨by decide, by decide⟩ dX1_init_6 (fun g1 eg1 og1 => ?_)
  have hO := (og1 a0 (by omega)).trans hO
  have f1 := eg1
  have hFr : ∀ q, q < a0 → g1 q = h q := fun q u => (og1 q (by omega)).trans (hFr q u)
  refine ab_pF1 (v := .ref (a0 + 1)) (kf := 0) (ty := .array .int) C (a_mem 244 (by decide +kernel) (by decide +kernel)) (by decide) rfl hI rfl (by decide +kernel) rfl rfl (Nat.le_of_ble_eq_true rfl) hO dX1_init_8 (fun g2 eg2 og2 => ?_)
  have hO : g2 a0 = some (.inr (1, [.ref (a0 + 1), .int 0])) := eg2
  have f1 := (og2 _ (by omega)).trans f1
  have hFr : ∀ q, q < a0 → g2 q = h q := fun q u => (og2 q (by omega)).trans (hFr q u)
  refine aV.widen (k' := 1) (n' := 5) (by omega) (by omega) ?_
  exact ab_vret C R0 dX1_init_11 ⟨rfl, rfl, ⟨hO, f1⟩, hFr⟩
theorem dX2_init_0 : decode cX2_init 0 = .ok (.aload_n 0, 1) := by decide +kernel
theorem dX2_init_1 : decode cX2_init 1 = .ok (.invokespecial 3, 3) := by decide +kernel
theorem dX2_init_4 : decode cX2_init 4 = .ok (.aload_n 0, 1) := by decide +kernel
theorem dX2_init_5 : decode cX2_init 5 = .ok (.bipush 6, 2) := by decide +kernel
theorem dX2_init_7 : decode cX2_init 7 = .ok (.newarray .int, 2) := by decide +kernel
theorem dX2_init_9 : decode cX2_init 9 = .ok (.putfield 9, 3) := by decide +kernel
theorem dX2_init_12 : decode cX2_init 12 = .ok (.aload_n 0, 1) := by decide +kernel
theorem dX2_init_13 : decode cX2_init 13 = .ok (.iconst 4, 1) := by decide +kernel
theorem dX2_init_14 : decode cX2_init 14 = .ok (.newarray .int, 2) := by decide +kernel
theorem dX2_init_16 : decode cX2_init 16 = .ok (.putfield 15, 3) := by decide +kernel
theorem dX2_init_19 : decode cX2_init 19 = .ok (.aload_n 0, 1) := by decide +kernel
theorem dX2_init_20 : decode cX2_init 20 = .ok (.iconst 4, 1) := by decide +kernel
theorem dX2_init_21 : decode cX2_init 21 = .ok (.newarray .int, 2) := by decide +kernel
theorem dX2_init_23 : decode cX2_init 23 = .ok (.putfield 18, 3) := by decide +kernel
theorem dX2_init_26 : decode cX2_init 26 = .ok (.aload_n 0, 1) := by decide +kernel
theorem dX2_init_27 : decode cX2_init 27 = .ok (.iconst 5, 1) := by decide +kernel
theorem dX2_init_28 : decode cX2_init 28 = .ok (.newarray .int, 2) := by decide +kernel
theorem dX2_init_30 : decode cX2_init 30 = .ok (.putfield 21, 3) := by decide +kernel
theorem dX2_init_33 : decode cX2_init 33 = .ok (.aload_n 0, 1) := by decide +kernel
theorem dX2_init_34 : decode cX2_init 34 = .ok (.bipush 6, 2) := by decide +kernel
theorem dX2_init_36 : decode cX2_init 36 = .ok (.newarray .long, 2) := by decide +kernel
theorem dX2_init_38 : decode cX2_init 38 = .ok (.putfield 24, 3) := by decide +kernel
theorem dX2_init_41 : decode cX2_init 41 = .ok (.aload_n 0, 1) := by decide +kernel
theorem dX2_init_42 : decode cX2_init 42 = .ok (.bipush 7, 2) := by decide +kernel
theorem dX2_init_44 : decode cX2_init 44 = .ok (.newarray .long, 2) := by decide +kernel
theorem dX2_init_46 : decode cX2_init 46 = .ok (.putfield 28, 3) := by decide +kernel
theorem dX2_init_49 : decode cX2_init 49 = .ok (.aload_n 0, 1) := by decide +kernel
theorem dX2_init_50 : decode cX2_init 50 = .ok (.bipush 6, 2) := by decide +kernel
theorem dX2_init_52 : decode cX2_init 52 = .ok (.newarray .long, 2) := by decide +kernel
theorem dX2_init_54 : decode cX2_init 54 = .ok (.putfield 31, 3) := by decide +kernel
theorem dX2_init_57 : decode cX2_init 57 = .ok (.return_, 1) := by decide +kernel
set_option maxRecDepth 100000 in
set_option maxHeartbeats 4000000 in
theorem X2_init_ok (l : Launch) {h : aH} {nx a0 : Nat} (h4 : 4 ≤ a0) (hn : nx = a0 + 1) (hO : h a0 = some (.inr (2, [.int 0, .null, .int 0, .int 0, .int 0, .null, .null, .null, .int 0, .null, .null, .null]))) : aOk l 1 7 38 yX2_init cX2_init 1 none [.ref a0] h nx (fun v h1 nx1 => v = none ∧ nx1 = a0 + 8 ∧ X2_at h1 a0 zR ∧ ∀ q, q < a0 → h1 q = h q) := by
  refine aOk.of (by decide +kernel) (Nat.le_of_ble_eq_true rfl) (fun X G hX C R0 hI => ?_)
  subst hX; subst hn
  have hI := hI rfl
  have hFr : ∀ q, q < a0 → h q = h q := fun _ _ => rfl
  show aV X G 1 0 [(0, .ref a0)] [] h (a0 + 1) 0 0
  refine ab_aload_n C 0 rfl rfl dX2_init_0 ?_
  refine ab_objInit C (a_mem 103 (by decide +kernel) (by decide +kernel)) (a_mem 79 (by decide +kernel) (by decide +kernel)) (a_mem 80 (by decide +kernel) (by decide +kernel)) (by decide) dX2_init_1 ?_
  refine ab_aload_n C 0 rfl rfl dX2_init_4 ?_
  refine ab_bipush (v := (6 : Int32)) C dX2_init_5 (by decide) ?_
  refine ab_newaI (z := (6 : Int32)) (m := 6) C (by decide) (by decide) (by decide) (a_mem 97 (by decide +kernel) (by decide +kernel)) (by omega) ⟨by decide, by decide⟩ dX2_init_7 (fun g1 eg1 og1 => ?_)
  have hO := (og1 a0 (by omega)).trans hO
  have f1 := eg1
  have hFr : ∀ q, q < a0 → g1 q = h q := fun q u => (og1 q (by omega)).trans (hFr q u)
  refine ab_pF2 (v := .ref (a0 + 1)) (kf := 1) (ty := .array .int) C (a_mem 107 (by decide +kernel) (by decide +kernel)) (by decide) rfl hI rfl (by decide +kernel) rfl rfl (Nat.le_of_ble_eq_true rfl) hO dX2_init_9 (fun g2 eg2 og2 => ?_)
  have hO : g2 a0 = some (.inr (2, [.int 0, .ref (a0 + 1), .int 0, .int 0, .int 0, .null, .null, .null, .int 0, .null, .null, .null])) := eg2
  have f1 := (og2 _ (by omega)).trans f1
  have hFr : ∀ q, q < a0 → g2 q = h q := fun q u => (og2 q (by omega)).trans (hFr q u)
  refine ab_aload_n C 0 rfl rfl dX2_init_12 ?_
  refine ab_iconst (v := (4 : Int32)) C dX2_init_13 (by decide) ?_
  refine ab_newaI (z := (4 : Int32)) (m := 4) C (by decide) (by decide) (by decide) (a_mem 97 (by decide +kernel) (by decide +kernel)) (by omega) ⟨by decide, by decide⟩ dX2_init_14 (fun g3 eg3 og3 => ?_)
  have hO := (og3 a0 (by omega)).trans hO
  have f1 := (og3 _ (by omega)).trans f1
  have f2 := eg3
  have hFr : ∀ q, q < a0 → g3 q = h q := fun q u => (og3 q (by omega)).trans (hFr q u)
  refine ab_pF2 (v := .ref (a0 + 2)) (kf := 5) (ty := .array .int) C (a_mem 119 (by decide +kernel) (by decide +kernel)) (by decide) rfl hI rfl (by decide +kernel) rfl rfl (Nat.le_of_ble_eq_true rfl) hO dX2_init_16 (fun g4 eg4 og4 => ?_)
  have hO : g4 a0 = some (.inr (2, [.int 0, .ref (a0 + 1), .int 0, .int 0, .int 0, .ref (a0 + 2), .null, .null, .int 0, .null, .null, .null])) := eg4
  have f1 := (og4 _ (by omega)).trans f1
  have f2 := (og4 _ (by omega)).trans f2
  have hFr : ∀ q, q < a0 → g4 q = h q := fun q u => (og4 q (by omega)).trans (hFr q u)
  refine ab_aload_n C 0 rfl rfl dX2_init_19 ?_
  refine ab_iconst (v := (4 : Int32)) C dX2_init_20 (by decide) ?_
  refine ab_newaI (z := (4 : Int32)) (m := 4) C (by decide) (by decide) (by decide) (a_mem 97 (by decide +kernel) (by decide +kernel)) (by omega) ⟨by decide, by decide⟩ dX2_init_21 (fun g5 eg5 og5 => ?_)
  have hO := (og5 a0 (by omega)).trans hO
  have f1 := (og5 _ (by omega)).trans f1
  have f2 := (og5 _ (by omega)).trans f2
  have f3 := eg5
  have hFr : ∀ q, q < a0 → g5 q = h q := fun q u => (og5 q (by omega)).trans (hFr q u)
  refine ab_pF2 (v := .ref (a0 + 3)) (kf := 6) (ty := .array .int) C (a_mem 122 (by decide +kernel) (by decide +kernel)) (by decide) rfl hI rfl (by decide +kernel) rfl rfl (Nat.le_of_ble_eq_true rfl) hO dX2_init_23 (fun g6 eg6 og6 => ?_)
  have hO : g6 a0 = some (.inr (2, [.int 0, .ref (a0 + 1), .int 0, .int 0, .int 0, .ref (a0 + 2), .ref (a0 + 3), .null, .int 0, .null, .null, .null])) := eg6
  have f1 := (og6 _ (by omega)).trans f1
  have f2 := (og6 _ (by omega)).trans f2
  have f3 := (og6 _ (by omega)).trans f3
  have hFr : ∀ q, q < a0 → g6 q = h q := fun q u => (og6 q (by omega)).trans (hFr q u)
  refine ab_aload_n C 0 rfl rfl dX2_init_26 ?_
  refine ab_iconst (v := (5 : Int32)) C dX2_init_27 (by decide) ?_
  refine ab_newaI (z := (5 : Int32)) (m := 5) C (by decide) (by decide) (by decide) (a_mem 97 (by decide +kernel) (by decide +kernel)) (by omega) ⟨by decide, by decide⟩ dX2_init_28 (fun g7 eg7 og7 => ?_)
  have hO := (og7 a0 (by omega)).trans hO
  have f1 := (og7 _ (by omega)).trans f1
  have f2 := (og7 _ (by omega)).trans f2
  have f3 := (og7 _ (by omega)).trans f3
  have f4 := eg7
  have hFr : ∀ q, q < a0 → g7 q = h q := fun q u => (og7 q (by omega)).trans (hFr q u)
  refine ab_pF2 (v := .ref (a0 + 4)) (kf := 7) (ty := .array .int) C (a_mem 125 (by decide +kernel) (by decide +kernel)) (by decide) rfl hI rfl (by decide +kernel) rfl rfl (Nat.le_of_ble_eq_true rfl) hO dX2_init_30 (fun g8 eg8 og8 => ?_)
  have hO : g8 a0 = some (.inr (2, [.int 0, .ref (a0 + 1), .int 0, .int 0, .int 0, .ref (a0 + 2), .ref (a0 + 3), .ref (a0 + 4), .int 0, .null, .null, .null])) := eg8
  have f1 := (og8 _ (by omega)).trans f1
  have f2 := (og8 _ (by omega)).trans f2
  have f3 := (og8 _ (by omega)).trans f3
  have f4 := (og8 _ (by omega)).trans f4
  have hFr : ∀ q, q < a0 → g8 q = h q := fun q u => (og8 q (by omega)).trans (hFr q u)
  refine ab_aload_n C 0 rfl rfl dX2_init_33 ?_
  refine ab_bipush (v := (6 : Int32)) C dX2_init_34 (by decide) ?_
  refine ab_newaJ (z := (6 : Int32)) (m := 6) C (by decide) (by decide) (by decide) (a_mem 160 (by decide +kernel) (by decide +kernel)) (by omega) ⟨by decide, by decide⟩ dX2_init_36 (fun g9 eg9 og9 => ?_)
  have hO := (og9 a0 (by omega)).trans hO
  have f1 := (og9 _ (by omega)).trans f1
  have f2 := (og9 _ (by omega)).trans f2
  have f3 := (og9 _ (by omega)).trans f3
  have f4 := (og9 _ (by omega)).trans f4
  have f5 := eg9
  have hFr : ∀ q, q < a0 → g9 q = h q := fun q u => (og9 q (by omega)).trans (hFr q u)
  refine ab_pF2 (v := .ref (a0 + 5)) (kf := 9) (ty := .array .long) C (a_mem 129 (by decide +kernel) (by decide +kernel)) (by decide) rfl hI rfl (by decide +kernel) rfl rfl (Nat.le_of_ble_eq_true rfl) hO dX2_init_38 (fun g10 eg10 og10 => ?_)
  have hO : g10 a0 = some (.inr (2, [.int 0, .ref (a0 + 1), .int 0, .int 0, .int 0, .ref (a0 + 2), .ref (a0 + 3), .ref (a0 + 4), .int 0, .ref (a0 + 5), .null, .null])) := eg10
  have f1 := (og10 _ (by omega)).trans f1
  have f2 := (og10 _ (by omega)).trans f2
  have f3 := (og10 _ (by omega)).trans f3
  have f4 := (og10 _ (by omega)).trans f4
  have f5 := (og10 _ (by omega)).trans f5
  have hFr : ∀ q, q < a0 → g10 q = h q := fun q u => (og10 q (by omega)).trans (hFr q u)
  refine ab_aload_n C 0 rfl rfl dX2_init_41 ?_
  refine ab_bipush (v := (7 : Int32)) C dX2_init_42 (by decide) ?_
  refine ab_newaJ (z := (7 : Int32)) (m := 7) C (by decide) (by decide) (by decide) (a_mem 160 (by decide +kernel) (by decide +kernel)) (by omega) ⟨by decide, by decide⟩ dX2_init_44 (fun g11 eg11 og11 => ?_)
  have hO := (og11 a0 (by omega)).trans hO
  have f1 := (og11 _ (by omega)).trans f1
  have f2 := (og11 _ (by omega)).trans f2
  have f3 := (og11 _ (by omega)).trans f3
  have f4 := (og11 _ (by omega)).trans f4
  have f5 := (og11 _ (by omega)).trans f5
  have f6 := eg11
  have hFr : ∀ q, q < a0 → g11 q = h q := fun q u => (og11 q (by omega)).trans (hFr q u)
  refine ab_pF2 (v := .ref (a0 + 6)) (kf := 10) (ty := .array .long) C (a_mem 131 (by decide +kernel) (by decide +kernel)) (by decide) rfl hI rfl (by decide +kernel) rfl rfl (Nat.le_of_ble_eq_true rfl) hO dX2_init_46 (fun g12 eg12 og12 => ?_)
  have hO : g12 a0 = some (.inr (2, [.int 0, .ref (a0 + 1), .int 0, .int 0, .int 0, .ref (a0 + 2), .ref (a0 + 3), .ref (a0 + 4), .int 0, .ref (a0 + 5), .ref (a0 + 6), .null])) := eg12
  have f1 := (og12 _ (by omega)).trans f1
  have f2 := (og12 _ (by omega)).trans f2
  have f3 := (og12 _ (by omega)).trans f3
  have f4 := (og12 _ (by omega)).trans f4
  have f5 := (og12 _ (by omega)).trans f5
  have f6 := (og12 _ (by omega)).trans f6
  have hFr : ∀ q, q < a0 → g12 q = h q := fun q u => (og12 q (by omega)).trans (hFr q u)
  refine ab_aload_n C 0 rfl rfl dX2_init_49 ?_
  refine ab_bipush (v := (6 : Int32)) C dX2_init_50 (by decide) ?_
  refine ab_newaJ (z := (6 : Int32)) (m := 6) C (by decide) (by decide) (by decide) (a_mem 160 (by decide +kernel) (by decide +kernel)) (by omega) ⟨by decide, by decide⟩ dX2_init_52 (fun g13 eg13 og13 => ?_)
  have hO := (og13 a0 (by omega)).trans hO
  have f1 := (og13 _ (by omega)).trans f1
  have f2 := (og13 _ (by omega)).trans f2
  have f3 := (og13 _ (by omega)).trans f3
  have f4 := (og13 _ (by omega)).trans f4
  have f5 := (og13 _ (by omega)).trans f5
  have f6 := (og13 _ (by omega)).trans f6
  have f7 := eg13
  have hFr : ∀ q, q < a0 → g13 q = h q := fun q u => (og13 q (by omega)).trans (hFr q u)
  refine ab_pF2 (v := .ref (a0 + 7)) (kf := 11) (ty := .array .long) C (a_mem 134 (by decide +kernel) (by decide +kernel)) (by decide) rfl hI rfl (by decide +kernel) rfl rfl (Nat.le_of_ble_eq_true rfl) hO dX2_init_54 (fun g14 eg14 og14 => ?_)
  have hO : g14 a0 = some (.inr (2, [.int 0, .ref (a0 + 1), .int 0, .int 0, .int 0, .ref (a0 + 2), .ref (a0 + 3), .ref (a0 + 4), .int 0, .ref (a0 + 5), .ref (a0 + 6), .ref (a0 + 7)])) := eg14
  have f1 := (og14 _ (by omega)).trans f1
  have f2 := (og14 _ (by omega)).trans f2
  have f3 := (og14 _ (by omega)).trans f3
  have f4 := (og14 _ (by omega)).trans f4
  have f5 := (og14 _ (by omega)).trans f5
  have f6 := (og14 _ (by omega)).trans f6
  have f7 := (og14 _ (by omega)).trans f7
  have hFr : ∀ q, q < a0 → g14 q = h q := fun q u => (og14 q (by omega)).trans (hFr q u)
  refine aV.widen (k' := 7) (n' := 38) (by omega) (by omega) ?_
  exact ab_vret C R0 dX2_init_57 ⟨rfl, rfl, ⟨hO, f1, f2, f3, f4, f5, f6, f7⟩, hFr⟩
theorem dX3_init_0 : decode cX3_init 0 = .ok (.aload_n 0, 1) := by decide +kernel
theorem dX3_init_1 : decode cX3_init 1 = .ok (.invokespecial 3, 3) := by decide +kernel
theorem dX3_init_4 : decode cX3_init 4 = .ok (.aload_n 0, 1) := by decide +kernel
theorem dX3_init_5 : decode cX3_init 5 = .ok (.bipush 64, 2) := by decide +kernel
theorem dX3_init_7 : decode cX3_init 7 = .ok (.newarray .int, 2) := by decide +kernel
theorem dX3_init_9 : decode cX3_init 9 = .ok (.putfield 11, 3) := by decide +kernel
theorem dX3_init_12 : decode cX3_init 12 = .ok (.aload_n 0, 1) := by decide +kernel
theorem dX3_init_13 : decode cX3_init 13 = .ok (.bipush 6, 2) := by decide +kernel
theorem dX3_init_15 : decode cX3_init 15 = .ok (.newarray .int, 2) := by decide +kernel
theorem dX3_init_17 : decode cX3_init 17 = .ok (.putfield 15, 3) := by decide +kernel
theorem dX3_init_20 : decode cX3_init 20 = .ok (.aload_n 0, 1) := by decide +kernel
theorem dX3_init_21 : decode cX3_init 21 = .ok (.bipush 6, 2) := by decide +kernel
theorem dX3_init_23 : decode cX3_init 23 = .ok (.newarray .int, 2) := by decide +kernel
theorem dX3_init_25 : decode cX3_init 25 = .ok (.putfield 18, 3) := by decide +kernel
theorem dX3_init_28 : decode cX3_init 28 = .ok (.return_, 1) := by decide +kernel
set_option maxRecDepth 100000 in
set_option maxHeartbeats 4000000 in
theorem X3_init_ok (l : Launch) {h : aH} {nx a0 : Nat} (h4 : 4 ≤ a0) (hn : nx = a0 + 1) (hO : h a0 = some (.inr (3, [.null, .null, .null, .int 0]))) : aOk l 1 3 76 yX3_init cX3_init 1 none [.ref a0] h nx (fun v h1 nx1 => v = none ∧ nx1 = a0 + 4 ∧ X3_at h1 a0 zR ∧ ∀ q, q < a0 → h1 q = h q) := by
  refine aOk.of (by decide +kernel) (Nat.le_of_ble_eq_true rfl) (fun X G hX C R0 hI => ?_)
  subst hX; subst hn
  have hI := hI rfl
  have hFr : ∀ q, q < a0 → h q = h q := fun _ _ => rfl
  show aV X G 1 0 [(0, .ref a0)] [] h (a0 + 1) 0 0
  refine ab_aload_n C 0 rfl rfl dX3_init_0 ?_
  refine ab_objInit C (a_mem 224 (by decide +kernel) (by decide +kernel)) (a_mem 79 (by decide +kernel) (by decide +kernel)) (a_mem 80 (by decide +kernel) (by decide +kernel)) (by decide) dX3_init_1 ?_
  refine ab_aload_n C 0 rfl rfl dX3_init_4 ?_
  refine ab_bipush (v := (64 : Int32)) C dX3_init_5 (by decide) ?_
  refine ab_newaI (z := (64 : Int32)) (m := 64) C (by decide) (by decide) (by decide) (a_mem 97 (by decide +kernel) (by decide +kernel)) (by omega) ⟨by decide, by decide⟩ dX3_init_7 (fun g1 eg1 og1 => ?_)
  have hO := (og1 a0 (by omega)).trans hO
  have f1 := eg1
  have hFr : ∀ q, q < a0 → g1 q = h q := fun q u => (og1 q (by omega)).trans (hFr q u)
  refine ab_pF3 (v := .ref (a0 + 1)) (kf := 0) (ty := .array .int) C (a_mem 225 (by decide +kernel) (by decide +kernel)) (by decide) rfl hI rfl (by decide +kernel) rfl rfl (Nat.le_of_ble_eq_true rfl) hO dX3_init_9 (fun g2 eg2 og2 => ?_)
  have hO : g2 a0 = some (.inr (3, [.ref (a0 + 1), .null, .null, .int 0])) := eg2
  have f1 := (og2 _ (by omega)).trans f1
  have hFr : ∀ q, q < a0 → g2 q = h q := fun q u => (og2 q (by omega)).trans (hFr q u)
  refine ab_aload_n C 0 rfl rfl dX3_init_12 ?_
  refine ab_bipush (v := (6 : Int32)) C dX3_init_13 (by decide) ?_
  refine ab_newaI (z := (6 : Int32)) (m := 6) C (by decide) (by decide) (by decide) (a_mem 97 (by decide +kernel) (by decide +kernel)) (by omega) ⟨by decide, by decide⟩ dX3_init_15 (fun g3 eg3 og3 => ?_)
  have hO := (og3 a0 (by omega)).trans hO
  have f1 := (og3 _ (by omega)).trans f1
  have f2 := eg3
  have hFr : ∀ q, q < a0 → g3 q = h q := fun q u => (og3 q (by omega)).trans (hFr q u)
  refine ab_pF3 (v := .ref (a0 + 2)) (kf := 1) (ty := .array .int) C (a_mem 226 (by decide +kernel) (by decide +kernel)) (by decide) rfl hI rfl (by decide +kernel) rfl rfl (Nat.le_of_ble_eq_true rfl) hO dX3_init_17 (fun g4 eg4 og4 => ?_)
  have hO : g4 a0 = some (.inr (3, [.ref (a0 + 1), .ref (a0 + 2), .null, .int 0])) := eg4
  have f1 := (og4 _ (by omega)).trans f1
  have f2 := (og4 _ (by omega)).trans f2
  have hFr : ∀ q, q < a0 → g4 q = h q := fun q u => (og4 q (by omega)).trans (hFr q u)
  refine ab_aload_n C 0 rfl rfl dX3_init_20 ?_
  refine ab_bipush (v := (6 : Int32)) C dX3_init_21 (by decide) ?_
  refine ab_newaI (z := (6 : Int32)) (m := 6) C (by decide) (by decide) (by decide) (a_mem 97 (by decide +kernel) (by decide +kernel)) (by omega) ⟨by decide, by decide⟩ dX3_init_23 (fun g5 eg5 og5 => ?_)
  have hO := (og5 a0 (by omega)).trans hO
  have f1 := (og5 _ (by omega)).trans f1
  have f2 := (og5 _ (by omega)).trans f2
  have f3 := eg5
  have hFr : ∀ q, q < a0 → g5 q = h q := fun q u => (og5 q (by omega)).trans (hFr q u)
  refine ab_pF3 (v := .ref (a0 + 3)) (kf := 2) (ty := .array .int) C (a_mem 227 (by decide +kernel) (by decide +kernel)) (by decide) rfl hI rfl (by decide +kernel) rfl rfl (Nat.le_of_ble_eq_true rfl) hO dX3_init_25 (fun g6 eg6 og6 => ?_)
  have hO : g6 a0 = some (.inr (3, [.ref (a0 + 1), .ref (a0 + 2), .ref (a0 + 3), .int 0])) := eg6
  have f1 := (og6 _ (by omega)).trans f1
  have f2 := (og6 _ (by omega)).trans f2
  have f3 := (og6 _ (by omega)).trans f3
  have hFr : ∀ q, q < a0 → g6 q = h q := fun q u => (og6 q (by omega)).trans (hFr q u)
  refine aV.widen (k' := 3) (n' := 76) (by omega) (by omega) ?_
  exact ab_vret C R0 dX3_init_28 ⟨rfl, rfl, ⟨hO, f1, f2, f3⟩, hFr⟩
theorem dX4_init_0 : decode cX4_init 0 = .ok (.aload_n 0, 1) := by decide +kernel
theorem dX4_init_1 : decode cX4_init 1 = .ok (.invokespecial 3, 3) := by decide +kernel
theorem dX4_init_4 : decode cX4_init 4 = .ok (.aload_n 0, 1) := by decide +kernel
theorem dX4_init_5 : decode cX4_init 5 = .ok (.bipush 24, 2) := by decide +kernel
theorem dX4_init_7 : decode cX4_init 7 = .ok (.anewarray 9, 3) := by decide +kernel
theorem dX4_init_10 : decode cX4_init 10 = .ok (.putfield 11, 3) := by decide +kernel
theorem dX4_init_13 : decode cX4_init 13 = .ok (.return_, 1) := by decide +kernel
set_option maxRecDepth 100000 in
set_option maxHeartbeats 4000000 in
theorem X4_init_ok (l : Launch) {h : aH} {nx a0 : Nat} (h4 : 4 ≤ a0) (hn : nx = a0 + 1) (hO : h a0 = some (.inr (4, [.null, .int 0, .int 0]))) : aOk l 1 1 24 yX4_init cX4_init 1 none [.ref a0] h nx (fun v h1 nx1 => v = none ∧ nx1 = a0 + 2 ∧ X4_at h1 a0 (fun _ => none) zR ∧ ∀ q, q < a0 → h1 q = h q) := by
  refine aOk.of (by decide +kernel) (Nat.le_of_ble_eq_true rfl) (fun X G hX C R0 hI => ?_)
  subst hX; subst hn
  have hI := hI rfl
  have hFr : ∀ q, q < a0 → h q = h q := fun _ _ => rfl
  show aV X G 1 0 [(0, .ref a0)] [] h (a0 + 1) 0 0
  refine ab_aload_n C 0 rfl rfl dX4_init_0 ?_
  refine ab_objInit C (a_mem 166 (by decide +kernel) (by decide +kernel)) (a_mem 79 (by decide +kernel) (by decide +kernel)) (a_mem 80 (by decide +kernel) (by decide +kernel)) (by decide) dX4_init_1 ?_
  refine ab_aload_n C 0 rfl rfl dX4_init_4 ?_
  refine ab_bipush (v := (24 : Int32)) C dX4_init_5 (by decide) ?_
  refine ab_newq3 (z := (24 : Int32)) (m := 24) C (by decide) (by decide) (by decide) (a_mem 167 (by decide +kernel) (by decide +kernel)) (by omega) ⟨by decide, by decide⟩ dX4_init_7 (fun g1 eg1 og1 => ?_)
  have hO := (og1 a0 (by omega)).trans hO
  have f1 := eg1
  have hFr : ∀ q, q < a0 → g1 q = h q := fun q u => (og1 q (by omega)).trans (hFr q u)
  refine ab_pF4 (v := .ref (a0 + 1)) (kf := 0) (ty := .array (.object "GlebeVowels$Land")) C (a_mem 169 (by decide +kernel) (by decide +kernel)) (by decide) rfl hI rfl (by decide +kernel) rfl rfl (Nat.le_of_ble_eq_true rfl) hO dX4_init_10 (fun g2 eg2 og2 => ?_)
  have hO : g2 a0 = some (.inr (4, [.ref (a0 + 1), .int 0, .int 0])) := eg2
  have f1 := (og2 _ (by omega)).trans f1
  have hFr : ∀ q, q < a0 → g2 q = h q := fun q u => (og2 q (by omega)).trans (hFr q u)
  refine aV.widen (k' := 1) (n' := 24) (by omega) (by omega) ?_
  exact ab_vret C R0 dX4_init_13 ⟨rfl, rfl, ⟨hO, f1⟩, hFr⟩
theorem dX5_init_0 : decode cX5_init 0 = .ok (.aload_n 0, 1) := by decide +kernel
theorem dX5_init_1 : decode cX5_init 1 = .ok (.invokespecial 3, 3) := by decide +kernel
theorem dX5_init_4 : decode cX5_init 4 = .ok (.aload_n 0, 1) := by decide +kernel
theorem dX5_init_5 : decode cX5_init 5 = .ok (.iload_n 1, 1) := by decide +kernel
theorem dX5_init_6 : decode cX5_init 6 = .ok (.putfield 9, 3) := by decide +kernel
theorem dX5_init_9 : decode cX5_init 9 = .ok (.aload_n 0, 1) := by decide +kernel
theorem dX5_init_10 : decode cX5_init 10 = .ok (.iconst 0, 1) := by decide +kernel
theorem dX5_init_11 : decode cX5_init 11 = .ok (.iload_n 2, 1) := by decide +kernel
theorem dX5_init_12 : decode cX5_init 12 = .ok (.bipush 24, 2) := by decide +kernel
theorem dX5_init_14 : decode cX5_init 14 = .ok (.invokestatic 15, 3) := by decide +kernel
theorem dX5_init_17 : decode cX5_init 17 = .ok (.invokestatic 21, 3) := by decide +kernel
theorem dX5_init_20 : decode cX5_init 20 = .ok (.newarray .long, 2) := by decide +kernel
theorem dX5_init_22 : decode cX5_init 22 = .ok (.putfield 24, 3) := by decide +kernel
theorem dX5_init_25 : decode cX5_init 25 = .ok (.return_, 1) := by decide +kernel
set_option maxRecDepth 100000 in
set_option maxHeartbeats 4000000 in
theorem X5_init_ok (l : Launch) {h : aH} {nx a0 : Nat} {x1 x2 : Int32} (h4 : 4 ≤ a0) (hn : nx = a0 + 1) (hO : h a0 = some (.inr (5, [.int 0, .null]))) : aOk l 1 1 ((a_max 0 (a_min x2 24)).toNatClampNeg) yX5_init cX5_init 3 none [.ref a0, .int x1, .int x2] h nx (fun v h1 nx1 => v = none ∧ nx1 = a0 + 2 ∧ X5_at h1 a0 (a_max 0 (a_min x2 24)).toNatClampNeg (sI zR 0 x1) ∧ ∀ q, q < a0 → h1 q = h q) := by
  refine aOk.of (by decide +kernel) (Nat.le_of_ble_eq_true rfl) (fun X G hX C R0 hI => ?_)
  subst hX; subst hn
  have hI := hI rfl
  have hFr : ∀ q, q < a0 → h q = h q := fun _ _ => rfl
  show aV X G 3 0 [(0, .ref a0), (1, .int x1), (2, .int x2)] [] h (a0 + 1) 0 0
  refine ab_aload_n C 0 rfl rfl dX5_init_0 ?_
  refine ab_objInit C (a_mem 834 (by decide +kernel) (by decide +kernel)) (a_mem 79 (by decide +kernel) (by decide +kernel)) (a_mem 80 (by decide +kernel) (by decide +kernel)) (by decide) dX5_init_1 ?_
  refine ab_aload_n C 0 rfl rfl dX5_init_4 ?_
  refine ab_iload_n C 1 rfl rfl dX5_init_5 ?_
  refine ab_pF5 (v := .int x1) (kf := 0) (ty := .int) C (a_mem 837 (by decide +kernel) (by decide +kernel)) (by decide) rfl hI rfl (by decide +kernel) rfl rfl (Nat.le_of_ble_eq_true rfl) hO dX5_init_6 (fun g1 eg1 og1 => ?_)
  have hO : g1 a0 = some (.inr (5, [.int x1, .null])) := eg1
  have hFr : ∀ q, q < a0 → g1 q = h q := fun q u => (og1 q (by omega)).trans (hFr q u)
  refine ab_aload_n C 0 rfl rfl dX5_init_9 ?_
  refine ab_iconst (v := (0 : Int32)) C dX5_init_10 (by decide) ?_
  refine ab_iload_n C 2 rfl rfl dX5_init_11 ?_
  refine ab_bipush (v := (24 : Int32)) C dX5_init_12 (by decide) ?_
  refine ab_mmin C (own := RX5) (a_mem 835 (by decide +kernel) (by decide +kernel)) (Nat.le_of_ble_eq_true rfl) ⟨Nat.zero_le _, Nat.zero_le _⟩ (Nat.le_of_ble_eq_true rfl) dX5_init_14 ?_
  refine ab_mmax C (own := RX5) (a_mem 836 (by decide +kernel) (by decide +kernel)) (Nat.le_of_ble_eq_true rfl) ⟨Nat.zero_le _, Nat.zero_le _⟩ (Nat.le_of_ble_eq_true rfl) dX5_init_17 ?_
  have hz : ¬ (a_max (0 : Int32) (a_min x2 (24 : Int32))) < 0 ∧ (a_max (0 : Int32) (a_min x2 (24 : Int32))).toNatClampNeg ≤ 24 := a_mn24 x2
  refine ab_newaJ (z := (a_max (0 : Int32) (a_min x2 (24 : Int32)))) (m := (a_max 0 (a_min x2 24)).toNatClampNeg) C hz.1 rfl (by omega) (a_mem 160 (by decide +kernel) (by decide +kernel)) (by omega) ⟨by omega, by omega⟩ dX5_init_20 (fun g2 eg2 og2 => ?_)
  have hO := (og2 a0 (by omega)).trans hO
  have f1 := eg2
  have hFr : ∀ q, q < a0 → g2 q = h q := fun q u => (og2 q (by omega)).trans (hFr q u)
  refine ab_pF5 (v := .ref (a0 + 1)) (kf := 1) (ty := .array .long) C (a_mem 839 (by decide +kernel) (by decide +kernel)) (by decide) rfl hI rfl (by decide +kernel) rfl rfl (Nat.le_of_ble_eq_true rfl) hO dX5_init_22 (fun g3 eg3 og3 => ?_)
  have hO : g3 a0 = some (.inr (5, [.int x1, .ref (a0 + 1)])) := eg3
  have f1 := (og3 _ (by omega)).trans f1
  have hFr : ∀ q, q < a0 → g3 q = h q := fun q u => (og3 q (by omega)).trans (hFr q u)
  refine aV.widen (k' := 1) (n' := (a_max 0 (a_min x2 24)).toNatClampNeg) (by omega) (by omega) ?_
  exact ab_vret C R0 dX5_init_25 ⟨rfl, rfl, ⟨hO, f1⟩, hFr⟩
theorem dX6_init_0 : decode cX6_init 0 = .ok (.aload_n 0, 1) := by decide +kernel
theorem dX6_init_1 : decode cX6_init 1 = .ok (.invokespecial 3, 3) := by decide +kernel
theorem dX6_init_4 : decode cX6_init 4 = .ok (.aload_n 0, 1) := by decide +kernel
theorem dX6_init_5 : decode cX6_init 5 = .ok (.bipush 64, 2) := by decide +kernel
theorem dX6_init_7 : decode cX6_init 7 = .ok (.newarray .int, 2) := by decide +kernel
theorem dX6_init_9 : decode cX6_init 9 = .ok (.putfield 9, 3) := by decide +kernel
theorem dX6_init_12 : decode cX6_init 12 = .ok (.return_, 1) := by decide +kernel
set_option maxRecDepth 100000 in
set_option maxHeartbeats 4000000 in
theorem X6_init_ok (l : Launch) {h : aH} {nx a0 : Nat} (h4 : 4 ≤ a0) (hn : nx = a0 + 1) (hO : h a0 = some (.inr (6, [.null, .int 0, .int 0]))) : aOk l 1 1 64 yX6_init cX6_init 1 none [.ref a0] h nx (fun v h1 nx1 => v = none ∧ nx1 = a0 + 2 ∧ X6_at h1 a0 zR ∧ ∀ q, q < a0 → h1 q = h q) := by
  refine aOk.of (by decide +kernel) (Nat.le_of_ble_eq_true rfl) (fun X G hX C R0 hI => ?_)
  subst hX; subst hn
  have hI := hI rfl
  have hFr : ∀ q, q < a0 → h q = h q := fun _ _ => rfl
  show aV X G 1 0 [(0, .ref a0)] [] h (a0 + 1) 0 0
  refine ab_aload_n C 0 rfl rfl dX6_init_0 ?_
  refine ab_objInit C (a_mem 208 (by decide +kernel) (by decide +kernel)) (a_mem 79 (by decide +kernel) (by decide +kernel)) (a_mem 80 (by decide +kernel) (by decide +kernel)) (by decide) dX6_init_1 ?_
  refine ab_aload_n C 0 rfl rfl dX6_init_4 ?_
  refine ab_bipush (v := (64 : Int32)) C dX6_init_5 (by decide) ?_
  refine ab_newaI (z := (64 : Int32)) (m := 64) C (by decide) (by decide) (by decide) (a_mem 97 (by decide +kernel) (by decide +kernel)) (by omega) ⟨by decide, by decide⟩ dX6_init_7 (fun g1 eg1 og1 => ?_)
  have hO := (og1 a0 (by omega)).trans hO
  have f1 := eg1
  have hFr : ∀ q, q < a0 → g1 q = h q := fun q u => (og1 q (by omega)).trans (hFr q u)
  refine ab_pF6 (v := .ref (a0 + 1)) (kf := 0) (ty := .array .int) C (a_mem 209 (by decide +kernel) (by decide +kernel)) (by decide) rfl hI rfl (by decide +kernel) rfl rfl (Nat.le_of_ble_eq_true rfl) hO dX6_init_9 (fun g2 eg2 og2 => ?_)
  have hO : g2 a0 = some (.inr (6, [.ref (a0 + 1), .int 0, .int 0])) := eg2
  have f1 := (og2 _ (by omega)).trans f1
  have hFr : ∀ q, q < a0 → g2 q = h q := fun q u => (og2 q (by omega)).trans (hFr q u)
  refine aV.widen (k' := 1) (n' := 64) (by omega) (by omega) ?_
  exact ab_vret C R0 dX6_init_12 ⟨rfl, rfl, ⟨hO, f1⟩, hFr⟩
theorem dX7_init_0 : decode cX7_init 0 = .ok (.aload_n 0, 1) := by decide +kernel
theorem dX7_init_1 : decode cX7_init 1 = .ok (.invokespecial 3, 3) := by decide +kernel
theorem dX7_init_4 : decode cX7_init 4 = .ok (.aload_n 0, 1) := by decide +kernel
theorem dX7_init_5 : decode cX7_init 5 = .ok (.sipush 130, 3) := by decide +kernel
theorem dX7_init_8 : decode cX7_init 8 = .ok (.newarray .int, 2) := by decide +kernel
theorem dX7_init_10 : decode cX7_init 10 = .ok (.putfield 9, 3) := by decide +kernel
theorem dX7_init_13 : decode cX7_init 13 = .ok (.return_, 1) := by decide +kernel
set_option maxRecDepth 100000 in
set_option maxHeartbeats 4000000 in
theorem X7_init_ok (l : Launch) {h : aH} {nx a0 : Nat} (h4 : 4 ≤ a0) (hn : nx = a0 + 1) (hO : h a0 = some (.inr (7, [.null, .int 0, .int 0]))) : aOk l 1 1 130 yX7_init cX7_init 1 none [.ref a0] h nx (fun v h1 nx1 => v = none ∧ nx1 = a0 + 2 ∧ X7_at h1 a0 zR ∧ ∀ q, q < a0 → h1 q = h q) := by
  refine aOk.of (by decide +kernel) (Nat.le_of_ble_eq_true rfl) (fun X G hX C R0 hI => ?_)
  subst hX; subst hn
  have hI := hI rfl
  have hFr : ∀ q, q < a0 → h q = h q := fun _ _ => rfl
  show aV X G 1 0 [(0, .ref a0)] [] h (a0 + 1) 0 0
  refine ab_aload_n C 0 rfl rfl dX7_init_0 ?_
  refine ab_objInit C (a_mem 86 (by decide +kernel) (by decide +kernel)) (a_mem 79 (by decide +kernel) (by decide +kernel)) (a_mem 80 (by decide +kernel) (by decide +kernel)) (by decide) dX7_init_1 ?_
  refine ab_aload_n C 0 rfl rfl dX7_init_4 ?_
  refine ab_sipush (v := (130 : Int32)) C dX7_init_5 (by decide) ?_
  refine ab_newaI (z := (130 : Int32)) (m := 130) C (by decide) (by decide) (by decide) (a_mem 97 (by decide +kernel) (by decide +kernel)) (by omega) ⟨by decide, by decide⟩ dX7_init_8 (fun g1 eg1 og1 => ?_)
  have hO := (og1 a0 (by omega)).trans hO
  have f1 := eg1
  have hFr : ∀ q, q < a0 → g1 q = h q := fun q u => (og1 q (by omega)).trans (hFr q u)
  refine ab_pF7 (v := .ref (a0 + 1)) (kf := 0) (ty := .array .int) C (a_mem 87 (by decide +kernel) (by decide +kernel)) (by decide) rfl hI rfl (by decide +kernel) rfl rfl (Nat.le_of_ble_eq_true rfl) hO dX7_init_10 (fun g2 eg2 og2 => ?_)
  have hO : g2 a0 = some (.inr (7, [.ref (a0 + 1), .int 0, .int 0])) := eg2
  have f1 := (og2 _ (by omega)).trans f1
  have hFr : ∀ q, q < a0 → g2 q = h q := fun q u => (og2 q (by omega)).trans (hFr q u)
  refine aV.widen (k' := 1) (n' := 130) (by omega) (by omega) ?_
  exact ab_vret C R0 dX7_init_13 ⟨rfl, rfl, ⟨hO, f1⟩, hFr⟩
theorem dX9_init_0 : decode cX9_init 0 = .ok (.aload_n 0, 1) := by decide +kernel
theorem dX9_init_1 : decode cX9_init 1 = .ok (.invokespecial 1, 3) := by decide +kernel
theorem dX9_init_4 : decode cX9_init 4 = .ok (.aload_n 0, 1) := by decide +kernel
theorem dX9_init_5 : decode cX9_init 5 = .ok (.bipush 96, 2) := by decide +kernel
theorem dX9_init_7 : decode cX9_init 7 = .ok (.newarray .int, 2) := by decide +kernel
theorem dX9_init_9 : decode cX9_init 9 = .ok (.putfield 7, 3) := by decide +kernel
theorem dX9_init_12 : decode cX9_init 12 = .ok (.aload_n 0, 1) := by decide +kernel
theorem dX9_init_13 : decode cX9_init 13 = .ok (.bipush 96, 2) := by decide +kernel
theorem dX9_init_15 : decode cX9_init 15 = .ok (.newarray .int, 2) := by decide +kernel
theorem dX9_init_17 : decode cX9_init 17 = .ok (.putfield 13, 3) := by decide +kernel
theorem dX9_init_20 : decode cX9_init 20 = .ok (.aload_n 0, 1) := by decide +kernel
theorem dX9_init_21 : decode cX9_init 21 = .ok (.bipush 96, 2) := by decide +kernel
theorem dX9_init_23 : decode cX9_init 23 = .ok (.newarray .int, 2) := by decide +kernel
theorem dX9_init_25 : decode cX9_init 25 = .ok (.putfield 16, 3) := by decide +kernel
theorem dX9_init_28 : decode cX9_init 28 = .ok (.aload_n 0, 1) := by decide +kernel
theorem dX9_init_29 : decode cX9_init 29 = .ok (.sipush 2304, 3) := by decide +kernel
theorem dX9_init_32 : decode cX9_init 32 = .ok (.newarray .int, 2) := by decide +kernel
theorem dX9_init_34 : decode cX9_init 34 = .ok (.putfield 19, 3) := by decide +kernel
theorem dX9_init_37 : decode cX9_init 37 = .ok (.aload_n 0, 1) := by decide +kernel
theorem dX9_init_38 : decode cX9_init 38 = .ok (.sipush 130, 3) := by decide +kernel
theorem dX9_init_41 : decode cX9_init 41 = .ok (.newarray .int, 2) := by decide +kernel
theorem dX9_init_43 : decode cX9_init 43 = .ok (.putfield 22, 3) := by decide +kernel
theorem dX9_init_46 : decode cX9_init 46 = .ok (.aload_n 0, 1) := by decide +kernel
theorem dX9_init_47 : decode cX9_init 47 = .ok (.iconst 2, 1) := by decide +kernel
theorem dX9_init_48 : decode cX9_init 48 = .ok (.newarray .boolean, 2) := by decide +kernel
theorem dX9_init_50 : decode cX9_init 50 = .ok (.putfield 25, 3) := by decide +kernel
theorem dX9_init_53 : decode cX9_init 53 = .ok (.aload_n 0, 1) := by decide +kernel
theorem dX9_init_54 : decode cX9_init 54 = .ok (.sipush 192, 3) := by decide +kernel
theorem dX9_init_57 : decode cX9_init 57 = .ok (.newarray .int, 2) := by decide +kernel
theorem dX9_init_59 : decode cX9_init 59 = .ok (.putfield 29, 3) := by decide +kernel
theorem dX9_init_62 : decode cX9_init 62 = .ok (.aload_n 0, 1) := by decide +kernel
theorem dX9_init_63 : decode cX9_init 63 = .ok (.iconst 3, 1) := by decide +kernel
theorem dX9_init_64 : decode cX9_init 64 = .ok (.newarray .int, 2) := by decide +kernel
theorem dX9_init_66 : decode cX9_init 66 = .ok (.putfield 32, 3) := by decide +kernel
theorem dX9_init_69 : decode cX9_init 69 = .ok (.aload_n 0, 1) := by decide +kernel
theorem dX9_init_70 : decode cX9_init 70 = .ok (.iconst 3, 1) := by decide +kernel
theorem dX9_init_71 : decode cX9_init 71 = .ok (.newarray .int, 2) := by decide +kernel
theorem dX9_init_73 : decode cX9_init 73 = .ok (.putfield 35, 3) := by decide +kernel
theorem dX9_init_76 : decode cX9_init 76 = .ok (.aload_n 0, 1) := by decide +kernel
theorem dX9_init_77 : decode cX9_init 77 = .ok (.bipush 36, 2) := by decide +kernel
theorem dX9_init_79 : decode cX9_init 79 = .ok (.newarray .int, 2) := by decide +kernel
theorem dX9_init_81 : decode cX9_init 81 = .ok (.putfield 38, 3) := by decide +kernel
theorem dX9_init_84 : decode cX9_init 84 = .ok (.aload_n 0, 1) := by decide +kernel
theorem dX9_init_85 : decode cX9_init 85 = .ok (.bipush 6, 2) := by decide +kernel
theorem dX9_init_87 : decode cX9_init 87 = .ok (.newarray .int, 2) := by decide +kernel
theorem dX9_init_89 : decode cX9_init 89 = .ok (.putfield 41, 3) := by decide +kernel
theorem dX9_init_92 : decode cX9_init 92 = .ok (.aload_n 0, 1) := by decide +kernel
theorem dX9_init_93 : decode cX9_init 93 = .ok (.bipush 64, 2) := by decide +kernel
theorem dX9_init_95 : decode cX9_init 95 = .ok (.newarray .int, 2) := by decide +kernel
theorem dX9_init_97 : decode cX9_init 97 = .ok (.putfield 44, 3) := by decide +kernel
theorem dX9_init_100 : decode cX9_init 100 = .ok (.aload_n 0, 1) := by decide +kernel
theorem dX9_init_101 : decode cX9_init 101 = .ok (.bipush 6, 2) := by decide +kernel
theorem dX9_init_103 : decode cX9_init 103 = .ok (.newarray .int, 2) := by decide +kernel
theorem dX9_init_105 : decode cX9_init 105 = .ok (.putfield 47, 3) := by decide +kernel
theorem dX9_init_108 : decode cX9_init 108 = .ok (.aload_n 0, 1) := by decide +kernel
theorem dX9_init_109 : decode cX9_init 109 = .ok (.bipush 36, 2) := by decide +kernel
theorem dX9_init_111 : decode cX9_init 111 = .ok (.newarray .int, 2) := by decide +kernel
theorem dX9_init_113 : decode cX9_init 113 = .ok (.putfield 50, 3) := by decide +kernel
theorem dX9_init_116 : decode cX9_init 116 = .ok (.aload_n 0, 1) := by decide +kernel
theorem dX9_init_117 : decode cX9_init 117 = .ok (.bipush 6, 2) := by decide +kernel
theorem dX9_init_119 : decode cX9_init 119 = .ok (.newarray .int, 2) := by decide +kernel
theorem dX9_init_121 : decode cX9_init 121 = .ok (.putfield 53, 3) := by decide +kernel
theorem dX9_init_124 : decode cX9_init 124 = .ok (.aload_n 0, 1) := by decide +kernel
theorem dX9_init_125 : decode cX9_init 125 = .ok (.iconst 4, 1) := by decide +kernel
theorem dX9_init_126 : decode cX9_init 126 = .ok (.newarray .int, 2) := by decide +kernel
theorem dX9_init_128 : decode cX9_init 128 = .ok (.dup, 1) := by decide +kernel
theorem dX9_init_129 : decode cX9_init 129 = .ok (.iconst 0, 1) := by decide +kernel
theorem dX9_init_130 : decode cX9_init 130 = .ok (.iconst (-1), 1) := by decide +kernel
theorem dX9_init_131 : decode cX9_init 131 = .ok (.iastore, 1) := by decide +kernel
theorem dX9_init_132 : decode cX9_init 132 = .ok (.dup, 1) := by decide +kernel
theorem dX9_init_133 : decode cX9_init 133 = .ok (.iconst 1, 1) := by decide +kernel
theorem dX9_init_134 : decode cX9_init 134 = .ok (.iconst (-1), 1) := by decide +kernel
theorem dX9_init_135 : decode cX9_init 135 = .ok (.iastore, 1) := by decide +kernel
theorem dX9_init_136 : decode cX9_init 136 = .ok (.dup, 1) := by decide +kernel
theorem dX9_init_137 : decode cX9_init 137 = .ok (.iconst 2, 1) := by decide +kernel
theorem dX9_init_138 : decode cX9_init 138 = .ok (.iconst (-1), 1) := by decide +kernel
theorem dX9_init_139 : decode cX9_init 139 = .ok (.iastore, 1) := by decide +kernel
theorem dX9_init_140 : decode cX9_init 140 = .ok (.dup, 1) := by decide +kernel
theorem dX9_init_141 : decode cX9_init 141 = .ok (.iconst 3, 1) := by decide +kernel
theorem dX9_init_142 : decode cX9_init 142 = .ok (.iconst (-1), 1) := by decide +kernel
theorem dX9_init_143 : decode cX9_init 143 = .ok (.iastore, 1) := by decide +kernel
theorem dX9_init_144 : decode cX9_init 144 = .ok (.putfield 56, 3) := by decide +kernel
theorem dX9_init_147 : decode cX9_init 147 = .ok (.aload_n 0, 1) := by decide +kernel
theorem dX9_init_148 : decode cX9_init 148 = .ok (.iconst 4, 1) := by decide +kernel
theorem dX9_init_149 : decode cX9_init 149 = .ok (.newarray .int, 2) := by decide +kernel
theorem dX9_init_151 : decode cX9_init 151 = .ok (.putfield 59, 3) := by decide +kernel
theorem dX9_init_154 : decode cX9_init 154 = .ok (.aload_n 0, 1) := by decide +kernel
theorem dX9_init_155 : decode cX9_init 155 = .ok (.bipush 96, 2) := by decide +kernel
theorem dX9_init_157 : decode cX9_init 157 = .ok (.newarray .long, 2) := by decide +kernel
theorem dX9_init_159 : decode cX9_init 159 = .ok (.putfield 62, 3) := by decide +kernel
theorem dX9_init_162 : decode cX9_init 162 = .ok (.aload_n 0, 1) := by decide +kernel
theorem dX9_init_163 : decode cX9_init 163 = .ok (.iconst 5, 1) := by decide +kernel
theorem dX9_init_164 : decode cX9_init 164 = .ok (.newarray .int, 2) := by decide +kernel
theorem dX9_init_166 : decode cX9_init 166 = .ok (.putfield 66, 3) := by decide +kernel
theorem dX9_init_169 : decode cX9_init 169 = .ok (.return_, 1) := by decide +kernel
set_option maxRecDepth 100000 in
set_option maxHeartbeats 4000000 in
theorem X9_init_ok (l : Launch) {h : aH} {nx a0 : Nat} (h4 : 4 ≤ a0) (hn : nx = a0 + 1) (hO : h a0 = some (.inr (9, [.null, .null, .null, .null, .int 0, .null, .int 0, .int 0, .int 0, .null, .null, .null, .null, .int 0, .int 0, .null, .null, .null, .null, .null, .int 0, .int 0, .null, .int 0, .int 0, .int 0, .null, .null, .null, .null]))) : aOk l 1 19 3185 yX9_init cX9_init 1 none [.ref a0] h nx (fun v h1 nx1 => v = none ∧ nx1 = a0 + 20 ∧ X9_at h1 a0 (sA zR 26 (upd (upd (upd (upd (fun _ => 0) 0 (-1)) 1 (-1)) 2 (-1)) 3 (-1))) ∧ ∀ q, q < a0 → h1 q = h q) := by
  refine aOk.of (by decide +kernel) (Nat.le_of_ble_eq_true rfl) (fun X G hX C R0 hI => ?_)
  subst hX; subst hn
  have hI := hI rfl
  have hFr : ∀ q, q < a0 → h q = h q := fun _ _ => rfl
  show aV X G 1 0 [(0, .ref a0)] [] h (a0 + 1) 0 0
  refine ab_aload_n C 0 rfl rfl dX9_init_0 ?_
  refine ab_objInit C (a_mem 920 (by decide +kernel) (by decide +kernel)) (a_mem 79 (by decide +kernel) (by decide +kernel)) (a_mem 80 (by decide +kernel) (by decide +kernel)) (by decide) dX9_init_1 ?_
  refine ab_aload_n C 0 rfl rfl dX9_init_4 ?_
  refine ab_bipush (v := (96 : Int32)) C dX9_init_5 (by decide) ?_
  refine ab_newaI (z := (96 : Int32)) (m := 96) C (by decide) (by decide) (by decide) (a_mem 97 (by decide +kernel) (by decide +kernel)) (by omega) ⟨by decide, by decide⟩ dX9_init_7 (fun g1 eg1 og1 => ?_)
  have hO := (og1 a0 (by omega)).trans hO
  have f1 := eg1
  have hFr : ∀ q, q < a0 → g1 q = h q := fun q u => (og1 q (by omega)).trans (hFr q u)
  refine ab_pF9 (v := .ref (a0 + 1)) (kf := 0) (ty := .array .int) C (a_mem 921 (by decide +kernel) (by decide +kernel)) (by decide) rfl hI rfl (by decide +kernel) rfl rfl (Nat.le_of_ble_eq_true rfl) hO dX9_init_9 (fun g2 eg2 og2 => ?_)
  have hO : g2 a0 = some (.inr (9, [.ref (a0 + 1), .null, .null, .null, .int 0, .null, .int 0, .int 0, .int 0, .null, .null, .null, .null, .int 0, .int 0, .null, .null, .null, .null, .null, .int 0, .int 0, .null, .int 0, .int 0, .int 0, .null, .null, .null, .null])) := eg2
  have f1 := (og2 _ (by omega)).trans f1
  have hFr : ∀ q, q < a0 → g2 q = h q := fun q u => (og2 q (by omega)).trans (hFr q u)
  refine ab_aload_n C 0 rfl rfl dX9_init_12 ?_
  refine ab_bipush (v := (96 : Int32)) C dX9_init_13 (by decide) ?_
  refine ab_newaI (z := (96 : Int32)) (m := 96) C (by decide) (by decide) (by decide) (a_mem 97 (by decide +kernel) (by decide +kernel)) (by omega) ⟨by decide, by decide⟩ dX9_init_15 (fun g3 eg3 og3 => ?_)
  have hO := (og3 a0 (by omega)).trans hO
  have f1 := (og3 _ (by omega)).trans f1
  have f2 := eg3
  have hFr : ∀ q, q < a0 → g3 q = h q := fun q u => (og3 q (by omega)).trans (hFr q u)
  refine ab_pF9 (v := .ref (a0 + 2)) (kf := 1) (ty := .array .int) C (a_mem 922 (by decide +kernel) (by decide +kernel)) (by decide) rfl hI rfl (by decide +kernel) rfl rfl (Nat.le_of_ble_eq_true rfl) hO dX9_init_17 (fun g4 eg4 og4 => ?_)
  have hO : g4 a0 = some (.inr (9, [.ref (a0 + 1), .ref (a0 + 2), .null, .null, .int 0, .null, .int 0, .int 0, .int 0, .null, .null, .null, .null, .int 0, .int 0, .null, .null, .null, .null, .null, .int 0, .int 0, .null, .int 0, .int 0, .int 0, .null, .null, .null, .null])) := eg4
  have f1 := (og4 _ (by omega)).trans f1
  have f2 := (og4 _ (by omega)).trans f2
  have hFr : ∀ q, q < a0 → g4 q = h q := fun q u => (og4 q (by omega)).trans (hFr q u)
  refine ab_aload_n C 0 rfl rfl dX9_init_20 ?_
  refine ab_bipush (v := (96 : Int32)) C dX9_init_21 (by decide) ?_
  refine ab_newaI (z := (96 : Int32)) (m := 96) C (by decide) (by decide) (by decide) (a_mem 97 (by decide +kernel) (by decide +kernel)) (by omega) ⟨by decide, by decide⟩ dX9_init_23 (fun g5 eg5 og5 => ?_)
  have hO := (og5 a0 (by omega)).trans hO
  have f1 := (og5 _ (by omega)).trans f1
  have f2 := (og5 _ (by omega)).trans f2
  have f3 := eg5
  have hFr : ∀ q, q < a0 → g5 q = h q := fun q u => (og5 q (by omega)).trans (hFr q u)
  refine ab_pF9 (v := .ref (a0 + 3)) (kf := 2) (ty := .array .int) C (a_mem 923 (by decide +kernel) (by decide +kernel)) (by decide) rfl hI rfl (by decide +kernel) rfl rfl (Nat.le_of_ble_eq_true rfl) hO dX9_init_25 (fun g6 eg6 og6 => ?_)
  have hO : g6 a0 = some (.inr (9, [.ref (a0 + 1), .ref (a0 + 2), .ref (a0 + 3), .null, .int 0, .null, .int 0, .int 0, .int 0, .null, .null, .null, .null, .int 0, .int 0, .null, .null, .null, .null, .null, .int 0, .int 0, .null, .int 0, .int 0, .int 0, .null, .null, .null, .null])) := eg6
  have f1 := (og6 _ (by omega)).trans f1
  have f2 := (og6 _ (by omega)).trans f2
  have f3 := (og6 _ (by omega)).trans f3
  have hFr : ∀ q, q < a0 → g6 q = h q := fun q u => (og6 q (by omega)).trans (hFr q u)
  refine ab_aload_n C 0 rfl rfl dX9_init_28 ?_
  refine ab_sipush (v := (2304 : Int32)) C dX9_init_29 (by decide) ?_
  refine ab_newaI (z := (2304 : Int32)) (m := 2304) C (by decide) (by decide) (by decide) (a_mem 97 (by decide +kernel) (by decide +kernel)) (by omega) ⟨by decide, by decide⟩ dX9_init_32 (fun g7 eg7 og7 => ?_)
  have hO := (og7 a0 (by omega)).trans hO
  have f1 := (og7 _ (by omega)).trans f1
  have f2 := (og7 _ (by omega)).trans f2
  have f3 := (og7 _ (by omega)).trans f3
  have f4 := eg7
  have hFr : ∀ q, q < a0 → g7 q = h q := fun q u => (og7 q (by omega)).trans (hFr q u)
  refine ab_pF9 (v := .ref (a0 + 4)) (kf := 3) (ty := .array .int) C (a_mem 924 (by decide +kernel) (by decide +kernel)) (by decide) rfl hI rfl (by decide +kernel) rfl rfl (Nat.le_of_ble_eq_true rfl) hO dX9_init_34 (fun g8 eg8 og8 => ?_)
  have hO : g8 a0 = some (.inr (9, [.ref (a0 + 1), .ref (a0 + 2), .ref (a0 + 3), .ref (a0 + 4), .int 0, .null, .int 0, .int 0, .int 0, .null, .null, .null, .null, .int 0, .int 0, .null, .null, .null, .null, .null, .int 0, .int 0, .null, .int 0, .int 0, .int 0, .null, .null, .null, .null])) := eg8
  have f1 := (og8 _ (by omega)).trans f1
  have f2 := (og8 _ (by omega)).trans f2
  have f3 := (og8 _ (by omega)).trans f3
  have f4 := (og8 _ (by omega)).trans f4
  have hFr : ∀ q, q < a0 → g8 q = h q := fun q u => (og8 q (by omega)).trans (hFr q u)
  refine ab_aload_n C 0 rfl rfl dX9_init_37 ?_
  refine ab_sipush (v := (130 : Int32)) C dX9_init_38 (by decide) ?_
  refine ab_newaI (z := (130 : Int32)) (m := 130) C (by decide) (by decide) (by decide) (a_mem 97 (by decide +kernel) (by decide +kernel)) (by omega) ⟨by decide, by decide⟩ dX9_init_41 (fun g9 eg9 og9 => ?_)
  have hO := (og9 a0 (by omega)).trans hO
  have f1 := (og9 _ (by omega)).trans f1
  have f2 := (og9 _ (by omega)).trans f2
  have f3 := (og9 _ (by omega)).trans f3
  have f4 := (og9 _ (by omega)).trans f4
  have f5 := eg9
  have hFr : ∀ q, q < a0 → g9 q = h q := fun q u => (og9 q (by omega)).trans (hFr q u)
  refine ab_pF9 (v := .ref (a0 + 5)) (kf := 5) (ty := .array .int) C (a_mem 926 (by decide +kernel) (by decide +kernel)) (by decide) rfl hI rfl (by decide +kernel) rfl rfl (Nat.le_of_ble_eq_true rfl) hO dX9_init_43 (fun g10 eg10 og10 => ?_)
  have hO : g10 a0 = some (.inr (9, [.ref (a0 + 1), .ref (a0 + 2), .ref (a0 + 3), .ref (a0 + 4), .int 0, .ref (a0 + 5), .int 0, .int 0, .int 0, .null, .null, .null, .null, .int 0, .int 0, .null, .null, .null, .null, .null, .int 0, .int 0, .null, .int 0, .int 0, .int 0, .null, .null, .null, .null])) := eg10
  have f1 := (og10 _ (by omega)).trans f1
  have f2 := (og10 _ (by omega)).trans f2
  have f3 := (og10 _ (by omega)).trans f3
  have f4 := (og10 _ (by omega)).trans f4
  have f5 := (og10 _ (by omega)).trans f5
  have hFr : ∀ q, q < a0 → g10 q = h q := fun q u => (og10 q (by omega)).trans (hFr q u)
  refine ab_aload_n C 0 rfl rfl dX9_init_46 ?_
  refine ab_iconst (v := (2 : Int32)) C dX9_init_47 (by decide) ?_
  refine ab_newaZ (z := (2 : Int32)) (m := 2) C (by decide) (by decide) (by decide) (a_mem 1012 (by decide +kernel) (by decide +kernel)) (by omega) ⟨by decide, by decide⟩ dX9_init_48 (fun g11 eg11 og11 => ?_)
  have hO := (og11 a0 (by omega)).trans hO
  have f1 := (og11 _ (by omega)).trans f1
  have f2 := (og11 _ (by omega)).trans f2
  have f3 := (og11 _ (by omega)).trans f3
  have f4 := (og11 _ (by omega)).trans f4
  have f5 := (og11 _ (by omega)).trans f5
  have f6 := eg11
  have hFr : ∀ q, q < a0 → g11 q = h q := fun q u => (og11 q (by omega)).trans (hFr q u)
  refine ab_pF9 (v := .ref (a0 + 6)) (kf := 9) (ty := .array .boolean) C (a_mem 930 (by decide +kernel) (by decide +kernel)) (by decide) rfl hI rfl (by decide +kernel) rfl rfl (Nat.le_of_ble_eq_true rfl) hO dX9_init_50 (fun g12 eg12 og12 => ?_)
  have hO : g12 a0 = some (.inr (9, [.ref (a0 + 1), .ref (a0 + 2), .ref (a0 + 3), .ref (a0 + 4), .int 0, .ref (a0 + 5), .int 0, .int 0, .int 0, .ref (a0 + 6), .null, .null, .null, .int 0, .int 0, .null, .null, .null, .null, .null, .int 0, .int 0, .null, .int 0, .int 0, .int 0, .null, .null, .null, .null])) := eg12
  have f1 := (og12 _ (by omega)).trans f1
  have f2 := (og12 _ (by omega)).trans f2
  have f3 := (og12 _ (by omega)).trans f3
  have f4 := (og12 _ (by omega)).trans f4
  have f5 := (og12 _ (by omega)).trans f5
  have f6 := (og12 _ (by omega)).trans f6
  have hFr : ∀ q, q < a0 → g12 q = h q := fun q u => (og12 q (by omega)).trans (hFr q u)
  refine ab_aload_n C 0 rfl rfl dX9_init_53 ?_
  refine ab_sipush (v := (192 : Int32)) C dX9_init_54 (by decide) ?_
  refine ab_newaI (z := (192 : Int32)) (m := 192) C (by decide) (by decide) (by decide) (a_mem 97 (by decide +kernel) (by decide +kernel)) (by omega) ⟨by decide, by decide⟩ dX9_init_57 (fun g13 eg13 og13 => ?_)
  have hO := (og13 a0 (by omega)).trans hO
  have f1 := (og13 _ (by omega)).trans f1
  have f2 := (og13 _ (by omega)).trans f2
  have f3 := (og13 _ (by omega)).trans f3
  have f4 := (og13 _ (by omega)).trans f4
  have f5 := (og13 _ (by omega)).trans f5
  have f6 := (og13 _ (by omega)).trans f6
  have f7 := eg13
  have hFr : ∀ q, q < a0 → g13 q = h q := fun q u => (og13 q (by omega)).trans (hFr q u)
  refine ab_pF9 (v := .ref (a0 + 7)) (kf := 10) (ty := .array .int) C (a_mem 931 (by decide +kernel) (by decide +kernel)) (by decide) rfl hI rfl (by decide +kernel) rfl rfl (Nat.le_of_ble_eq_true rfl) hO dX9_init_59 (fun g14 eg14 og14 => ?_)
  have hO : g14 a0 = some (.inr (9, [.ref (a0 + 1), .ref (a0 + 2), .ref (a0 + 3), .ref (a0 + 4), .int 0, .ref (a0 + 5), .int 0, .int 0, .int 0, .ref (a0 + 6), .ref (a0 + 7), .null, .null, .int 0, .int 0, .null, .null, .null, .null, .null, .int 0, .int 0, .null, .int 0, .int 0, .int 0, .null, .null, .null, .null])) := eg14
  have f1 := (og14 _ (by omega)).trans f1
  have f2 := (og14 _ (by omega)).trans f2
  have f3 := (og14 _ (by omega)).trans f3
  have f4 := (og14 _ (by omega)).trans f4
  have f5 := (og14 _ (by omega)).trans f5
  have f6 := (og14 _ (by omega)).trans f6
  have f7 := (og14 _ (by omega)).trans f7
  have hFr : ∀ q, q < a0 → g14 q = h q := fun q u => (og14 q (by omega)).trans (hFr q u)
  refine ab_aload_n C 0 rfl rfl dX9_init_62 ?_
  refine ab_iconst (v := (3 : Int32)) C dX9_init_63 (by decide) ?_
  refine ab_newaI (z := (3 : Int32)) (m := 3) C (by decide) (by decide) (by decide) (a_mem 97 (by decide +kernel) (by decide +kernel)) (by omega) ⟨by decide, by decide⟩ dX9_init_64 (fun g15 eg15 og15 => ?_)
  have hO := (og15 a0 (by omega)).trans hO
  have f1 := (og15 _ (by omega)).trans f1
  have f2 := (og15 _ (by omega)).trans f2
  have f3 := (og15 _ (by omega)).trans f3
  have f4 := (og15 _ (by omega)).trans f4
  have f5 := (og15 _ (by omega)).trans f5
  have f6 := (og15 _ (by omega)).trans f6
  have f7 := (og15 _ (by omega)).trans f7
  have f8 := eg15
  have hFr : ∀ q, q < a0 → g15 q = h q := fun q u => (og15 q (by omega)).trans (hFr q u)
  refine ab_pF9 (v := .ref (a0 + 8)) (kf := 11) (ty := .array .int) C (a_mem 932 (by decide +kernel) (by decide +kernel)) (by decide) rfl hI rfl (by decide +kernel) rfl rfl (Nat.le_of_ble_eq_true rfl) hO dX9_init_66 (fun g16 eg16 og16 => ?_)
  have hO : g16 a0 = some (.inr (9, [.ref (a0 + 1), .ref (a0 + 2), .ref (a0 + 3), .ref (a0 + 4), .int 0, .ref (a0 + 5), .int 0, .int 0, .int 0, .ref (a0 + 6), .ref (a0 + 7), .ref (a0 + 8), .null, .int 0, .int 0, .null, .null, .null, .null, .null, .int 0, .int 0, .null, .int 0, .int 0, .int 0, .null, .null, .null, .null])) := eg16
  have f1 := (og16 _ (by omega)).trans f1
  have f2 := (og16 _ (by omega)).trans f2
  have f3 := (og16 _ (by omega)).trans f3
  have f4 := (og16 _ (by omega)).trans f4
  have f5 := (og16 _ (by omega)).trans f5
  have f6 := (og16 _ (by omega)).trans f6
  have f7 := (og16 _ (by omega)).trans f7
  have f8 := (og16 _ (by omega)).trans f8
  have hFr : ∀ q, q < a0 → g16 q = h q := fun q u => (og16 q (by omega)).trans (hFr q u)
  refine ab_aload_n C 0 rfl rfl dX9_init_69 ?_
  refine ab_iconst (v := (3 : Int32)) C dX9_init_70 (by decide) ?_
  refine ab_newaI (z := (3 : Int32)) (m := 3) C (by decide) (by decide) (by decide) (a_mem 97 (by decide +kernel) (by decide +kernel)) (by omega) ⟨by decide, by decide⟩ dX9_init_71 (fun g17 eg17 og17 => ?_)
  have hO := (og17 a0 (by omega)).trans hO
  have f1 := (og17 _ (by omega)).trans f1
  have f2 := (og17 _ (by omega)).trans f2
  have f3 := (og17 _ (by omega)).trans f3
  have f4 := (og17 _ (by omega)).trans f4
  have f5 := (og17 _ (by omega)).trans f5
  have f6 := (og17 _ (by omega)).trans f6
  have f7 := (og17 _ (by omega)).trans f7
  have f8 := (og17 _ (by omega)).trans f8
  have f9 := eg17
  have hFr : ∀ q, q < a0 → g17 q = h q := fun q u => (og17 q (by omega)).trans (hFr q u)
  refine ab_pF9 (v := .ref (a0 + 9)) (kf := 12) (ty := .array .int) C (a_mem 933 (by decide +kernel) (by decide +kernel)) (by decide) rfl hI rfl (by decide +kernel) rfl rfl (Nat.le_of_ble_eq_true rfl) hO dX9_init_73 (fun g18 eg18 og18 => ?_)
  have hO : g18 a0 = some (.inr (9, [.ref (a0 + 1), .ref (a0 + 2), .ref (a0 + 3), .ref (a0 + 4), .int 0, .ref (a0 + 5), .int 0, .int 0, .int 0, .ref (a0 + 6), .ref (a0 + 7), .ref (a0 + 8), .ref (a0 + 9), .int 0, .int 0, .null, .null, .null, .null, .null, .int 0, .int 0, .null, .int 0, .int 0, .int 0, .null, .null, .null, .null])) := eg18
  have f1 := (og18 _ (by omega)).trans f1
  have f2 := (og18 _ (by omega)).trans f2
  have f3 := (og18 _ (by omega)).trans f3
  have f4 := (og18 _ (by omega)).trans f4
  have f5 := (og18 _ (by omega)).trans f5
  have f6 := (og18 _ (by omega)).trans f6
  have f7 := (og18 _ (by omega)).trans f7
  have f8 := (og18 _ (by omega)).trans f8
  have f9 := (og18 _ (by omega)).trans f9
  have hFr : ∀ q, q < a0 → g18 q = h q := fun q u => (og18 q (by omega)).trans (hFr q u)
  refine ab_aload_n C 0 rfl rfl dX9_init_76 ?_
  refine ab_bipush (v := (36 : Int32)) C dX9_init_77 (by decide) ?_
  refine ab_newaI (z := (36 : Int32)) (m := 36) C (by decide) (by decide) (by decide) (a_mem 97 (by decide +kernel) (by decide +kernel)) (by omega) ⟨by decide, by decide⟩ dX9_init_79 (fun g19 eg19 og19 => ?_)
  have hO := (og19 a0 (by omega)).trans hO
  have f1 := (og19 _ (by omega)).trans f1
  have f2 := (og19 _ (by omega)).trans f2
  have f3 := (og19 _ (by omega)).trans f3
  have f4 := (og19 _ (by omega)).trans f4
  have f5 := (og19 _ (by omega)).trans f5
  have f6 := (og19 _ (by omega)).trans f6
  have f7 := (og19 _ (by omega)).trans f7
  have f8 := (og19 _ (by omega)).trans f8
  have f9 := (og19 _ (by omega)).trans f9
  have f10 := eg19
  have hFr : ∀ q, q < a0 → g19 q = h q := fun q u => (og19 q (by omega)).trans (hFr q u)
  refine ab_pF9 (v := .ref (a0 + 10)) (kf := 15) (ty := .array .int) C (a_mem 936 (by decide +kernel) (by decide +kernel)) (by decide) rfl hI rfl (by decide +kernel) rfl rfl (Nat.le_of_ble_eq_true rfl) hO dX9_init_81 (fun g20 eg20 og20 => ?_)
  have hO : g20 a0 = some (.inr (9, [.ref (a0 + 1), .ref (a0 + 2), .ref (a0 + 3), .ref (a0 + 4), .int 0, .ref (a0 + 5), .int 0, .int 0, .int 0, .ref (a0 + 6), .ref (a0 + 7), .ref (a0 + 8), .ref (a0 + 9), .int 0, .int 0, .ref (a0 + 10), .null, .null, .null, .null, .int 0, .int 0, .null, .int 0, .int 0, .int 0, .null, .null, .null, .null])) := eg20
  have f1 := (og20 _ (by omega)).trans f1
  have f2 := (og20 _ (by omega)).trans f2
  have f3 := (og20 _ (by omega)).trans f3
  have f4 := (og20 _ (by omega)).trans f4
  have f5 := (og20 _ (by omega)).trans f5
  have f6 := (og20 _ (by omega)).trans f6
  have f7 := (og20 _ (by omega)).trans f7
  have f8 := (og20 _ (by omega)).trans f8
  have f9 := (og20 _ (by omega)).trans f9
  have f10 := (og20 _ (by omega)).trans f10
  have hFr : ∀ q, q < a0 → g20 q = h q := fun q u => (og20 q (by omega)).trans (hFr q u)
  refine ab_aload_n C 0 rfl rfl dX9_init_84 ?_
  refine ab_bipush (v := (6 : Int32)) C dX9_init_85 (by decide) ?_
  refine ab_newaI (z := (6 : Int32)) (m := 6) C (by decide) (by decide) (by decide) (a_mem 97 (by decide +kernel) (by decide +kernel)) (by omega) ⟨by decide, by decide⟩ dX9_init_87 (fun g21 eg21 og21 => ?_)
  have hO := (og21 a0 (by omega)).trans hO
  have f1 := (og21 _ (by omega)).trans f1
  have f2 := (og21 _ (by omega)).trans f2
  have f3 := (og21 _ (by omega)).trans f3
  have f4 := (og21 _ (by omega)).trans f4
  have f5 := (og21 _ (by omega)).trans f5
  have f6 := (og21 _ (by omega)).trans f6
  have f7 := (og21 _ (by omega)).trans f7
  have f8 := (og21 _ (by omega)).trans f8
  have f9 := (og21 _ (by omega)).trans f9
  have f10 := (og21 _ (by omega)).trans f10
  have f11 := eg21
  have hFr : ∀ q, q < a0 → g21 q = h q := fun q u => (og21 q (by omega)).trans (hFr q u)
  refine ab_pF9 (v := .ref (a0 + 11)) (kf := 16) (ty := .array .int) C (a_mem 937 (by decide +kernel) (by decide +kernel)) (by decide) rfl hI rfl (by decide +kernel) rfl rfl (Nat.le_of_ble_eq_true rfl) hO dX9_init_89 (fun g22 eg22 og22 => ?_)
  have hO : g22 a0 = some (.inr (9, [.ref (a0 + 1), .ref (a0 + 2), .ref (a0 + 3), .ref (a0 + 4), .int 0, .ref (a0 + 5), .int 0, .int 0, .int 0, .ref (a0 + 6), .ref (a0 + 7), .ref (a0 + 8), .ref (a0 + 9), .int 0, .int 0, .ref (a0 + 10), .ref (a0 + 11), .null, .null, .null, .int 0, .int 0, .null, .int 0, .int 0, .int 0, .null, .null, .null, .null])) := eg22
  have f1 := (og22 _ (by omega)).trans f1
  have f2 := (og22 _ (by omega)).trans f2
  have f3 := (og22 _ (by omega)).trans f3
  have f4 := (og22 _ (by omega)).trans f4
  have f5 := (og22 _ (by omega)).trans f5
  have f6 := (og22 _ (by omega)).trans f6
  have f7 := (og22 _ (by omega)).trans f7
  have f8 := (og22 _ (by omega)).trans f8
  have f9 := (og22 _ (by omega)).trans f9
  have f10 := (og22 _ (by omega)).trans f10
  have f11 := (og22 _ (by omega)).trans f11
  have hFr : ∀ q, q < a0 → g22 q = h q := fun q u => (og22 q (by omega)).trans (hFr q u)
  refine ab_aload_n C 0 rfl rfl dX9_init_92 ?_
  refine ab_bipush (v := (64 : Int32)) C dX9_init_93 (by decide) ?_
  refine ab_newaI (z := (64 : Int32)) (m := 64) C (by decide) (by decide) (by decide) (a_mem 97 (by decide +kernel) (by decide +kernel)) (by omega) ⟨by decide, by decide⟩ dX9_init_95 (fun g23 eg23 og23 => ?_)
  have hO := (og23 a0 (by omega)).trans hO
  have f1 := (og23 _ (by omega)).trans f1
  have f2 := (og23 _ (by omega)).trans f2
  have f3 := (og23 _ (by omega)).trans f3
  have f4 := (og23 _ (by omega)).trans f4
  have f5 := (og23 _ (by omega)).trans f5
  have f6 := (og23 _ (by omega)).trans f6
  have f7 := (og23 _ (by omega)).trans f7
  have f8 := (og23 _ (by omega)).trans f8
  have f9 := (og23 _ (by omega)).trans f9
  have f10 := (og23 _ (by omega)).trans f10
  have f11 := (og23 _ (by omega)).trans f11
  have f12 := eg23
  have hFr : ∀ q, q < a0 → g23 q = h q := fun q u => (og23 q (by omega)).trans (hFr q u)
  refine ab_pF9 (v := .ref (a0 + 12)) (kf := 17) (ty := .array .int) C (a_mem 938 (by decide +kernel) (by decide +kernel)) (by decide) rfl hI rfl (by decide +kernel) rfl rfl (Nat.le_of_ble_eq_true rfl) hO dX9_init_97 (fun g24 eg24 og24 => ?_)
  have hO : g24 a0 = some (.inr (9, [.ref (a0 + 1), .ref (a0 + 2), .ref (a0 + 3), .ref (a0 + 4), .int 0, .ref (a0 + 5), .int 0, .int 0, .int 0, .ref (a0 + 6), .ref (a0 + 7), .ref (a0 + 8), .ref (a0 + 9), .int 0, .int 0, .ref (a0 + 10), .ref (a0 + 11), .ref (a0 + 12), .null, .null, .int 0, .int 0, .null, .int 0, .int 0, .int 0, .null, .null, .null, .null])) := eg24
  have f1 := (og24 _ (by omega)).trans f1
  have f2 := (og24 _ (by omega)).trans f2
  have f3 := (og24 _ (by omega)).trans f3
  have f4 := (og24 _ (by omega)).trans f4
  have f5 := (og24 _ (by omega)).trans f5
  have f6 := (og24 _ (by omega)).trans f6
  have f7 := (og24 _ (by omega)).trans f7
  have f8 := (og24 _ (by omega)).trans f8
  have f9 := (og24 _ (by omega)).trans f9
  have f10 := (og24 _ (by omega)).trans f10
  have f11 := (og24 _ (by omega)).trans f11
  have f12 := (og24 _ (by omega)).trans f12
  have hFr : ∀ q, q < a0 → g24 q = h q := fun q u => (og24 q (by omega)).trans (hFr q u)
  refine ab_aload_n C 0 rfl rfl dX9_init_100 ?_
  refine ab_bipush (v := (6 : Int32)) C dX9_init_101 (by decide) ?_
  refine ab_newaI (z := (6 : Int32)) (m := 6) C (by decide) (by decide) (by decide) (a_mem 97 (by decide +kernel) (by decide +kernel)) (by omega) ⟨by decide, by decide⟩ dX9_init_103 (fun g25 eg25 og25 => ?_)
  have hO := (og25 a0 (by omega)).trans hO
  have f1 := (og25 _ (by omega)).trans f1
  have f2 := (og25 _ (by omega)).trans f2
  have f3 := (og25 _ (by omega)).trans f3
  have f4 := (og25 _ (by omega)).trans f4
  have f5 := (og25 _ (by omega)).trans f5
  have f6 := (og25 _ (by omega)).trans f6
  have f7 := (og25 _ (by omega)).trans f7
  have f8 := (og25 _ (by omega)).trans f8
  have f9 := (og25 _ (by omega)).trans f9
  have f10 := (og25 _ (by omega)).trans f10
  have f11 := (og25 _ (by omega)).trans f11
  have f12 := (og25 _ (by omega)).trans f12
  have f13 := eg25
  have hFr : ∀ q, q < a0 → g25 q = h q := fun q u => (og25 q (by omega)).trans (hFr q u)
  refine ab_pF9 (v := .ref (a0 + 13)) (kf := 18) (ty := .array .int) C (a_mem 939 (by decide +kernel) (by decide +kernel)) (by decide) rfl hI rfl (by decide +kernel) rfl rfl (Nat.le_of_ble_eq_true rfl) hO dX9_init_105 (fun g26 eg26 og26 => ?_)
  have hO : g26 a0 = some (.inr (9, [.ref (a0 + 1), .ref (a0 + 2), .ref (a0 + 3), .ref (a0 + 4), .int 0, .ref (a0 + 5), .int 0, .int 0, .int 0, .ref (a0 + 6), .ref (a0 + 7), .ref (a0 + 8), .ref (a0 + 9), .int 0, .int 0, .ref (a0 + 10), .ref (a0 + 11), .ref (a0 + 12), .ref (a0 + 13), .null, .int 0, .int 0, .null, .int 0, .int 0, .int 0, .null, .null, .null, .null])) := eg26
  have f1 := (og26 _ (by omega)).trans f1
  have f2 := (og26 _ (by omega)).trans f2
  have f3 := (og26 _ (by omega)).trans f3
  have f4 := (og26 _ (by omega)).trans f4
  have f5 := (og26 _ (by omega)).trans f5
  have f6 := (og26 _ (by omega)).trans f6
  have f7 := (og26 _ (by omega)).trans f7
  have f8 := (og26 _ (by omega)).trans f8
  have f9 := (og26 _ (by omega)).trans f9
  have f10 := (og26 _ (by omega)).trans f10
  have f11 := (og26 _ (by omega)).trans f11
  have f12 := (og26 _ (by omega)).trans f12
  have f13 := (og26 _ (by omega)).trans f13
  have hFr : ∀ q, q < a0 → g26 q = h q := fun q u => (og26 q (by omega)).trans (hFr q u)
  refine ab_aload_n C 0 rfl rfl dX9_init_108 ?_
  refine ab_bipush (v := (36 : Int32)) C dX9_init_109 (by decide) ?_
  refine ab_newaI (z := (36 : Int32)) (m := 36) C (by decide) (by decide) (by decide) (a_mem 97 (by decide +kernel) (by decide +kernel)) (by omega) ⟨by decide, by decide⟩ dX9_init_111 (fun g27 eg27 og27 => ?_)
  have hO := (og27 a0 (by omega)).trans hO
  have f1 := (og27 _ (by omega)).trans f1
  have f2 := (og27 _ (by omega)).trans f2
  have f3 := (og27 _ (by omega)).trans f3
  have f4 := (og27 _ (by omega)).trans f4
  have f5 := (og27 _ (by omega)).trans f5
  have f6 := (og27 _ (by omega)).trans f6
  have f7 := (og27 _ (by omega)).trans f7
  have f8 := (og27 _ (by omega)).trans f8
  have f9 := (og27 _ (by omega)).trans f9
  have f10 := (og27 _ (by omega)).trans f10
  have f11 := (og27 _ (by omega)).trans f11
  have f12 := (og27 _ (by omega)).trans f12
  have f13 := (og27 _ (by omega)).trans f13
  have f14 := eg27
  have hFr : ∀ q, q < a0 → g27 q = h q := fun q u => (og27 q (by omega)).trans (hFr q u)
  refine ab_pF9 (v := .ref (a0 + 14)) (kf := 19) (ty := .array .int) C (a_mem 940 (by decide +kernel) (by decide +kernel)) (by decide) rfl hI rfl (by decide +kernel) rfl rfl (Nat.le_of_ble_eq_true rfl) hO dX9_init_113 (fun g28 eg28 og28 => ?_)
  have hO : g28 a0 = some (.inr (9, [.ref (a0 + 1), .ref (a0 + 2), .ref (a0 + 3), .ref (a0 + 4), .int 0, .ref (a0 + 5), .int 0, .int 0, .int 0, .ref (a0 + 6), .ref (a0 + 7), .ref (a0 + 8), .ref (a0 + 9), .int 0, .int 0, .ref (a0 + 10), .ref (a0 + 11), .ref (a0 + 12), .ref (a0 + 13), .ref (a0 + 14), .int 0, .int 0, .null, .int 0, .int 0, .int 0, .null, .null, .null, .null])) := eg28
  have f1 := (og28 _ (by omega)).trans f1
  have f2 := (og28 _ (by omega)).trans f2
  have f3 := (og28 _ (by omega)).trans f3
  have f4 := (og28 _ (by omega)).trans f4
  have f5 := (og28 _ (by omega)).trans f5
  have f6 := (og28 _ (by omega)).trans f6
  have f7 := (og28 _ (by omega)).trans f7
  have f8 := (og28 _ (by omega)).trans f8
  have f9 := (og28 _ (by omega)).trans f9
  have f10 := (og28 _ (by omega)).trans f10
  have f11 := (og28 _ (by omega)).trans f11
  have f12 := (og28 _ (by omega)).trans f12
  have f13 := (og28 _ (by omega)).trans f13
  have f14 := (og28 _ (by omega)).trans f14
  have hFr : ∀ q, q < a0 → g28 q = h q := fun q u => (og28 q (by omega)).trans (hFr q u)
  refine ab_aload_n C 0 rfl rfl dX9_init_116 ?_
  refine ab_bipush (v := (6 : Int32)) C dX9_init_117 (by decide) ?_
  refine ab_newaI (z := (6 : Int32)) (m := 6) C (by decide) (by decide) (by decide) (a_mem 97 (by decide +kernel) (by decide +kernel)) (by omega) ⟨by decide, by decide⟩ dX9_init_119 (fun g29 eg29 og29 => ?_)
  have hO := (og29 a0 (by omega)).trans hO
  have f1 := (og29 _ (by omega)).trans f1
  have f2 := (og29 _ (by omega)).trans f2
  have f3 := (og29 _ (by omega)).trans f3
  have f4 := (og29 _ (by omega)).trans f4
  have f5 := (og29 _ (by omega)).trans f5
  have f6 := (og29 _ (by omega)).trans f6
  have f7 := (og29 _ (by omega)).trans f7
  have f8 := (og29 _ (by omega)).trans f8
  have f9 := (og29 _ (by omega)).trans f9
  have f10 := (og29 _ (by omega)).trans f10
  have f11 := (og29 _ (by omega)).trans f11
  have f12 := (og29 _ (by omega)).trans f12
  have f13 := (og29 _ (by omega)).trans f13
  have f14 := (og29 _ (by omega)).trans f14
  have f15 := eg29
  have hFr : ∀ q, q < a0 → g29 q = h q := fun q u => (og29 q (by omega)).trans (hFr q u)
  refine ab_pF9 (v := .ref (a0 + 15)) (kf := 22) (ty := .array .int) C (a_mem 943 (by decide +kernel) (by decide +kernel)) (by decide) rfl hI rfl (by decide +kernel) rfl rfl (Nat.le_of_ble_eq_true rfl) hO dX9_init_121 (fun g30 eg30 og30 => ?_)
  have hO : g30 a0 = some (.inr (9, [.ref (a0 + 1), .ref (a0 + 2), .ref (a0 + 3), .ref (a0 + 4), .int 0, .ref (a0 + 5), .int 0, .int 0, .int 0, .ref (a0 + 6), .ref (a0 + 7), .ref (a0 + 8), .ref (a0 + 9), .int 0, .int 0, .ref (a0 + 10), .ref (a0 + 11), .ref (a0 + 12), .ref (a0 + 13), .ref (a0 + 14), .int 0, .int 0, .ref (a0 + 15), .int 0, .int 0, .int 0, .null, .null, .null, .null])) := eg30
  have f1 := (og30 _ (by omega)).trans f1
  have f2 := (og30 _ (by omega)).trans f2
  have f3 := (og30 _ (by omega)).trans f3
  have f4 := (og30 _ (by omega)).trans f4
  have f5 := (og30 _ (by omega)).trans f5
  have f6 := (og30 _ (by omega)).trans f6
  have f7 := (og30 _ (by omega)).trans f7
  have f8 := (og30 _ (by omega)).trans f8
  have f9 := (og30 _ (by omega)).trans f9
  have f10 := (og30 _ (by omega)).trans f10
  have f11 := (og30 _ (by omega)).trans f11
  have f12 := (og30 _ (by omega)).trans f12
  have f13 := (og30 _ (by omega)).trans f13
  have f14 := (og30 _ (by omega)).trans f14
  have f15 := (og30 _ (by omega)).trans f15
  have hFr : ∀ q, q < a0 → g30 q = h q := fun q u => (og30 q (by omega)).trans (hFr q u)
  refine ab_aload_n C 0 rfl rfl dX9_init_124 ?_
  refine ab_iconst (v := (4 : Int32)) C dX9_init_125 (by decide) ?_
  refine ab_newaI (z := (4 : Int32)) (m := 4) C (by decide) (by decide) (by decide) (a_mem 97 (by decide +kernel) (by decide +kernel)) (by omega) ⟨by decide, by decide⟩ dX9_init_126 (fun g31 eg31 og31 => ?_)
  have hO := (og31 a0 (by omega)).trans hO
  have f1 := (og31 _ (by omega)).trans f1
  have f2 := (og31 _ (by omega)).trans f2
  have f3 := (og31 _ (by omega)).trans f3
  have f4 := (og31 _ (by omega)).trans f4
  have f5 := (og31 _ (by omega)).trans f5
  have f6 := (og31 _ (by omega)).trans f6
  have f7 := (og31 _ (by omega)).trans f7
  have f8 := (og31 _ (by omega)).trans f8
  have f9 := (og31 _ (by omega)).trans f9
  have f10 := (og31 _ (by omega)).trans f10
  have f11 := (og31 _ (by omega)).trans f11
  have f12 := (og31 _ (by omega)).trans f12
  have f13 := (og31 _ (by omega)).trans f13
  have f14 := (og31 _ (by omega)).trans f14
  have f15 := (og31 _ (by omega)).trans f15
  have f16 := eg31
  have hFr : ∀ q, q < a0 → g31 q = h q := fun q u => (og31 q (by omega)).trans (hFr q u)
  refine ab_dup C rfl dX9_init_128 ?_
  refine ab_iconst (v := (0 : Int32)) C dX9_init_129 (by decide) ?_
  refine ab_iconst (v := (-1 : Int32)) C dX9_init_130 (by decide) ?_
  refine ab_iastore C f16 (by unfold vp_in; decide) dX9_init_131 (fun g32 eg32 og32 => ?_)
  have hO := (og32 a0 (by omega)).trans hO
  have f1 := (og32 _ (by omega)).trans f1
  have f2 := (og32 _ (by omega)).trans f2
  have f3 := (og32 _ (by omega)).trans f3
  have f4 := (og32 _ (by omega)).trans f4
  have f5 := (og32 _ (by omega)).trans f5
  have f6 := (og32 _ (by omega)).trans f6
  have f7 := (og32 _ (by omega)).trans f7
  have f8 := (og32 _ (by omega)).trans f8
  have f9 := (og32 _ (by omega)).trans f9
  have f10 := (og32 _ (by omega)).trans f10
  have f11 := (og32 _ (by omega)).trans f11
  have f12 := (og32 _ (by omega)).trans f12
  have f13 := (og32 _ (by omega)).trans f13
  have f14 := (og32 _ (by omega)).trans f14
  have f15 := (og32 _ (by omega)).trans f15
  have f16 := eg32
  have hFr : ∀ q, q < a0 → g32 q = h q := fun q u => (og32 q (by omega)).trans (hFr q u)
  refine ab_dup C rfl dX9_init_132 ?_
  refine ab_iconst (v := (1 : Int32)) C dX9_init_133 (by decide) ?_
  refine ab_iconst (v := (-1 : Int32)) C dX9_init_134 (by decide) ?_
  refine ab_iastore C f16 (by unfold vp_in; decide) dX9_init_135 (fun g33 eg33 og33 => ?_)
  have hO := (og33 a0 (by omega)).trans hO
  have f1 := (og33 _ (by omega)).trans f1
  have f2 := (og33 _ (by omega)).trans f2
  have f3 := (og33 _ (by omega)).trans f3
  have f4 := (og33 _ (by omega)).trans f4
  have f5 := (og33 _ (by omega)).trans f5
  have f6 := (og33 _ (by omega)).trans f6
  have f7 := (og33 _ (by omega)).trans f7
  have f8 := (og33 _ (by omega)).trans f8
  have f9 := (og33 _ (by omega)).trans f9
  have f10 := (og33 _ (by omega)).trans f10
  have f11 := (og33 _ (by omega)).trans f11
  have f12 := (og33 _ (by omega)).trans f12
  have f13 := (og33 _ (by omega)).trans f13
  have f14 := (og33 _ (by omega)).trans f14
  have f15 := (og33 _ (by omega)).trans f15
  have f16 := eg33
  have hFr : ∀ q, q < a0 → g33 q = h q := fun q u => (og33 q (by omega)).trans (hFr q u)
  refine ab_dup C rfl dX9_init_136 ?_
  refine ab_iconst (v := (2 : Int32)) C dX9_init_137 (by decide) ?_
  refine ab_iconst (v := (-1 : Int32)) C dX9_init_138 (by decide) ?_
  refine ab_iastore C f16 (by unfold vp_in; decide) dX9_init_139 (fun g34 eg34 og34 => ?_)
  have hO := (og34 a0 (by omega)).trans hO
  have f1 := (og34 _ (by omega)).trans f1
  have f2 := (og34 _ (by omega)).trans f2
  have f3 := (og34 _ (by omega)).trans f3
  have f4 := (og34 _ (by omega)).trans f4
  have f5 := (og34 _ (by omega)).trans f5
  have f6 := (og34 _ (by omega)).trans f6
  have f7 := (og34 _ (by omega)).trans f7
  have f8 := (og34 _ (by omega)).trans f8
  have f9 := (og34 _ (by omega)).trans f9
  have f10 := (og34 _ (by omega)).trans f10
  have f11 := (og34 _ (by omega)).trans f11
  have f12 := (og34 _ (by omega)).trans f12
  have f13 := (og34 _ (by omega)).trans f13
  have f14 := (og34 _ (by omega)).trans f14
  have f15 := (og34 _ (by omega)).trans f15
  have f16 := eg34
  have hFr : ∀ q, q < a0 → g34 q = h q := fun q u => (og34 q (by omega)).trans (hFr q u)
  refine ab_dup C rfl dX9_init_140 ?_
  refine ab_iconst (v := (3 : Int32)) C dX9_init_141 (by decide) ?_
  refine ab_iconst (v := (-1 : Int32)) C dX9_init_142 (by decide) ?_
  refine ab_iastore C f16 (by unfold vp_in; decide) dX9_init_143 (fun g35 eg35 og35 => ?_)
  have hO := (og35 a0 (by omega)).trans hO
  have f1 := (og35 _ (by omega)).trans f1
  have f2 := (og35 _ (by omega)).trans f2
  have f3 := (og35 _ (by omega)).trans f3
  have f4 := (og35 _ (by omega)).trans f4
  have f5 := (og35 _ (by omega)).trans f5
  have f6 := (og35 _ (by omega)).trans f6
  have f7 := (og35 _ (by omega)).trans f7
  have f8 := (og35 _ (by omega)).trans f8
  have f9 := (og35 _ (by omega)).trans f9
  have f10 := (og35 _ (by omega)).trans f10
  have f11 := (og35 _ (by omega)).trans f11
  have f12 := (og35 _ (by omega)).trans f12
  have f13 := (og35 _ (by omega)).trans f13
  have f14 := (og35 _ (by omega)).trans f14
  have f15 := (og35 _ (by omega)).trans f15
  have f16 := eg35
  have hFr : ∀ q, q < a0 → g35 q = h q := fun q u => (og35 q (by omega)).trans (hFr q u)
  refine ab_pF9 (v := .ref (a0 + 16)) (kf := 26) (ty := .array .int) C (a_mem 947 (by decide +kernel) (by decide +kernel)) (by decide) rfl hI rfl (by decide +kernel) rfl rfl (Nat.le_of_ble_eq_true rfl) hO dX9_init_144 (fun g36 eg36 og36 => ?_)
  have hO : g36 a0 = some (.inr (9, [.ref (a0 + 1), .ref (a0 + 2), .ref (a0 + 3), .ref (a0 + 4), .int 0, .ref (a0 + 5), .int 0, .int 0, .int 0, .ref (a0 + 6), .ref (a0 + 7), .ref (a0 + 8), .ref (a0 + 9), .int 0, .int 0, .ref (a0 + 10), .ref (a0 + 11), .ref (a0 + 12), .ref (a0 + 13), .ref (a0 + 14), .int 0, .int 0, .ref (a0 + 15), .int 0, .int 0, .int 0, .ref (a0 + 16), .null, .null, .null])) := eg36
  have f1 := (og36 _ (by omega)).trans f1
  have f2 := (og36 _ (by omega)).trans f2
  have f3 := (og36 _ (by omega)).trans f3
  have f4 := (og36 _ (by omega)).trans f4
  have f5 := (og36 _ (by omega)).trans f5
  have f6 := (og36 _ (by omega)).trans f6
  have f7 := (og36 _ (by omega)).trans f7
  have f8 := (og36 _ (by omega)).trans f8
  have f9 := (og36 _ (by omega)).trans f9
  have f10 := (og36 _ (by omega)).trans f10
  have f11 := (og36 _ (by omega)).trans f11
  have f12 := (og36 _ (by omega)).trans f12
  have f13 := (og36 _ (by omega)).trans f13
  have f14 := (og36 _ (by omega)).trans f14
  have f15 := (og36 _ (by omega)).trans f15
  have f16 := (og36 _ (by omega)).trans f16
  have hFr : ∀ q, q < a0 → g36 q = h q := fun q u => (og36 q (by omega)).trans (hFr q u)
  refine ab_aload_n C 0 rfl rfl dX9_init_147 ?_
  refine ab_iconst (v := (4 : Int32)) C dX9_init_148 (by decide) ?_
  refine ab_newaI (z := (4 : Int32)) (m := 4) C (by decide) (by decide) (by decide) (a_mem 97 (by decide +kernel) (by decide +kernel)) (by omega) ⟨by decide, by decide⟩ dX9_init_149 (fun g37 eg37 og37 => ?_)
  have hO := (og37 a0 (by omega)).trans hO
  have f1 := (og37 _ (by omega)).trans f1
  have f2 := (og37 _ (by omega)).trans f2
  have f3 := (og37 _ (by omega)).trans f3
  have f4 := (og37 _ (by omega)).trans f4
  have f5 := (og37 _ (by omega)).trans f5
  have f6 := (og37 _ (by omega)).trans f6
  have f7 := (og37 _ (by omega)).trans f7
  have f8 := (og37 _ (by omega)).trans f8
  have f9 := (og37 _ (by omega)).trans f9
  have f10 := (og37 _ (by omega)).trans f10
  have f11 := (og37 _ (by omega)).trans f11
  have f12 := (og37 _ (by omega)).trans f12
  have f13 := (og37 _ (by omega)).trans f13
  have f14 := (og37 _ (by omega)).trans f14
  have f15 := (og37 _ (by omega)).trans f15
  have f16 := (og37 _ (by omega)).trans f16
  have f17 := eg37
  have hFr : ∀ q, q < a0 → g37 q = h q := fun q u => (og37 q (by omega)).trans (hFr q u)
  refine ab_pF9 (v := .ref (a0 + 17)) (kf := 27) (ty := .array .int) C (a_mem 948 (by decide +kernel) (by decide +kernel)) (by decide) rfl hI rfl (by decide +kernel) rfl rfl (Nat.le_of_ble_eq_true rfl) hO dX9_init_151 (fun g38 eg38 og38 => ?_)
  have hO : g38 a0 = some (.inr (9, [.ref (a0 + 1), .ref (a0 + 2), .ref (a0 + 3), .ref (a0 + 4), .int 0, .ref (a0 + 5), .int 0, .int 0, .int 0, .ref (a0 + 6), .ref (a0 + 7), .ref (a0 + 8), .ref (a0 + 9), .int 0, .int 0, .ref (a0 + 10), .ref (a0 + 11), .ref (a0 + 12), .ref (a0 + 13), .ref (a0 + 14), .int 0, .int 0, .ref (a0 + 15), .int 0, .int 0, .int 0, .ref (a0 + 16), .ref (a0 + 17), .null, .null])) := eg38
  have f1 := (og38 _ (by omega)).trans f1
  have f2 := (og38 _ (by omega)).trans f2
  have f3 := (og38 _ (by omega)).trans f3
  have f4 := (og38 _ (by omega)).trans f4
  have f5 := (og38 _ (by omega)).trans f5
  have f6 := (og38 _ (by omega)).trans f6
  have f7 := (og38 _ (by omega)).trans f7
  have f8 := (og38 _ (by omega)).trans f8
  have f9 := (og38 _ (by omega)).trans f9
  have f10 := (og38 _ (by omega)).trans f10
  have f11 := (og38 _ (by omega)).trans f11
  have f12 := (og38 _ (by omega)).trans f12
  have f13 := (og38 _ (by omega)).trans f13
  have f14 := (og38 _ (by omega)).trans f14
  have f15 := (og38 _ (by omega)).trans f15
  have f16 := (og38 _ (by omega)).trans f16
  have f17 := (og38 _ (by omega)).trans f17
  have hFr : ∀ q, q < a0 → g38 q = h q := fun q u => (og38 q (by omega)).trans (hFr q u)
  refine ab_aload_n C 0 rfl rfl dX9_init_154 ?_
  refine ab_bipush (v := (96 : Int32)) C dX9_init_155 (by decide) ?_
  refine ab_newaJ (z := (96 : Int32)) (m := 96) C (by decide) (by decide) (by decide) (a_mem 160 (by decide +kernel) (by decide +kernel)) (by omega) ⟨by decide, by decide⟩ dX9_init_157 (fun g39 eg39 og39 => ?_)
  have hO := (og39 a0 (by omega)).trans hO
  have f1 := (og39 _ (by omega)).trans f1
  have f2 := (og39 _ (by omega)).trans f2
  have f3 := (og39 _ (by omega)).trans f3
  have f4 := (og39 _ (by omega)).trans f4
  have f5 := (og39 _ (by omega)).trans f5
  have f6 := (og39 _ (by omega)).trans f6
  have f7 := (og39 _ (by omega)).trans f7
  have f8 := (og39 _ (by omega)).trans f8
  have f9 := (og39 _ (by omega)).trans f9
  have f10 := (og39 _ (by omega)).trans f10
  have f11 := (og39 _ (by omega)).trans f11
  have f12 := (og39 _ (by omega)).trans f12
  have f13 := (og39 _ (by omega)).trans f13
  have f14 := (og39 _ (by omega)).trans f14
  have f15 := (og39 _ (by omega)).trans f15
  have f16 := (og39 _ (by omega)).trans f16
  have f17 := (og39 _ (by omega)).trans f17
  have f18 := eg39
  have hFr : ∀ q, q < a0 → g39 q = h q := fun q u => (og39 q (by omega)).trans (hFr q u)
  refine ab_pF9 (v := .ref (a0 + 18)) (kf := 28) (ty := .array .long) C (a_mem 949 (by decide +kernel) (by decide +kernel)) (by decide) rfl hI rfl (by decide +kernel) rfl rfl (Nat.le_of_ble_eq_true rfl) hO dX9_init_159 (fun g40 eg40 og40 => ?_)
  have hO : g40 a0 = some (.inr (9, [.ref (a0 + 1), .ref (a0 + 2), .ref (a0 + 3), .ref (a0 + 4), .int 0, .ref (a0 + 5), .int 0, .int 0, .int 0, .ref (a0 + 6), .ref (a0 + 7), .ref (a0 + 8), .ref (a0 + 9), .int 0, .int 0, .ref (a0 + 10), .ref (a0 + 11), .ref (a0 + 12), .ref (a0 + 13), .ref (a0 + 14), .int 0, .int 0, .ref (a0 + 15), .int 0, .int 0, .int 0, .ref (a0 + 16), .ref (a0 + 17), .ref (a0 + 18), .null])) := eg40
  have f1 := (og40 _ (by omega)).trans f1
  have f2 := (og40 _ (by omega)).trans f2
  have f3 := (og40 _ (by omega)).trans f3
  have f4 := (og40 _ (by omega)).trans f4
  have f5 := (og40 _ (by omega)).trans f5
  have f6 := (og40 _ (by omega)).trans f6
  have f7 := (og40 _ (by omega)).trans f7
  have f8 := (og40 _ (by omega)).trans f8
  have f9 := (og40 _ (by omega)).trans f9
  have f10 := (og40 _ (by omega)).trans f10
  have f11 := (og40 _ (by omega)).trans f11
  have f12 := (og40 _ (by omega)).trans f12
  have f13 := (og40 _ (by omega)).trans f13
  have f14 := (og40 _ (by omega)).trans f14
  have f15 := (og40 _ (by omega)).trans f15
  have f16 := (og40 _ (by omega)).trans f16
  have f17 := (og40 _ (by omega)).trans f17
  have f18 := (og40 _ (by omega)).trans f18
  have hFr : ∀ q, q < a0 → g40 q = h q := fun q u => (og40 q (by omega)).trans (hFr q u)
  refine ab_aload_n C 0 rfl rfl dX9_init_162 ?_
  refine ab_iconst (v := (5 : Int32)) C dX9_init_163 (by decide) ?_
  refine ab_newaI (z := (5 : Int32)) (m := 5) C (by decide) (by decide) (by decide) (a_mem 97 (by decide +kernel) (by decide +kernel)) (by omega) ⟨by decide, by decide⟩ dX9_init_164 (fun g41 eg41 og41 => ?_)
  have hO := (og41 a0 (by omega)).trans hO
  have f1 := (og41 _ (by omega)).trans f1
  have f2 := (og41 _ (by omega)).trans f2
  have f3 := (og41 _ (by omega)).trans f3
  have f4 := (og41 _ (by omega)).trans f4
  have f5 := (og41 _ (by omega)).trans f5
  have f6 := (og41 _ (by omega)).trans f6
  have f7 := (og41 _ (by omega)).trans f7
  have f8 := (og41 _ (by omega)).trans f8
  have f9 := (og41 _ (by omega)).trans f9
  have f10 := (og41 _ (by omega)).trans f10
  have f11 := (og41 _ (by omega)).trans f11
  have f12 := (og41 _ (by omega)).trans f12
  have f13 := (og41 _ (by omega)).trans f13
  have f14 := (og41 _ (by omega)).trans f14
  have f15 := (og41 _ (by omega)).trans f15
  have f16 := (og41 _ (by omega)).trans f16
  have f17 := (og41 _ (by omega)).trans f17
  have f18 := (og41 _ (by omega)).trans f18
  have f19 := eg41
  have hFr : ∀ q, q < a0 → g41 q = h q := fun q u => (og41 q (by omega)).trans (hFr q u)
  refine ab_pF9 (v := .ref (a0 + 19)) (kf := 29) (ty := .array .int) C (a_mem 950 (by decide +kernel) (by decide +kernel)) (by decide) rfl hI rfl (by decide +kernel) rfl rfl (Nat.le_of_ble_eq_true rfl) hO dX9_init_166 (fun g42 eg42 og42 => ?_)
  have hO : g42 a0 = some (.inr (9, [.ref (a0 + 1), .ref (a0 + 2), .ref (a0 + 3), .ref (a0 + 4), .int 0, .ref (a0 + 5), .int 0, .int 0, .int 0, .ref (a0 + 6), .ref (a0 + 7), .ref (a0 + 8), .ref (a0 + 9), .int 0, .int 0, .ref (a0 + 10), .ref (a0 + 11), .ref (a0 + 12), .ref (a0 + 13), .ref (a0 + 14), .int 0, .int 0, .ref (a0 + 15), .int 0, .int 0, .int 0, .ref (a0 + 16), .ref (a0 + 17), .ref (a0 + 18), .ref (a0 + 19)])) := eg42
  have f1 := (og42 _ (by omega)).trans f1
  have f2 := (og42 _ (by omega)).trans f2
  have f3 := (og42 _ (by omega)).trans f3
  have f4 := (og42 _ (by omega)).trans f4
  have f5 := (og42 _ (by omega)).trans f5
  have f6 := (og42 _ (by omega)).trans f6
  have f7 := (og42 _ (by omega)).trans f7
  have f8 := (og42 _ (by omega)).trans f8
  have f9 := (og42 _ (by omega)).trans f9
  have f10 := (og42 _ (by omega)).trans f10
  have f11 := (og42 _ (by omega)).trans f11
  have f12 := (og42 _ (by omega)).trans f12
  have f13 := (og42 _ (by omega)).trans f13
  have f14 := (og42 _ (by omega)).trans f14
  have f15 := (og42 _ (by omega)).trans f15
  have f16 := (og42 _ (by omega)).trans f16
  have f17 := (og42 _ (by omega)).trans f17
  have f18 := (og42 _ (by omega)).trans f18
  have f19 := (og42 _ (by omega)).trans f19
  have hFr : ∀ q, q < a0 → g42 q = h q := fun q u => (og42 q (by omega)).trans (hFr q u)
  refine aV.widen (k' := 19) (n' := 3185) (by omega) (by omega) ?_
  exact ab_vret C R0 dX9_init_169 ⟨rfl, rfl, ⟨hO, f1, f2, f3, f4, f5, f6, f7, f8, f9, f10, f11, f12, f13, f14, f15, f16, f17, f18, f19⟩, hFr⟩
