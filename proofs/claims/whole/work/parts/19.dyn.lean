/-! printed by a program from the bytecode: the methods that deal with what is made later -/
theorem dX4_keep_0 : decode cX4_keep 0 = .ok (.aload_n 0, 1) := by decide +kernel
theorem dX4_keep_1 : decode cX4_keep 1 = .ok (.getfield 21, 3) := by decide +kernel
theorem dX4_keep_4 : decode cX4_keep 4 = .ok (.ifCond .lt 12, 3) := by decide +kernel
theorem dX4_keep_7 : decode cX4_keep 7 = .ok (.aload_n 0, 1) := by decide +kernel
theorem dX4_keep_8 : decode cX4_keep 8 = .ok (.getfield 21, 3) := by decide +kernel
theorem dX4_keep_11 : decode cX4_keep 11 = .ok (.bipush 24, 2) := by decide +kernel
theorem dX4_keep_13 : decode cX4_keep 13 = .ok (.if_icmp .lt 4, 3) := by decide +kernel
theorem dX4_keep_16 : decode cX4_keep 16 = .ok (.return_, 1) := by decide +kernel
theorem dX4_keep_17 : decode cX4_keep 17 = .ok (.aload_n 0, 1) := by decide +kernel
theorem dX4_keep_18 : decode cX4_keep 18 = .ok (.getfield 11, 3) := by decide +kernel
theorem dX4_keep_21 : decode cX4_keep 21 = .ok (.aload_n 0, 1) := by decide +kernel
theorem dX4_keep_22 : decode cX4_keep 22 = .ok (.getfield 21, 3) := by decide +kernel
theorem dX4_keep_25 : decode cX4_keep 25 = .ok (.aaload, 1) := by decide +kernel
theorem dX4_keep_26 : decode cX4_keep 26 = .ok (.astore_n 2, 1) := by decide +kernel
theorem dX4_keep_27 : decode cX4_keep 27 = .ok (.aload_n 2, 1) := by decide +kernel
theorem dX4_keep_28 : decode cX4_keep 28 = .ok (.ifnonnull 21, 3) := by decide +kernel
theorem dX4_keep_31 : decode cX4_keep 31 = .ok (.new 9, 3) := by decide +kernel
theorem dX4_keep_34 : decode cX4_keep 34 = .ok (.dup, 1) := by decide +kernel
theorem dX4_keep_35 : decode cX4_keep 35 = .ok (.invokespecial 24, 3) := by decide +kernel
theorem dX4_keep_38 : decode cX4_keep 38 = .ok (.astore_n 2, 1) := by decide +kernel
theorem dX4_keep_39 : decode cX4_keep 39 = .ok (.aload_n 0, 1) := by decide +kernel
theorem dX4_keep_40 : decode cX4_keep 40 = .ok (.getfield 11, 3) := by decide +kernel
theorem dX4_keep_43 : decode cX4_keep 43 = .ok (.aload_n 0, 1) := by decide +kernel
theorem dX4_keep_44 : decode cX4_keep 44 = .ok (.getfield 21, 3) := by decide +kernel
theorem dX4_keep_47 : decode cX4_keep 47 = .ok (.aload_n 2, 1) := by decide +kernel
theorem dX4_keep_48 : decode cX4_keep 48 = .ok (.aastore, 1) := by decide +kernel
theorem dX4_keep_49 : decode cX4_keep 49 = .ok (.aload_n 2, 1) := by decide +kernel
theorem dX4_keep_50 : decode cX4_keep 50 = .ok (.aload_n 1, 1) := by decide +kernel
theorem dX4_keep_51 : decode cX4_keep 51 = .ok (.invokevirtual 25, 3) := by decide +kernel
theorem dX4_keep_54 : decode cX4_keep 54 = .ok (.aload_n 0, 1) := by decide +kernel
theorem dX4_keep_55 : decode cX4_keep 55 = .ok (.aload_n 0, 1) := by decide +kernel
theorem dX4_keep_56 : decode cX4_keep 56 = .ok (.getfield 21, 3) := by decide +kernel
theorem dX4_keep_59 : decode cX4_keep 59 = .ok (.iconst 1, 1) := by decide +kernel
theorem dX4_keep_60 : decode cX4_keep 60 = .ok (.iadd, 1) := by decide +kernel
theorem dX4_keep_61 : decode cX4_keep 61 = .ok (.bipush 24, 2) := by decide +kernel
theorem dX4_keep_63 : decode cX4_keep 63 = .ok (.irem, 1) := by decide +kernel
theorem dX4_keep_64 : decode cX4_keep 64 = .ok (.putfield 21, 3) := by decide +kernel
theorem dX4_keep_67 : decode cX4_keep 67 = .ok (.aload_n 0, 1) := by decide +kernel
theorem dX4_keep_68 : decode cX4_keep 68 = .ok (.aload_n 0, 1) := by decide +kernel
theorem dX4_keep_69 : decode cX4_keep 69 = .ok (.getfield 17, 3) := by decide +kernel
theorem dX4_keep_72 : decode cX4_keep 72 = .ok (.iconst 1, 1) := by decide +kernel
theorem dX4_keep_73 : decode cX4_keep 73 = .ok (.iadd, 1) := by decide +kernel
theorem dX4_keep_74 : decode cX4_keep 74 = .ok (.bipush 24, 2) := by decide +kernel
theorem dX4_keep_76 : decode cX4_keep 76 = .ok (.invokestatic 29, 3) := by decide +kernel
theorem dX4_keep_79 : decode cX4_keep 79 = .ok (.putfield 17, 3) := by decide +kernel
theorem dX4_keep_82 : decode cX4_keep 82 = .ok (.return_, 1) := by decide +kernel
def X4_keep (D0 : DynT) (S0 : Rec) (S1 : Rec) : Option (Rec × DynT) :=
  if (S0.1 1) < 0 then
    some (S0, D0)
  else
    if (S0.1 1) < (24 : Int32) then
      (rdQ D0.1 24 (S0.1 1)).bind fun o3 =>
      aQs o3
        (if (S0.1 1) < 0 ∨ 24 ≤ (S0.1 1).toNatClampNeg then none else
         some ((sI (sI S0 1 (((S0.1 1) + (1 : Int32)) - ((S0.1 1) + (1 : Int32)) / (24 : Int32) * (24 : Int32))) 2 (a_min (((sI S0 1 (((S0.1 1) + (1 : Int32)) - ((S0.1 1) + (1 : Int32)) / (24 : Int32) * (24 : Int32))).1 2) + (1 : Int32)) (24 : Int32))), (dLV (dNewP D0 (S0.1 1).toNatClampNeg zR) ((S0.1 1).toNatClampNeg) (X2_become ((dNewP D0 (S0.1 1).toNatClampNeg zR).2.2.2.2.1 (S0.1 1).toNatClampNeg) S1))))
        fun q4 =>
        some ((sI (sI S0 1 (((S0.1 1) + (1 : Int32)) - ((S0.1 1) + (1 : Int32)) / (24 : Int32) * (24 : Int32))) 2 (a_min (((sI S0 1 (((S0.1 1) + (1 : Int32)) - ((S0.1 1) + (1 : Int32)) / (24 : Int32) * (24 : Int32))).1 2) + (1 : Int32)) (24 : Int32))), (dLV D0 ((S0.1 1).toNatClampNeg) (X2_become (D0.2.2.2.2.1 (S0.1 1).toNatClampNeg) S1)))
    else
      some (S0, D0)
set_option maxRecDepth 100000 in
set_option maxHeartbeats 4000000 in
theorem X4_keep_ok (l : Launch) {h : aH} {D0 : DynT} {S0 : Rec} {S1 : Rec} (hB0 : X4_at h 15 D0.1 S0) (hB1 : X2_at h 7 S1) (hD : xD h D0) {r : Rec × DynT} (hF : X4_keep D0 S0 S1 = some r) : aOk l 2 8 50 yX4_keep cX4_keep 3 none [.ref 15, .ref 7] h D0.2.2.2.2.2 (fun v1 h1 nx1 => v1 = none ∧ nx1 = r.2.2.2.2.2.2 ∧ X4_at h1 15 r.2.1 r.1 ∧ xD h1 r.2 ∧ (∀ q, q < 66 → q ≠ 17 → q ≠ 18 → (q < 15 ∨ 15 + 2 ≤ q) → h1 q = h q)) := by
  refine aOk.of (by decide +kernel) (Nat.le_of_ble_eq_true rfl) (fun X G hX C R0 _ => ?_)
  subst hX
  show aV X G 3 0 [(0, .ref 15), (1, .ref 7)] [] h (D0.2.2.2.2.2) 0 0
  have hFr : ∀ q, q < 66 → q ≠ 17 → q ≠ 18 → (q < 15 ∨ 15 + 2 ≤ q) → h q = h q := fun _ _ _ _ _ => rfl
  rw [X4_keep] at hF
  refine ab_aload_n C 0 rfl rfl dX4_keep_0 ?_
  refine ab_g4 (v := .int (S0.1 1)) C lf_X4_21 hB0.1 rfl dX4_keep_1 ?_
  refine ab_if_lt C 16 dX4_keep_4 (by decide) (fun c1 => ?_) (fun c1 => ?_)
  · replace hF := (if_pos c1).symm.trans hF
    obtain rfl := Option.some.inj hF
    refine aV.widen (k' := 8) (n' := 50) (by omega) (by omega) ?_
    exact ab_vret C R0 dX4_keep_16 ⟨rfl, rfl, hB0, hD, hFr⟩
  · replace hF := (if_neg c1).symm.trans hF
    refine ab_aload_n C 0 rfl rfl dX4_keep_7 ?_
    refine ab_g4 (v := .int (S0.1 1)) C lf_X4_21 hB0.1 rfl dX4_keep_8 ?_
    refine ab_bipush (v := (24 : Int32)) C dX4_keep_11 (by decide) ?_
    refine ab_icmp_lt C 17 dX4_keep_13 (by decide) (fun c2 => ?_) (fun c2 => ?_)
    · replace hF := (if_pos c2).symm.trans hF
      refine ab_aload_n C 0 rfl rfl dX4_keep_17 ?_
      refine ab_g4 (v := .ref (15 + 1)) C lf_X4_11 hB0.1 rfl dX4_keep_18 ?_
      refine ab_aload_n C 0 rfl rfl dX4_keep_21 ?_
      refine ab_g4 (v := .int (S0.1 1)) C lf_X4_21 hB0.1 rfl dX4_keep_22 ?_
      obtain ⟨o3, hxo3, hF⟩ := Option.bind_eq_some_iff.mp hF
      obtain ⟨hio3, hvo3⟩ := rdQ_s hxo3
      refine ab_aaload3 C (X4_r0 hB0) hio3 dX4_keep_25 ?_
      rw [hvo3]
      rcases o3 with _ | q4
      · replace hF := aQs_n hF
        show aV X G 3 26 [(0, .ref 15), (1, .ref 7)] [.null] h (D0.2.2.2.2.2) 0 0
        refine ab_astore_nN (lv' := [(2, .null), (0, .ref 15), (1, .ref 7)]) C dX4_keep_26 rfl (by decide) rfl ?_
        refine ab_aload_nN C 0 rfl rfl dX4_keep_27 ?_
        refine ab_ifnonnullN C dX4_keep_28 ?_
        have n66 : 66 ≤ D0.2.2.2.2.2 := hD.2.2.1
        refine ab_new C (ci := 2) (fs := [.int 0, .null, .int 0, .int 0, .int 0, .null, .null, .null, .int 0, .null, .null, .null]) tyX2 tyX2_ok rfl inX2 (a_mem 167 (by decide +kernel) (by decide +kernel)) (a_mem 99 (by decide +kernel) (by decide +kernel)) (a_mem 56 (by decide +kernel) (by decide +kernel)) (fun G j hj => by rcases (show j = 0 ∨ j = 1 ∨ j = 2 ∨ j = 3 ∨ j = 4 ∨ j = 5 ∨ j = 6 ∨ j = 7 ∨ j = 8 ∨ j = 9 ∨ j = 10 ∨ j = 11 by omega) with rfl | rfl | rfl | rfl | rfl | rfl | rfl | rfl | rfl | rfl | rfl | rfl <;> rfl) (by omega) ⟨by decide, by decide⟩ dX4_keep_31 (fun g5 eg5 og5 => ?_)
        refine ab_dup C rfl dX4_keep_34 ?_
        refine ab_cI (st := [.ref (D0.2.2.2.2.2)]) C lm_X4_24 (X2_init_ok (xl X) (by omega) rfl eg5) [] rfl (by omega) rfl rfl (by decide) ⟨by omega, by omega⟩ (Nat.le_of_ble_eq_true rfl) dX4_keep_35 (fun v g6 nxg6 pg6 => ?_)
        obtain ⟨rfl, hng6, hBN, oN⟩ := pg6
        have oN : ∀ q, q < D0.2.2.2.2.2 → g6 q = h q := fun q u => (oN q u).trans (og5 q (by omega))
        have hB0 : X4_at g6 15 D0.1 S0 := X4_off hB0 (fun q i1 i2 => oN q (by omega))
        have hB1 : X2_at g6 7 S1 := X2_off hB1 (fun q i1 i2 => oN q (by omega))
        have hFr : ∀ q, q < 66 → q ≠ 17 → q ≠ 18 → (q < 15 ∨ 15 + 2 ≤ q) → g6 q = h q := fun q u0 u1 u2 u3 => (oN q (by omega)).trans (hFr q u0 u1 u2 u3)
        obtain rfl : nxg6 = D0.2.2.2.2.2 + 8 := hng6
        show aV X G 3 38 [(2, .null), (0, .ref 15), (1, .ref 7)] [.ref (D0.2.2.2.2.2)] g6 (D0.2.2.2.2.2 + 8) 8 50
        refine ab_astore_n (lv' := [(2, .ref (D0.2.2.2.2.2)), (0, .ref 15), (1, .ref 7)]) C dX4_keep_38 rfl (by decide) rfl ?_
        refine ab_aload_n C 1 rfl rfl dX4_keep_39 ?_
        refine ab_g4 (v := .ref (15 + 1)) C lf_X4_11 hB0.1 rfl dX4_keep_40 ?_
        refine ab_aload_n C 1 rfl rfl dX4_keep_43 ?_
        refine ab_g4 (v := .int (S0.1 1)) C lf_X4_21 hB0.1 rfl dX4_keep_44 ?_
        refine ab_aload_n C 0 rfl rfl dX4_keep_47 ?_
        rcases Classical.em ((S0.1 1) < 0 ∨ 24 ≤ (S0.1 1).toNatClampNeg) with c8 | c8
        · replace hF := (if_pos c8).symm.trans hF
          cases hF
        replace hF := (if_neg c8).symm.trans hF
        refine ab_aastore3 C (X4_r0 hB0) hBN.1 c8 dX4_keep_48 (fun g7 eg7 og7 => ?_)
        have oZ : ∀ q, q < D0.2.2.2.2.2 → q ≠ (15 + 1) → g7 q = h q := fun q u w => (og7 q w).trans (oN q u)
        have hB0 : X4_at g7 15 (dNewP D0 (S0.1 1).toNatClampNeg zR).1 S0 := ⟨(og7 15 (by omega)).trans hB0.1, eg7⟩
        have hB1 : X2_at g7 7 S1 := X2_off hB1 (fun q i1 i2 => og7 q (by omega))
        have hD : xD g7 (dNewP D0 (S0.1 1).toNatClampNeg zR) := xD_newP hD (vp_lt c8) (X2_off hBN (fun q i1 i2 => og7 q (by omega))) oZ
        have hFr : ∀ q, q < 66 → q ≠ 17 → q ≠ 18 → (q < 15 ∨ 15 + 2 ≤ q) → g7 q = h q := fun q u0 u1 u2 u3 => (og7 q (by omega)).trans (hFr q u0 u1 u2 u3)
        have hdnewk : (S0.1 1).toNatClampNeg < 24 := vp_lt c8
        have hdnewq : (dNewP D0 (S0.1 1).toNatClampNeg zR).1 (S0.1 1).toNatClampNeg = some (D0.2.2.2.2.2) := by simp [dNewP, va_up]
        obtain ⟨hdnewl, hdnewu, hBdnew⟩ := xD_getP hD hdnewk hdnewq
        show aV X G 3 49 [(2, .ref (D0.2.2.2.2.2)), (0, .ref 15), (1, .ref 7)] [] g7 ((dNewP D0 (S0.1 1).toNatClampNeg zR).2.2.2.2.2) 8 50
        refine ab_aload_n C 0 rfl rfl dX4_keep_49 ?_
        refine ab_aload_n C 2 rfl rfl dX4_keep_50 ?_
        refine ab_cVN (st := []) C lm_X4_25 (X2_become_ok (xl X) hBdnew hB1 (by omega) (r := (X2_become ((dNewP D0 (S0.1 1).toNatClampNeg zR).2.2.2.2.1 (S0.1 1).toNatClampNeg) S1)) rfl) [.ref 7] rfl hBdnew.1 rfl rfl rfl (by decide) ⟨by decide, by decide⟩ (Nat.le_of_ble_eq_true rfl) dX4_keep_51 (fun g10 pg10 => ?_)
        obtain ⟨k0, Og10⟩ := pg10
        have hBdnew : X2_at g10 (D0.2.2.2.2.2) (X2_become ((dNewP D0 (S0.1 1).toNatClampNeg zR).2.2.2.2.1 (S0.1 1).toNatClampNeg) S1) := k0
        have hB0 : X4_at g10 15 (dLV (dNewP D0 (S0.1 1).toNatClampNeg zR) ((S0.1 1).toNatClampNeg) (X2_become ((dNewP D0 (S0.1 1).toNatClampNeg zR).2.2.2.2.1 (S0.1 1).toNatClampNeg) S1)).1 S0 := X4_off hB0 (fun q i1 i2 => Og10 q (by omega))
        have hB1 : X2_at g10 7 S1 := X2_off hB1 (fun q i1 i2 => Og10 q (by omega))
        have hD : xD g10 (dLV (dNewP D0 (S0.1 1).toNatClampNeg zR) ((S0.1 1).toNatClampNeg) (X2_become ((dNewP D0 (S0.1 1).toNatClampNeg zR).2.2.2.2.1 (S0.1 1).toNatClampNeg) S1)) := xD_putP hD hdnewk hdnewq hBdnew (fun q i1 => Og10 q (by omega))
        have hFr : ∀ q, q < 66 → q ≠ 17 → q ≠ 18 → (q < 15 ∨ 15 + 2 ≤ q) → g10 q = h q := fun q u0 u1 u2 u3 => (Og10 q (by omega)).trans (hFr q u0 u1 u2 u3)
        show aV X G 3 54 [(2, .ref (D0.2.2.2.2.2)), (0, .ref 15), (1, .ref 7)] [] g10 ((dLV (dNewP D0 (S0.1 1).toNatClampNeg zR) ((S0.1 1).toNatClampNeg) (X2_become ((dNewP D0 (S0.1 1).toNatClampNeg zR).2.2.2.2.1 (S0.1 1).toNatClampNeg) S1)).2.2.2.2.2) 8 50
        refine ab_aload_n C 1 rfl rfl dX4_keep_54 ?_
        refine ab_aload_n C 1 rfl rfl dX4_keep_55 ?_
        refine ab_g4 (v := .int (S0.1 1)) C lf_X4_21 hB0.1 rfl dX4_keep_56 ?_
        refine ab_iconst (v := (1 : Int32)) C dX4_keep_59 (by decide) ?_
        refine ab_iadd C dX4_keep_60 ?_
        refine ab_bipush (v := (24 : Int32)) C dX4_keep_61 (by decide) ?_
        refine ab_irem C (by decide) dX4_keep_63 ?_
        refine ab_p4 (ty := .int) C lf_X4_21 rfl (by decide +kernel) rfl rfl (Nat.le_of_ble_eq_true rfl) hB0.1 dX4_keep_64 (fun g11 eg11 og11 => ?_)
        have hB0 : X4_at g11 15 (dLV (dNewP D0 (S0.1 1).toNatClampNeg zR) ((S0.1 1).toNatClampNeg) (X2_become ((dNewP D0 (S0.1 1).toNatClampNeg zR).2.2.2.2.1 (S0.1 1).toNatClampNeg) S1)).1 (sI S0 1 (((S0.1 1) + (1 : Int32)) - ((S0.1 1) + (1 : Int32)) / (24 : Int32) * (24 : Int32))) := X4_p1 hB0 eg11 og11
        have hB1 : X2_at g11 7 S1 := X2_off hB1 (fun q i1 i2 => og11 q (by omega))
        have hBdnew : X2_at g11 (D0.2.2.2.2.2) (X2_become ((dNewP D0 (S0.1 1).toNatClampNeg zR).2.2.2.2.1 (S0.1 1).toNatClampNeg) S1) := X2_off hBdnew (fun q i1 i2 => og11 q (by omega))
        have hD : xD g11 (dLV (dNewP D0 (S0.1 1).toNatClampNeg zR) ((S0.1 1).toNatClampNeg) (X2_become ((dNewP D0 (S0.1 1).toNatClampNeg zR).2.2.2.2.1 (S0.1 1).toNatClampNeg) S1)) := xD_off hD (fun q i1 => og11 q (by omega))
        have hFr : ∀ q, q < 66 → q ≠ 17 → q ≠ 18 → (q < 15 ∨ 15 + 2 ≤ q) → g11 q = h q := fun q u0 u1 u2 u3 => (og11 q (by omega)).trans (hFr q u0 u1 u2 u3)
        refine ab_aload_n C 1 rfl rfl dX4_keep_67 ?_
        refine ab_aload_n C 1 rfl rfl dX4_keep_68 ?_
        refine ab_g4 (v := .int ((sI S0 1 (((S0.1 1) + (1 : Int32)) - ((S0.1 1) + (1 : Int32)) / (24 : Int32) * (24 : Int32))).1 2)) C lf_X4_17 hB0.1 rfl dX4_keep_69 ?_
        refine ab_iconst (v := (1 : Int32)) C dX4_keep_72 (by decide) ?_
        refine ab_iadd C dX4_keep_73 ?_
        refine ab_bipush (v := (24 : Int32)) C dX4_keep_74 (by decide) ?_
        refine ab_mmin C (own := RX4) (a_mem 579 (by decide +kernel) (by decide +kernel)) (Nat.le_of_ble_eq_true rfl) ⟨by decide, by decide⟩ (Nat.le_of_ble_eq_true rfl) dX4_keep_76 ?_
        refine ab_p4 (ty := .int) C lf_X4_17 rfl (by decide +kernel) rfl rfl (Nat.le_of_ble_eq_true rfl) hB0.1 dX4_keep_79 (fun g12 eg12 og12 => ?_)
        have hB0 : X4_at g12 15 (dLV (dNewP D0 (S0.1 1).toNatClampNeg zR) ((S0.1 1).toNatClampNeg) (X2_become ((dNewP D0 (S0.1 1).toNatClampNeg zR).2.2.2.2.1 (S0.1 1).toNatClampNeg) S1)).1 (sI (sI S0 1 (((S0.1 1) + (1 : Int32)) - ((S0.1 1) + (1 : Int32)) / (24 : Int32) * (24 : Int32))) 2 (a_min (((sI S0 1 (((S0.1 1) + (1 : Int32)) - ((S0.1 1) + (1 : Int32)) / (24 : Int32) * (24 : Int32))).1 2) + (1 : Int32)) (24 : Int32))) := X4_p2 hB0 eg12 og12
        have hB1 : X2_at g12 7 S1 := X2_off hB1 (fun q i1 i2 => og12 q (by omega))
        have hBdnew : X2_at g12 (D0.2.2.2.2.2) (X2_become ((dNewP D0 (S0.1 1).toNatClampNeg zR).2.2.2.2.1 (S0.1 1).toNatClampNeg) S1) := X2_off hBdnew (fun q i1 i2 => og12 q (by omega))
        have hD : xD g12 (dLV (dNewP D0 (S0.1 1).toNatClampNeg zR) ((S0.1 1).toNatClampNeg) (X2_become ((dNewP D0 (S0.1 1).toNatClampNeg zR).2.2.2.2.1 (S0.1 1).toNatClampNeg) S1)) := xD_off hD (fun q i1 => og12 q (by omega))
        have hFr : ∀ q, q < 66 → q ≠ 17 → q ≠ 18 → (q < 15 ∨ 15 + 2 ≤ q) → g12 q = h q := fun q u0 u1 u2 u3 => (og12 q (by omega)).trans (hFr q u0 u1 u2 u3)
        obtain rfl := Option.some.inj hF
        refine aV.widen (k' := 8) (n' := 50) (by omega) (by omega) ?_
        exact ab_vret C R0 dX4_keep_82 ⟨rfl, rfl, hB0, hD, hFr⟩
      · replace hF := aQs_s hF
        show aV X G 3 26 [(0, .ref 15), (1, .ref 7)] [.ref q4] h (D0.2.2.2.2.2) 0 0
        have hdq4k : (S0.1 1).toNatClampNeg < 24 := vp_lt hio3
        have hdq4q : D0.1 (S0.1 1).toNatClampNeg = some q4 := hvo3
        obtain ⟨hdq4l, hdq4u, hBdq4⟩ := xD_getP hD hdq4k hdq4q
        refine ab_astore_n (lv' := [(2, .ref q4), (0, .ref 15), (1, .ref 7)]) C dX4_keep_26 rfl (by decide) rfl ?_
        refine ab_aload_n C 0 rfl rfl dX4_keep_27 ?_
        refine ab_ifnonnull C 49 dX4_keep_28 (by decide) ?_
        refine ab_aload_n C 0 rfl rfl dX4_keep_49 ?_
        refine ab_aload_n C 2 rfl rfl dX4_keep_50 ?_
        refine ab_cVN (st := []) C lm_X4_25 (X2_become_ok (xl X) hBdq4 hB1 (by omega) (r := (X2_become (D0.2.2.2.2.1 (S0.1 1).toNatClampNeg) S1)) rfl) [.ref 7] rfl hBdq4.1 rfl rfl rfl (by decide) ⟨by decide, by decide⟩ (Nat.le_of_ble_eq_true rfl) dX4_keep_51 (fun g13 pg13 => ?_)
        obtain ⟨k0, Og13⟩ := pg13
        have hBdq4 : X2_at g13 q4 (X2_become (D0.2.2.2.2.1 (S0.1 1).toNatClampNeg) S1) := k0
        have hB0 : X4_at g13 15 (dLV D0 ((S0.1 1).toNatClampNeg) (X2_become (D0.2.2.2.2.1 (S0.1 1).toNatClampNeg) S1)).1 S0 := X4_off hB0 (fun q i1 i2 => Og13 q (by omega))
        have hB1 : X2_at g13 7 S1 := X2_off hB1 (fun q i1 i2 => Og13 q (by omega))
        have hD : xD g13 (dLV D0 ((S0.1 1).toNatClampNeg) (X2_become (D0.2.2.2.2.1 (S0.1 1).toNatClampNeg) S1)) := xD_putP hD hdq4k hdq4q hBdq4 (fun q i1 => Og13 q (by omega))
        have hFr : ∀ q, q < 66 → q ≠ 17 → q ≠ 18 → (q < 15 ∨ 15 + 2 ≤ q) → g13 q = h q := fun q u0 u1 u2 u3 => (Og13 q (by omega)).trans (hFr q u0 u1 u2 u3)
        show aV X G 3 54 [(2, .ref q4), (0, .ref 15), (1, .ref 7)] [] g13 ((dLV D0 ((S0.1 1).toNatClampNeg) (X2_become (D0.2.2.2.2.1 (S0.1 1).toNatClampNeg) S1)).2.2.2.2.2) 0 0
        refine ab_aload_n C 1 rfl rfl dX4_keep_54 ?_
        refine ab_aload_n C 1 rfl rfl dX4_keep_55 ?_
        refine ab_g4 (v := .int (S0.1 1)) C lf_X4_21 hB0.1 rfl dX4_keep_56 ?_
        refine ab_iconst (v := (1 : Int32)) C dX4_keep_59 (by decide) ?_
        refine ab_iadd C dX4_keep_60 ?_
        refine ab_bipush (v := (24 : Int32)) C dX4_keep_61 (by decide) ?_
        refine ab_irem C (by decide) dX4_keep_63 ?_
        refine ab_p4 (ty := .int) C lf_X4_21 rfl (by decide +kernel) rfl rfl (Nat.le_of_ble_eq_true rfl) hB0.1 dX4_keep_64 (fun g14 eg14 og14 => ?_)
        have hB0 : X4_at g14 15 (dLV D0 ((S0.1 1).toNatClampNeg) (X2_become (D0.2.2.2.2.1 (S0.1 1).toNatClampNeg) S1)).1 (sI S0 1 (((S0.1 1) + (1 : Int32)) - ((S0.1 1) + (1 : Int32)) / (24 : Int32) * (24 : Int32))) := X4_p1 hB0 eg14 og14
        have hB1 : X2_at g14 7 S1 := X2_off hB1 (fun q i1 i2 => og14 q (by omega))
        have hBdq4 : X2_at g14 q4 (X2_become (D0.2.2.2.2.1 (S0.1 1).toNatClampNeg) S1) := X2_off hBdq4 (fun q i1 i2 => og14 q (by omega))
        have hD : xD g14 (dLV D0 ((S0.1 1).toNatClampNeg) (X2_become (D0.2.2.2.2.1 (S0.1 1).toNatClampNeg) S1)) := xD_off hD (fun q i1 => og14 q (by omega))
        have hFr : ∀ q, q < 66 → q ≠ 17 → q ≠ 18 → (q < 15 ∨ 15 + 2 ≤ q) → g14 q = h q := fun q u0 u1 u2 u3 => (og14 q (by omega)).trans (hFr q u0 u1 u2 u3)
        refine ab_aload_n C 1 rfl rfl dX4_keep_67 ?_
        refine ab_aload_n C 1 rfl rfl dX4_keep_68 ?_
        refine ab_g4 (v := .int ((sI S0 1 (((S0.1 1) + (1 : Int32)) - ((S0.1 1) + (1 : Int32)) / (24 : Int32) * (24 : Int32))).1 2)) C lf_X4_17 hB0.1 rfl dX4_keep_69 ?_
        refine ab_iconst (v := (1 : Int32)) C dX4_keep_72 (by decide) ?_
        refine ab_iadd C dX4_keep_73 ?_
        refine ab_bipush (v := (24 : Int32)) C dX4_keep_74 (by decide) ?_
        refine ab_mmin C (own := RX4) (a_mem 579 (by decide +kernel) (by decide +kernel)) (Nat.le_of_ble_eq_true rfl) ⟨by decide, by decide⟩ (Nat.le_of_ble_eq_true rfl) dX4_keep_76 ?_
        refine ab_p4 (ty := .int) C lf_X4_17 rfl (by decide +kernel) rfl rfl (Nat.le_of_ble_eq_true rfl) hB0.1 dX4_keep_79 (fun g15 eg15 og15 => ?_)
        have hB0 : X4_at g15 15 (dLV D0 ((S0.1 1).toNatClampNeg) (X2_become (D0.2.2.2.2.1 (S0.1 1).toNatClampNeg) S1)).1 (sI (sI S0 1 (((S0.1 1) + (1 : Int32)) - ((S0.1 1) + (1 : Int32)) / (24 : Int32) * (24 : Int32))) 2 (a_min (((sI S0 1 (((S0.1 1) + (1 : Int32)) - ((S0.1 1) + (1 : Int32)) / (24 : Int32) * (24 : Int32))).1 2) + (1 : Int32)) (24 : Int32))) := X4_p2 hB0 eg15 og15
        have hB1 : X2_at g15 7 S1 := X2_off hB1 (fun q i1 i2 => og15 q (by omega))
        have hBdq4 : X2_at g15 q4 (X2_become (D0.2.2.2.2.1 (S0.1 1).toNatClampNeg) S1) := X2_off hBdq4 (fun q i1 i2 => og15 q (by omega))
        have hD : xD g15 (dLV D0 ((S0.1 1).toNatClampNeg) (X2_become (D0.2.2.2.2.1 (S0.1 1).toNatClampNeg) S1)) := xD_off hD (fun q i1 => og15 q (by omega))
        have hFr : ∀ q, q < 66 → q ≠ 17 → q ≠ 18 → (q < 15 ∨ 15 + 2 ≤ q) → g15 q = h q := fun q u0 u1 u2 u3 => (og15 q (by omega)).trans (hFr q u0 u1 u2 u3)
        obtain rfl := Option.some.inj hF
        refine aV.widen (k' := 8) (n' := 50) (by omega) (by omega) ?_
        exact ab_vret C R0 dX4_keep_82 ⟨rfl, rfl, hB0, hD, hFr⟩
    · replace hF := (if_neg c2).symm.trans hF
      obtain rfl := Option.some.inj hF
      refine aV.widen (k' := 8) (n' := 50) (by omega) (by omega) ?_
      exact ab_vret C R0 dX4_keep_16 ⟨rfl, rfl, hB0, hD, hFr⟩
theorem dX4_bringBack_0 : decode cX4_bringBack 0 = .ok (.aload_n 0, 1) := by decide +kernel
theorem dX4_bringBack_1 : decode cX4_bringBack 1 = .ok (.getfield 21, 3) := by decide +kernel
theorem dX4_bringBack_4 : decode cX4_bringBack 4 = .ok (.bipush 24, 2) := by decide +kernel
theorem dX4_bringBack_6 : decode cX4_bringBack 6 = .ok (.iadd, 1) := by decide +kernel
theorem dX4_bringBack_7 : decode cX4_bringBack 7 = .ok (.iconst 1, 1) := by decide +kernel
theorem dX4_bringBack_8 : decode cX4_bringBack 8 = .ok (.isub, 1) := by decide +kernel
theorem dX4_bringBack_9 : decode cX4_bringBack 9 = .ok (.bipush 24, 2) := by decide +kernel
theorem dX4_bringBack_11 : decode cX4_bringBack 11 = .ok (.irem, 1) := by decide +kernel
theorem dX4_bringBack_12 : decode cX4_bringBack 12 = .ok (.istore_n 2, 1) := by decide +kernel
theorem dX4_bringBack_13 : decode cX4_bringBack 13 = .ok (.aload_n 0, 1) := by decide +kernel
theorem dX4_bringBack_14 : decode cX4_bringBack 14 = .ok (.getfield 17, 3) := by decide +kernel
theorem dX4_bringBack_17 : decode cX4_bringBack 17 = .ok (.ifCond .le 7, 3) := by decide +kernel
theorem dX4_bringBack_20 : decode cX4_bringBack 20 = .ok (.iload_n 2, 1) := by decide +kernel
theorem dX4_bringBack_21 : decode cX4_bringBack 21 = .ok (.ifCond .ge 5, 3) := by decide +kernel
theorem dX4_bringBack_24 : decode cX4_bringBack 24 = .ok (.iconst 0, 1) := by decide +kernel
theorem dX4_bringBack_25 : decode cX4_bringBack 25 = .ok (.ireturn, 1) := by decide +kernel
theorem dX4_bringBack_26 : decode cX4_bringBack 26 = .ok (.aload_n 0, 1) := by decide +kernel
theorem dX4_bringBack_27 : decode cX4_bringBack 27 = .ok (.getfield 11, 3) := by decide +kernel
theorem dX4_bringBack_30 : decode cX4_bringBack 30 = .ok (.iload_n 2, 1) := by decide +kernel
theorem dX4_bringBack_31 : decode cX4_bringBack 31 = .ok (.aaload, 1) := by decide +kernel
theorem dX4_bringBack_32 : decode cX4_bringBack 32 = .ok (.astore_n 3, 1) := by decide +kernel
theorem dX4_bringBack_33 : decode cX4_bringBack 33 = .ok (.aload_n 3, 1) := by decide +kernel
theorem dX4_bringBack_34 : decode cX4_bringBack 34 = .ok (.ifnonnull 5, 3) := by decide +kernel
theorem dX4_bringBack_37 : decode cX4_bringBack 37 = .ok (.iconst 0, 1) := by decide +kernel
theorem dX4_bringBack_38 : decode cX4_bringBack 38 = .ok (.ireturn, 1) := by decide +kernel
theorem dX4_bringBack_39 : decode cX4_bringBack 39 = .ok (.aload_n 1, 1) := by decide +kernel
theorem dX4_bringBack_40 : decode cX4_bringBack 40 = .ok (.aload_n 3, 1) := by decide +kernel
theorem dX4_bringBack_41 : decode cX4_bringBack 41 = .ok (.invokevirtual 25, 3) := by decide +kernel
theorem dX4_bringBack_44 : decode cX4_bringBack 44 = .ok (.aload_n 0, 1) := by decide +kernel
theorem dX4_bringBack_45 : decode cX4_bringBack 45 = .ok (.iload_n 2, 1) := by decide +kernel
theorem dX4_bringBack_46 : decode cX4_bringBack 46 = .ok (.putfield 21, 3) := by decide +kernel
theorem dX4_bringBack_49 : decode cX4_bringBack 49 = .ok (.aload_n 0, 1) := by decide +kernel
theorem dX4_bringBack_50 : decode cX4_bringBack 50 = .ok (.dup, 1) := by decide +kernel
theorem dX4_bringBack_51 : decode cX4_bringBack 51 = .ok (.getfield 17, 3) := by decide +kernel
theorem dX4_bringBack_54 : decode cX4_bringBack 54 = .ok (.iconst 1, 1) := by decide +kernel
theorem dX4_bringBack_55 : decode cX4_bringBack 55 = .ok (.isub, 1) := by decide +kernel
theorem dX4_bringBack_56 : decode cX4_bringBack 56 = .ok (.putfield 17, 3) := by decide +kernel
theorem dX4_bringBack_59 : decode cX4_bringBack 59 = .ok (.iconst 1, 1) := by decide +kernel
theorem dX4_bringBack_60 : decode cX4_bringBack 60 = .ok (.ireturn, 1) := by decide +kernel
def X4_bringBack (D0 : DynT) (S0 : Rec) (S1 : Rec) : Option (Int32 × Rec × Rec) :=
  aLet ((((S0.1 1) + (24 : Int32)) - (1 : Int32)) - (((S0.1 1) + (24 : Int32)) - (1 : Int32)) / (24 : Int32) * (24 : Int32)) fun v1 =>
  if (S0.1 2) ≤ 0 then
    some ((0 : Int32), S0, S1)
  else
    if 0 ≤ v1 then
      (rdQ D0.1 24 v1).bind fun o4 =>
      aQs o4
        (some ((0 : Int32), S0, S1))
        fun q5 =>
        some ((1 : Int32), (sI (sI S0 1 v1) 2 (((sI S0 1 v1).1 2) - (1 : Int32))), (X2_become S1 (D0.2.2.2.2.1 v1.toNatClampNeg)))
    else
      some ((0 : Int32), S0, S1)
set_option maxRecDepth 100000 in
set_option maxHeartbeats 4000000 in
theorem X4_bringBack_ok (l : Launch) {h : aH} {D0 : DynT} {S0 : Rec} {S1 : Rec} (hB0 : X4_at h 15 D0.1 S0) (hB1 : X2_at h 7 S1) (hD : xD h D0) {r : Int32 × Rec × Rec} (hF : X4_bringBack D0 S0 S1 = some r) : aOk l 2 0 0 yX4_bringBack cX4_bringBack 4 (some .boolean) [.ref 15, .ref 7] h D0.2.2.2.2.2 (fun v1 h1 nx1 => v1 = some (.int r.1) ∧ nx1 = D0.2.2.2.2.2 ∧ X4_at h1 15 D0.1 r.2.1 ∧ X2_at h1 7 r.2.2 ∧ xD h1 D0 ∧ (∀ q, q < 66 → q ≠ 17 → q ≠ 18 → (q < 15 ∨ 15 + 2 ≤ q) → (q < 7 ∨ 7 + 8 ≤ q) → h1 q = h q)) := by
  refine aOk.of (by decide +kernel) (Nat.le_of_ble_eq_true rfl) (fun X G hX C R0 _ => ?_)
  subst hX
  show aV X G 4 0 [(0, .ref 15), (1, .ref 7)] [] h (D0.2.2.2.2.2) 0 0
  have hFr : ∀ q, q < 66 → q ≠ 17 → q ≠ 18 → (q < 15 ∨ 15 + 2 ≤ q) → (q < 7 ∨ 7 + 8 ≤ q) → h q = h q := fun _ _ _ _ _ _ => rfl
  rw [X4_bringBack] at hF
  refine ab_aload_n C 0 rfl rfl dX4_bringBack_0 ?_
  refine ab_g4 (v := .int (S0.1 1)) C lf_X4_21 hB0.1 rfl dX4_bringBack_1 ?_
  refine ab_bipush (v := (24 : Int32)) C dX4_bringBack_4 (by decide) ?_
  refine ab_iadd C dX4_bringBack_6 ?_
  refine ab_iconst (v := (1 : Int32)) C dX4_bringBack_7 (by decide) ?_
  refine ab_isub C dX4_bringBack_8 ?_
  refine ab_bipush (v := (24 : Int32)) C dX4_bringBack_9 (by decide) ?_
  refine ab_irem C (by decide) dX4_bringBack_11 ?_
  refine ab_topi (fun v1 qv1 => ?_)
  replace hF := aLet_e hF v1 qv1
  refine ab_istore_n (lv' := [(2, .int v1), (0, .ref 15), (1, .ref 7)]) C dX4_bringBack_12 rfl (by decide) rfl ?_
  refine ab_aload_n C 1 rfl rfl dX4_bringBack_13 ?_
  refine ab_g4 (v := .int (S0.1 2)) C lf_X4_17 hB0.1 rfl dX4_bringBack_14 ?_
  refine ab_if_le C 24 dX4_bringBack_17 (by decide) (fun c2 => ?_) (fun c2 => ?_)
  · replace hF := (if_pos c2).symm.trans hF
    refine ab_iconst (v := (0 : Int32)) C dX4_bringBack_24 (by decide) ?_
    obtain rfl := Option.some.inj hF
    exact ab_iret C R0 rfl dX4_bringBack_25 ⟨rfl, rfl, hB0, hB1, hD, hFr⟩
  · replace hF := (if_neg c2).symm.trans hF
    refine ab_iload_n C 0 rfl rfl dX4_bringBack_20 ?_
    refine ab_if_ge C 26 dX4_bringBack_21 (by decide) (fun c3 => ?_) (fun c3 => ?_)
    · replace hF := (if_pos c3).symm.trans hF
      refine ab_aload_n C 1 rfl rfl dX4_bringBack_26 ?_
      refine ab_g4 (v := .ref (15 + 1)) C lf_X4_11 hB0.1 rfl dX4_bringBack_27 ?_
      refine ab_iload_n C 0 rfl rfl dX4_bringBack_30 ?_
      obtain ⟨o4, hxo4, hF⟩ := Option.bind_eq_some_iff.mp hF
      obtain ⟨hio4, hvo4⟩ := rdQ_s hxo4
      refine ab_aaload3 C (X4_r0 hB0) hio4 dX4_bringBack_31 ?_
      rw [hvo4]
      rcases o4 with _ | q5
      · replace hF := aQs_n hF
        show aV X G 4 32 [(2, .int v1), (0, .ref 15), (1, .ref 7)] [.null] h (D0.2.2.2.2.2) 0 0
        refine ab_astore_nN (lv' := [(3, .null), (2, .int v1), (0, .ref 15), (1, .ref 7)]) C dX4_bringBack_32 rfl (by decide) rfl ?_
        refine ab_aload_nN C 0 rfl rfl dX4_bringBack_33 ?_
        refine ab_ifnonnullN C dX4_bringBack_34 ?_
        refine ab_iconst (v := (0 : Int32)) C dX4_bringBack_37 (by decide) ?_
        obtain rfl := Option.some.inj hF
        exact ab_iret C R0 rfl dX4_bringBack_38 ⟨rfl, rfl, hB0, hB1, hD, hFr⟩
      · replace hF := aQs_s hF
        show aV X G 4 32 [(2, .int v1), (0, .ref 15), (1, .ref 7)] [.ref q5] h (D0.2.2.2.2.2) 0 0
        have hdq5k : v1.toNatClampNeg < 24 := vp_lt hio4
        have hdq5q : D0.1 v1.toNatClampNeg = some q5 := hvo4
        obtain ⟨hdq5l, hdq5u, hBdq5⟩ := xD_getP hD hdq5k hdq5q
        refine ab_astore_n (lv' := [(3, .ref q5), (2, .int v1), (0, .ref 15), (1, .ref 7)]) C dX4_bringBack_32 rfl (by decide) rfl ?_
        refine ab_aload_n C 0 rfl rfl dX4_bringBack_33 ?_
        refine ab_ifnonnull C 39 dX4_bringBack_34 (by decide) ?_
        refine ab_aload_n C 3 rfl rfl dX4_bringBack_39 ?_
        refine ab_aload_n C 0 rfl rfl dX4_bringBack_40 ?_
        refine ab_cVN (st := []) C lm_X4_25 (X2_become_ok (xl X) hB1 hBdq5 (by omega) (r := (X2_become S1 (D0.2.2.2.2.1 v1.toNatClampNeg))) rfl) [.ref q5] rfl hB1.1 rfl rfl rfl (by decide) ⟨by decide, by decide⟩ (Nat.le_of_ble_eq_true rfl) dX4_bringBack_41 (fun g6 pg6 => ?_)
        obtain ⟨k0, Og6⟩ := pg6
        have hB1 : X2_at g6 7 (X2_become S1 (D0.2.2.2.2.1 v1.toNatClampNeg)) := k0
        have hB0 : X4_at g6 15 D0.1 S0 := X4_off hB0 (fun q i1 i2 => Og6 q (by omega))
        have hBdq5 : X2_at g6 q5 (D0.2.2.2.2.1 v1.toNatClampNeg) := X2_off hBdq5 (fun q i1 i2 => Og6 q (by omega))
        have hD : xD g6 D0 := xD_off hD (fun q i1 => Og6 q (by omega))
        have hFr : ∀ q, q < 66 → q ≠ 17 → q ≠ 18 → (q < 15 ∨ 15 + 2 ≤ q) → (q < 7 ∨ 7 + 8 ≤ q) → g6 q = h q := fun q u0 u1 u2 u3 u4 => (Og6 q (by omega)).trans (hFr q u0 u1 u2 u3 u4)
        refine ab_aload_n C 2 rfl rfl dX4_bringBack_44 ?_
        refine ab_iload_n C 1 rfl rfl dX4_bringBack_45 ?_
        refine ab_p4 (ty := .int) C lf_X4_21 rfl (by decide +kernel) rfl rfl (Nat.le_of_ble_eq_true rfl) hB0.1 dX4_bringBack_46 (fun g7 eg7 og7 => ?_)
        have hB0 : X4_at g7 15 D0.1 (sI S0 1 v1) := X4_p1 hB0 eg7 og7
        have hB1 : X2_at g7 7 (X2_become S1 (D0.2.2.2.2.1 v1.toNatClampNeg)) := X2_off hB1 (fun q i1 i2 => og7 q (by omega))
        have hBdq5 : X2_at g7 q5 (D0.2.2.2.2.1 v1.toNatClampNeg) := X2_off hBdq5 (fun q i1 i2 => og7 q (by omega))
        have hD : xD g7 D0 := xD_off hD (fun q i1 => og7 q (by omega))
        have hFr : ∀ q, q < 66 → q ≠ 17 → q ≠ 18 → (q < 15 ∨ 15 + 2 ≤ q) → (q < 7 ∨ 7 + 8 ≤ q) → g7 q = h q := fun q u0 u1 u2 u3 u4 => (og7 q (by omega)).trans (hFr q u0 u1 u2 u3 u4)
        refine ab_aload_n C 2 rfl rfl dX4_bringBack_49 ?_
        refine ab_dup C rfl dX4_bringBack_50 ?_
        refine ab_g4 (v := .int ((sI S0 1 v1).1 2)) C lf_X4_17 hB0.1 rfl dX4_bringBack_51 ?_
        refine ab_iconst (v := (1 : Int32)) C dX4_bringBack_54 (by decide) ?_
        refine ab_isub C dX4_bringBack_55 ?_
        refine ab_p4 (ty := .int) C lf_X4_17 rfl (by decide +kernel) rfl rfl (Nat.le_of_ble_eq_true rfl) hB0.1 dX4_bringBack_56 (fun g8 eg8 og8 => ?_)
        have hB0 : X4_at g8 15 D0.1 (sI (sI S0 1 v1) 2 (((sI S0 1 v1).1 2) - (1 : Int32))) := X4_p2 hB0 eg8 og8
        have hB1 : X2_at g8 7 (X2_become S1 (D0.2.2.2.2.1 v1.toNatClampNeg)) := X2_off hB1 (fun q i1 i2 => og8 q (by omega))
        have hBdq5 : X2_at g8 q5 (D0.2.2.2.2.1 v1.toNatClampNeg) := X2_off hBdq5 (fun q i1 i2 => og8 q (by omega))
        have hD : xD g8 D0 := xD_off hD (fun q i1 => og8 q (by omega))
        have hFr : ∀ q, q < 66 → q ≠ 17 → q ≠ 18 → (q < 15 ∨ 15 + 2 ≤ q) → (q < 7 ∨ 7 + 8 ≤ q) → g8 q = h q := fun q u0 u1 u2 u3 u4 => (og8 q (by omega)).trans (hFr q u0 u1 u2 u3 u4)
        refine ab_iconst (v := (1 : Int32)) C dX4_bringBack_59 (by decide) ?_
        obtain rfl := Option.some.inj hF
        exact ab_iret C R0 rfl dX4_bringBack_60 ⟨rfl, rfl, hB0, hB1, hD, hFr⟩
    · replace hF := (if_neg c3).symm.trans hF
      refine ab_iconst (v := (0 : Int32)) C dX4_bringBack_24 (by decide) ?_
      obtain rfl := Option.some.inj hF
      exact ab_iret C R0 rfl dX4_bringBack_25 ⟨rfl, rfl, hB0, hB1, hD, hFr⟩
theorem dX8_sell_0 : decode cX8_sell 0 = .ok (.aload_n 0, 1) := by decide +kernel
theorem dX8_sell_1 : decode cX8_sell 1 = .ok (.getfield 19, 3) := by decide +kernel
theorem dX8_sell_4 : decode cX8_sell 4 = .ok (.iload_n 1, 1) := by decide +kernel
theorem dX8_sell_5 : decode cX8_sell 5 = .ok (.invokevirtual 138, 3) := by decide +kernel
theorem dX8_sell_8 : decode cX8_sell 8 = .ok (.ifCond .eq 20, 3) := by decide +kernel
theorem dX8_sell_11 : decode cX8_sell 11 = .ok (.iload_n 2, 1) := by decide +kernel
theorem dX8_sell_12 : decode cX8_sell 12 = .ok (.bipush (-4), 2) := by decide +kernel
theorem dX8_sell_14 : decode cX8_sell 14 = .ok (.if_icmp .eq 16, 3) := by decide +kernel
theorem dX8_sell_17 : decode cX8_sell 17 = .ok (.aload_n 0, 1) := by decide +kernel
theorem dX8_sell_18 : decode cX8_sell 18 = .ok (.getfield 19, 3) := by decide +kernel
theorem dX8_sell_21 : decode cX8_sell 21 = .ok (.iload_n 2, 1) := by decide +kernel
theorem dX8_sell_22 : decode cX8_sell 22 = .ok (.invokevirtual 107, 3) := by decide +kernel
theorem dX8_sell_25 : decode cX8_sell 25 = .ok (.ifCond .ne 5, 3) := by decide +kernel
theorem dX8_sell_28 : decode cX8_sell 28 = .ok (.iconst (-1), 1) := by decide +kernel
theorem dX8_sell_29 : decode cX8_sell 29 = .ok (.ireturn, 1) := by decide +kernel
theorem dX8_sell_30 : decode cX8_sell 30 = .ok (.aload_n 0, 1) := by decide +kernel
theorem dX8_sell_31 : decode cX8_sell 31 = .ok (.getfield 19, 3) := by decide +kernel
theorem dX8_sell_34 : decode cX8_sell 34 = .ok (.iload_n 1, 1) := by decide +kernel
theorem dX8_sell_35 : decode cX8_sell 35 = .ok (.invokevirtual 144, 3) := by decide +kernel
theorem dX8_sell_38 : decode cX8_sell 38 = .ok (.istore_n 3, 1) := by decide +kernel
theorem dX8_sell_39 : decode cX8_sell 39 = .ok (.iload_n 3, 1) := by decide +kernel
theorem dX8_sell_40 : decode cX8_sell 40 = .ok (.iload_n 2, 1) := by decide +kernel
theorem dX8_sell_41 : decode cX8_sell 41 = .ok (.if_icmp .ne 6, 3) := by decide +kernel
theorem dX8_sell_44 : decode cX8_sell 44 = .ok (.bipush (-2), 2) := by decide +kernel
theorem dX8_sell_46 : decode cX8_sell 46 = .ok (.ireturn, 1) := by decide +kernel
theorem dX8_sell_47 : decode cX8_sell 47 = .ok (.aload_n 0, 1) := by decide +kernel
theorem dX8_sell_48 : decode cX8_sell 48 = .ok (.getfield 26, 3) := by decide +kernel
theorem dX8_sell_51 : decode cX8_sell 51 = .ok (.aload_n 0, 1) := by decide +kernel
theorem dX8_sell_52 : decode cX8_sell 52 = .ok (.getfield 19, 3) := by decide +kernel
theorem dX8_sell_55 : decode cX8_sell 55 = .ok (.invokevirtual 163, 3) := by decide +kernel
theorem dX8_sell_58 : decode cX8_sell 58 = .ok (.aload_n 0, 1) := by decide +kernel
theorem dX8_sell_59 : decode cX8_sell 59 = .ok (.getfield 19, 3) := by decide +kernel
theorem dX8_sell_62 : decode cX8_sell 62 = .ok (.lconst 1, 1) := by decide +kernel
theorem dX8_sell_63 : decode cX8_sell 63 = .ok (.iload_n 1, 1) := by decide +kernel
theorem dX8_sell_64 : decode cX8_sell 64 = .ok (.lshl, 1) := by decide +kernel
theorem dX8_sell_65 : decode cX8_sell 65 = .ok (.iload_n 2, 1) := by decide +kernel
theorem dX8_sell_66 : decode cX8_sell 66 = .ok (.bipush (-4), 2) := by decide +kernel
theorem dX8_sell_68 : decode cX8_sell 68 = .ok (.if_icmp .ne 8, 3) := by decide +kernel
theorem dX8_sell_71 : decode cX8_sell 71 = .ok (.bipush 6, 2) := by decide +kernel
theorem dX8_sell_73 : decode cX8_sell 73 = .ok (.goto 4, 3) := by decide +kernel
theorem dX8_sell_76 : decode cX8_sell 76 = .ok (.iload_n 2, 1) := by decide +kernel
theorem dX8_sell_77 : decode cX8_sell 77 = .ok (.invokevirtual 166, 3) := by decide +kernel
theorem dX8_sell_80 : decode cX8_sell 80 = .ok (.iload_n 3, 1) := by decide +kernel
theorem dX8_sell_81 : decode cX8_sell 81 = .ok (.ireturn, 1) := by decide +kernel
def X8_sell (D0 : DynT) (S_now : Rec) (S_past : Rec) (x1 : Int32) (x2 : Int32) : Option (Int32 × Rec × Rec × DynT) :=
  (X2_hasCell S_now x1).bind fun v1 =>
  if v1 = 0 then
    some ((-1 : Int32), S_now, S_past, D0)
  else
    if x2 = (-4 : Int32) then
      (X2_holderAt S_now x1).bind fun v4 =>
      if v4 = x2 then
        some ((-2 : Int32), S_now, S_past, D0)
      else
        (X4_keep D0 S_past S_now).bind fun v7 =>
        if x2 = (-4 : Int32) then
          (X2_hand S_now ((1 : Int64) <<< (x1.toInt64 &&& 63)) (6 : Int32)).bind fun v11 =>
          some (v4, v11, v7.1, v7.2)
        else
          (X2_hand S_now ((1 : Int64) <<< (x1.toInt64 &&& 63)) x2).bind fun v9 =>
          some (v4, v9, v7.1, v7.2)
    else
      if (X2_hasHolder S_now x2) = 0 then
        some ((-1 : Int32), S_now, S_past, D0)
      else
        (X2_holderAt S_now x1).bind fun v14 =>
        if v14 = x2 then
          some ((-2 : Int32), S_now, S_past, D0)
        else
          (X4_keep D0 S_past S_now).bind fun v17 =>
          if x2 = (-4 : Int32) then
            (X2_hand S_now ((1 : Int64) <<< (x1.toInt64 &&& 63)) (6 : Int32)).bind fun v21 =>
            some (v14, v21, v17.1, v17.2)
          else
            (X2_hand S_now ((1 : Int64) <<< (x1.toInt64 &&& 63)) x2).bind fun v19 =>
            some (v14, v19, v17.1, v17.2)
set_option maxRecDepth 100000 in
set_option maxHeartbeats 4000000 in
theorem X8_sell_ok (l : Launch) {h : aH} {D0 : DynT} {S_now : Rec} {S_past : Rec} {x1 : Int32} {x2 : Int32} (hBxo : X8_at h) (hBnow : X2_at h 7 S_now) (hBpast : X4_at h 15 D0.1 S_past) (hD : xD h D0) {r : Int32 × Rec × Rec × DynT} (hF : X8_sell D0 S_now S_past x1 x2 = some r) : aOk l 3 8 50 yX8_sell cX8_sell 4 (some .int) [.ref 4, .int x1, .int x2] h D0.2.2.2.2.2 (fun v1 h1 nx1 => v1 = some (.int r.1) ∧ nx1 = r.2.2.2.2.2.2.2.2 ∧ X2_at h1 7 r.2.1 ∧ X4_at h1 15 r.2.2.2.1 r.2.2.1 ∧ xD h1 r.2.2.2 ∧ (∀ q, q < 66 → q ≠ 17 → q ≠ 18 → (q < 7 ∨ 7 + 8 ≤ q) → (q < 15 ∨ 15 + 2 ≤ q) → h1 q = h q)) := by
  refine aOk.of (by decide +kernel) (Nat.le_of_ble_eq_true rfl) (fun X G hX C R0 _ => ?_)
  subst hX
  show aV X G 4 0 [(0, .ref 4), (1, .int x1), (2, .int x2)] [] h (D0.2.2.2.2.2) 0 0
  have hFr : ∀ q, q < 66 → q ≠ 17 → q ≠ 18 → (q < 7 ∨ 7 + 8 ≤ q) → (q < 15 ∨ 15 + 2 ≤ q) → h q = h q := fun _ _ _ _ _ _ => rfl
  rw [X8_sell] at hF
  refine ab_aload_n C 0 rfl rfl dX8_sell_0 ?_
  refine ab_g8 (v := .ref 7) C lf_X8_19 hBxo rfl dX8_sell_1 ?_
  refine ab_iload_n C 1 rfl rfl dX8_sell_4 ?_
  obtain ⟨v1, hxv1, hF⟩ := Option.bind_eq_some_iff.mp hF
  refine ab_cVR (v := .int v1) (st := []) C lm_X8_138 (X2_hasCell_ok (xl X) hBnow (r := v1) hxv1) [.int x1] rfl hBnow.1 rfl rfl rfl (by decide) ⟨by decide, by decide⟩ (Nat.le_of_ble_eq_true rfl) dX8_sell_5 ?_
  refine ab_if_eq C 28 dX8_sell_8 (by decide) (fun c2 => ?_) (fun c2 => ?_)
  · replace hF := (if_pos c2).symm.trans hF
    refine ab_iconst (v := (-1 : Int32)) C dX8_sell_28 (by decide) ?_
    obtain rfl := Option.some.inj hF
    refine aV.widen (k' := 8) (n' := 50) (by omega) (by omega) ?_
    exact ab_iret C R0 rfl dX8_sell_29 ⟨rfl, rfl, hBnow, hBpast, hD, hFr⟩
  · replace hF := (if_neg c2).symm.trans hF
    refine ab_iload_n C 2 rfl rfl dX8_sell_11 ?_
    refine ab_bipush (v := (-4 : Int32)) C dX8_sell_12 (by decide) ?_
    refine ab_icmp_eq C 30 dX8_sell_14 (by decide) (fun c3 => ?_) (fun c3 => ?_)
    · replace hF := (if_pos c3).symm.trans hF
      refine ab_aload_n C 0 rfl rfl dX8_sell_30 ?_
      refine ab_g8 (v := .ref 7) C lf_X8_19 hBxo rfl dX8_sell_31 ?_
      refine ab_iload_n C 1 rfl rfl dX8_sell_34 ?_
      obtain ⟨v4, hxv4, hF⟩ := Option.bind_eq_some_iff.mp hF
      refine ab_cVR (v := .int v4) (st := []) C lm_X8_144 (X2_holderAt_ok (xl X) hBnow (r := v4) hxv4) [.int x1] rfl hBnow.1 rfl rfl rfl (by decide) ⟨by decide, by decide⟩ (Nat.le_of_ble_eq_true rfl) dX8_sell_35 ?_
      refine ab_istore_n (lv' := [(3, .int v4), (0, .ref 4), (1, .int x1), (2, .int x2)]) C dX8_sell_38 rfl (by decide) rfl ?_
      refine ab_iload_n C 0 rfl rfl dX8_sell_39 ?_
      refine ab_iload_n C 3 rfl rfl dX8_sell_40 ?_
      refine ab_icmp_ne C 47 dX8_sell_41 (by decide) (fun c5 => ?_) (fun c5 => ?_)
      · replace hF := (if_neg c5).symm.trans hF
        refine ab_aload_n C 1 rfl rfl dX8_sell_47 ?_
        refine ab_g8 (v := .ref 15) C lf_X8_26 hBxo rfl dX8_sell_48 ?_
        refine ab_aload_n C 1 rfl rfl dX8_sell_51 ?_
        refine ab_g8 (v := .ref 7) C lf_X8_19 hBxo rfl dX8_sell_52 ?_
        obtain ⟨v7, hxv7, hF⟩ := Option.bind_eq_some_iff.mp hF
        refine ab_cV (st := []) C lm_X8_163 (X4_keep_ok (xl X) hBpast hBnow hD (r := v7) hxv7) [.ref 7] rfl hBpast.1 rfl rfl rfl (by decide) ⟨by decide, by decide⟩ (Nat.le_of_ble_eq_true rfl) dX8_sell_55 (fun v g6 nxg6 pg6 => ?_)
        obtain ⟨rfl, rfl, hBpast, hD, Og6⟩ := pg6
        have hBxo : X8_at g6 := (Og6 4 (by omega) (by omega) (by omega) (by omega)).trans hBxo
        have hBnow : X2_at g6 7 S_now := X2_off hBnow (fun q i1 i2 => Og6 q (by omega) (by omega) (by omega) (by omega))
        have hFr : ∀ q, q < 66 → q ≠ 17 → q ≠ 18 → (q < 7 ∨ 7 + 8 ≤ q) → (q < 15 ∨ 15 + 2 ≤ q) → g6 q = h q := fun q u0 u1 u2 u3 u4 => (Og6 q (by omega) (by omega) (by omega) (by omega)).trans (hFr q u0 u1 u2 u3 u4)
        show aV X G 4 58 [(3, .int v4), (0, .ref 4), (1, .int x1), (2, .int x2)] [] g6 (v7.2.2.2.2.2.2) 8 50
        refine ab_aload_n C 1 rfl rfl dX8_sell_58 ?_
        refine ab_g8 (v := .ref 7) C lf_X8_19 hBxo rfl dX8_sell_59 ?_
        refine ab_lconst (v := (1 : Int64)) C dX8_sell_62 (by decide) ?_
        refine ab_iload_n C 2 rfl rfl dX8_sell_63 ?_
        refine ab_lshl C dX8_sell_64 ?_
        refine ab_iload_n C 3 rfl rfl dX8_sell_65 ?_
        refine ab_bipush (v := (-4 : Int32)) C dX8_sell_66 (by decide) ?_
        refine ab_icmp_ne C 76 dX8_sell_68 (by decide) (fun c8 => ?_) (fun c8 => ?_)
        · replace hF := (if_neg c8).symm.trans hF
          refine ab_iload_n C 3 rfl rfl dX8_sell_76 ?_
          obtain ⟨v9, hxv9, hF⟩ := Option.bind_eq_some_iff.mp hF
          refine ab_cVN (st := []) C lm_X8_166 (X2_hand_ok (xl X) hBnow (r := v9) hxv9) [.long ((1 : Int64) <<< (x1.toInt64 &&& 63)), .int x2] rfl hBnow.1 rfl rfl rfl (by decide) ⟨by decide, by decide⟩ (Nat.le_of_ble_eq_true rfl) dX8_sell_77 (fun g10 pg10 => ?_)
          obtain ⟨k0, Og10⟩ := pg10
          have hBnow : X2_at g10 7 v9 := k0
          have hBxo : X8_at g10 := (Og10 4 (by omega)).trans hBxo
          have hBpast : X4_at g10 15 v7.2.1 v7.1 := X4_off hBpast (fun q i1 i2 => Og10 q (by omega))
          have hD : xD g10 v7.2 := xD_off hD (fun q i1 => Og10 q (by omega))
          have hFr : ∀ q, q < 66 → q ≠ 17 → q ≠ 18 → (q < 7 ∨ 7 + 8 ≤ q) → (q < 15 ∨ 15 + 2 ≤ q) → g10 q = h q := fun q u0 u1 u2 u3 u4 => (Og10 q (by omega)).trans (hFr q u0 u1 u2 u3 u4)
          refine ab_iload_n C 0 rfl rfl dX8_sell_80 ?_
          obtain rfl := Option.some.inj hF
          refine aV.widen (k' := 8) (n' := 50) (by omega) (by omega) ?_
          exact ab_iret C R0 rfl dX8_sell_81 ⟨rfl, rfl, hBnow, hBpast, hD, hFr⟩
        · replace hF := (if_pos c8).symm.trans hF
          refine ab_bipush (v := (6 : Int32)) C dX8_sell_71 (by decide) ?_
          refine ab_goto C 77 dX8_sell_73 (by decide) ?_
          obtain ⟨v11, hxv11, hF⟩ := Option.bind_eq_some_iff.mp hF
          refine ab_cVN (st := []) C lm_X8_166 (X2_hand_ok (xl X) hBnow (r := v11) hxv11) [.long ((1 : Int64) <<< (x1.toInt64 &&& 63)), .int (6 : Int32)] rfl hBnow.1 rfl rfl rfl (by decide) ⟨by decide, by decide⟩ (Nat.le_of_ble_eq_true rfl) dX8_sell_77 (fun g12 pg12 => ?_)
          obtain ⟨k0, Og12⟩ := pg12
          have hBnow : X2_at g12 7 v11 := k0
          have hBxo : X8_at g12 := (Og12 4 (by omega)).trans hBxo
          have hBpast : X4_at g12 15 v7.2.1 v7.1 := X4_off hBpast (fun q i1 i2 => Og12 q (by omega))
          have hD : xD g12 v7.2 := xD_off hD (fun q i1 => Og12 q (by omega))
          have hFr : ∀ q, q < 66 → q ≠ 17 → q ≠ 18 → (q < 7 ∨ 7 + 8 ≤ q) → (q < 15 ∨ 15 + 2 ≤ q) → g12 q = h q := fun q u0 u1 u2 u3 u4 => (Og12 q (by omega)).trans (hFr q u0 u1 u2 u3 u4)
          refine ab_iload_n C 0 rfl rfl dX8_sell_80 ?_
          obtain rfl := Option.some.inj hF
          refine aV.widen (k' := 8) (n' := 50) (by omega) (by omega) ?_
          exact ab_iret C R0 rfl dX8_sell_81 ⟨rfl, rfl, hBnow, hBpast, hD, hFr⟩
      · replace hF := (if_pos c5).symm.trans hF
        refine ab_bipush (v := (-2 : Int32)) C dX8_sell_44 (by decide) ?_
        obtain rfl := Option.some.inj hF
        refine aV.widen (k' := 8) (n' := 50) (by omega) (by omega) ?_
        exact ab_iret C R0 rfl dX8_sell_46 ⟨rfl, rfl, hBnow, hBpast, hD, hFr⟩
    · replace hF := (if_neg c3).symm.trans hF
      refine ab_aload_n C 0 rfl rfl dX8_sell_17 ?_
      refine ab_g8 (v := .ref 7) C lf_X8_19 hBxo rfl dX8_sell_18 ?_
      refine ab_iload_n C 2 rfl rfl dX8_sell_21 ?_
      refine ab_cVR (v := .int (X2_hasHolder S_now x2)) (st := []) C lm_X8_107 (X2_hasHolder_ok (xl X) hBnow (r := (X2_hasHolder S_now x2)) rfl) [.int x2] rfl hBnow.1 rfl rfl rfl (by decide) ⟨by decide, by decide⟩ (Nat.le_of_ble_eq_true rfl) dX8_sell_22 ?_
      refine ab_if_ne C 30 dX8_sell_25 (by decide) (fun c13 => ?_) (fun c13 => ?_)
      · replace hF := (if_neg c13).symm.trans hF
        refine ab_aload_n C 0 rfl rfl dX8_sell_30 ?_
        refine ab_g8 (v := .ref 7) C lf_X8_19 hBxo rfl dX8_sell_31 ?_
        refine ab_iload_n C 1 rfl rfl dX8_sell_34 ?_
        obtain ⟨v14, hxv14, hF⟩ := Option.bind_eq_some_iff.mp hF
        refine ab_cVR (v := .int v14) (st := []) C lm_X8_144 (X2_holderAt_ok (xl X) hBnow (r := v14) hxv14) [.int x1] rfl hBnow.1 rfl rfl rfl (by decide) ⟨by decide, by decide⟩ (Nat.le_of_ble_eq_true rfl) dX8_sell_35 ?_
        refine ab_istore_n (lv' := [(3, .int v14), (0, .ref 4), (1, .int x1), (2, .int x2)]) C dX8_sell_38 rfl (by decide) rfl ?_
        refine ab_iload_n C 0 rfl rfl dX8_sell_39 ?_
        refine ab_iload_n C 3 rfl rfl dX8_sell_40 ?_
        refine ab_icmp_ne C 47 dX8_sell_41 (by decide) (fun c15 => ?_) (fun c15 => ?_)
        · replace hF := (if_neg c15).symm.trans hF
          refine ab_aload_n C 1 rfl rfl dX8_sell_47 ?_
          refine ab_g8 (v := .ref 15) C lf_X8_26 hBxo rfl dX8_sell_48 ?_
          refine ab_aload_n C 1 rfl rfl dX8_sell_51 ?_
          refine ab_g8 (v := .ref 7) C lf_X8_19 hBxo rfl dX8_sell_52 ?_
          obtain ⟨v17, hxv17, hF⟩ := Option.bind_eq_some_iff.mp hF
          refine ab_cV (st := []) C lm_X8_163 (X4_keep_ok (xl X) hBpast hBnow hD (r := v17) hxv17) [.ref 7] rfl hBpast.1 rfl rfl rfl (by decide) ⟨by decide, by decide⟩ (Nat.le_of_ble_eq_true rfl) dX8_sell_55 (fun v g16 nxg16 pg16 => ?_)
          obtain ⟨rfl, rfl, hBpast, hD, Og16⟩ := pg16
          have hBxo : X8_at g16 := (Og16 4 (by omega) (by omega) (by omega) (by omega)).trans hBxo
          have hBnow : X2_at g16 7 S_now := X2_off hBnow (fun q i1 i2 => Og16 q (by omega) (by omega) (by omega) (by omega))
          have hFr : ∀ q, q < 66 → q ≠ 17 → q ≠ 18 → (q < 7 ∨ 7 + 8 ≤ q) → (q < 15 ∨ 15 + 2 ≤ q) → g16 q = h q := fun q u0 u1 u2 u3 u4 => (Og16 q (by omega) (by omega) (by omega) (by omega)).trans (hFr q u0 u1 u2 u3 u4)
          show aV X G 4 58 [(3, .int v14), (0, .ref 4), (1, .int x1), (2, .int x2)] [] g16 (v17.2.2.2.2.2.2) 8 50
          refine ab_aload_n C 1 rfl rfl dX8_sell_58 ?_
          refine ab_g8 (v := .ref 7) C lf_X8_19 hBxo rfl dX8_sell_59 ?_
          refine ab_lconst (v := (1 : Int64)) C dX8_sell_62 (by decide) ?_
          refine ab_iload_n C 2 rfl rfl dX8_sell_63 ?_
          refine ab_lshl C dX8_sell_64 ?_
          refine ab_iload_n C 3 rfl rfl dX8_sell_65 ?_
          refine ab_bipush (v := (-4 : Int32)) C dX8_sell_66 (by decide) ?_
          refine ab_icmp_ne C 76 dX8_sell_68 (by decide) (fun c18 => ?_) (fun c18 => ?_)
          · replace hF := (if_neg c18).symm.trans hF
            refine ab_iload_n C 3 rfl rfl dX8_sell_76 ?_
            obtain ⟨v19, hxv19, hF⟩ := Option.bind_eq_some_iff.mp hF
            refine ab_cVN (st := []) C lm_X8_166 (X2_hand_ok (xl X) hBnow (r := v19) hxv19) [.long ((1 : Int64) <<< (x1.toInt64 &&& 63)), .int x2] rfl hBnow.1 rfl rfl rfl (by decide) ⟨by decide, by decide⟩ (Nat.le_of_ble_eq_true rfl) dX8_sell_77 (fun g20 pg20 => ?_)
            obtain ⟨k0, Og20⟩ := pg20
            have hBnow : X2_at g20 7 v19 := k0
            have hBxo : X8_at g20 := (Og20 4 (by omega)).trans hBxo
            have hBpast : X4_at g20 15 v17.2.1 v17.1 := X4_off hBpast (fun q i1 i2 => Og20 q (by omega))
            have hD : xD g20 v17.2 := xD_off hD (fun q i1 => Og20 q (by omega))
            have hFr : ∀ q, q < 66 → q ≠ 17 → q ≠ 18 → (q < 7 ∨ 7 + 8 ≤ q) → (q < 15 ∨ 15 + 2 ≤ q) → g20 q = h q := fun q u0 u1 u2 u3 u4 => (Og20 q (by omega)).trans (hFr q u0 u1 u2 u3 u4)
            refine ab_iload_n C 0 rfl rfl dX8_sell_80 ?_
            obtain rfl := Option.some.inj hF
            refine aV.widen (k' := 8) (n' := 50) (by omega) (by omega) ?_
            exact ab_iret C R0 rfl dX8_sell_81 ⟨rfl, rfl, hBnow, hBpast, hD, hFr⟩
          · replace hF := (if_pos c18).symm.trans hF
            refine ab_bipush (v := (6 : Int32)) C dX8_sell_71 (by decide) ?_
            refine ab_goto C 77 dX8_sell_73 (by decide) ?_
            obtain ⟨v21, hxv21, hF⟩ := Option.bind_eq_some_iff.mp hF
            refine ab_cVN (st := []) C lm_X8_166 (X2_hand_ok (xl X) hBnow (r := v21) hxv21) [.long ((1 : Int64) <<< (x1.toInt64 &&& 63)), .int (6 : Int32)] rfl hBnow.1 rfl rfl rfl (by decide) ⟨by decide, by decide⟩ (Nat.le_of_ble_eq_true rfl) dX8_sell_77 (fun g22 pg22 => ?_)
            obtain ⟨k0, Og22⟩ := pg22
            have hBnow : X2_at g22 7 v21 := k0
            have hBxo : X8_at g22 := (Og22 4 (by omega)).trans hBxo
            have hBpast : X4_at g22 15 v17.2.1 v17.1 := X4_off hBpast (fun q i1 i2 => Og22 q (by omega))
            have hD : xD g22 v17.2 := xD_off hD (fun q i1 => Og22 q (by omega))
            have hFr : ∀ q, q < 66 → q ≠ 17 → q ≠ 18 → (q < 7 ∨ 7 + 8 ≤ q) → (q < 15 ∨ 15 + 2 ≤ q) → g22 q = h q := fun q u0 u1 u2 u3 u4 => (Og22 q (by omega)).trans (hFr q u0 u1 u2 u3 u4)
            refine ab_iload_n C 0 rfl rfl dX8_sell_80 ?_
            obtain rfl := Option.some.inj hF
            refine aV.widen (k' := 8) (n' := 50) (by omega) (by omega) ?_
            exact ab_iret C R0 rfl dX8_sell_81 ⟨rfl, rfl, hBnow, hBpast, hD, hFr⟩
        · replace hF := (if_pos c15).symm.trans hF
          refine ab_bipush (v := (-2 : Int32)) C dX8_sell_44 (by decide) ?_
          obtain rfl := Option.some.inj hF
          refine aV.widen (k' := 8) (n' := 50) (by omega) (by omega) ?_
          exact ab_iret C R0 rfl dX8_sell_46 ⟨rfl, rfl, hBnow, hBpast, hD, hFr⟩
      · replace hF := (if_pos c13).symm.trans hF
        refine ab_iconst (v := (-1 : Int32)) C dX8_sell_28 (by decide) ?_
        obtain rfl := Option.some.inj hF
        refine aV.widen (k' := 8) (n' := 50) (by omega) (by omega) ?_
        exact ab_iret C R0 rfl dX8_sell_29 ⟨rfl, rfl, hBnow, hBpast, hD, hFr⟩
theorem dX8_plough_0 : decode cX8_plough 0 = .ok (.aload_n 0, 1) := by decide +kernel
theorem dX8_plough_1 : decode cX8_plough 1 = .ok (.getfield 19, 3) := by decide +kernel
theorem dX8_plough_4 : decode cX8_plough 4 = .ok (.iload_n 1, 1) := by decide +kernel
theorem dX8_plough_5 : decode cX8_plough 5 = .ok (.invokevirtual 138, 3) := by decide +kernel
theorem dX8_plough_8 : decode cX8_plough 8 = .ok (.ifCond .eq 12, 3) := by decide +kernel
theorem dX8_plough_11 : decode cX8_plough 11 = .ok (.iload_n 2, 1) := by decide +kernel
theorem dX8_plough_12 : decode cX8_plough 12 = .ok (.iconst 0, 1) := by decide +kernel
theorem dX8_plough_13 : decode cX8_plough 13 = .ok (.iconst 5, 1) := by decide +kernel
theorem dX8_plough_14 : decode cX8_plough 14 = .ok (.invokestatic 74, 3) := by decide +kernel
theorem dX8_plough_17 : decode cX8_plough 17 = .ok (.ifCond .ne 5, 3) := by decide +kernel
theorem dX8_plough_20 : decode cX8_plough 20 = .ok (.iconst (-1), 1) := by decide +kernel
theorem dX8_plough_21 : decode cX8_plough 21 = .ok (.ireturn, 1) := by decide +kernel
theorem dX8_plough_22 : decode cX8_plough 22 = .ok (.aload_n 0, 1) := by decide +kernel
theorem dX8_plough_23 : decode cX8_plough 23 = .ok (.getfield 19, 3) := by decide +kernel
theorem dX8_plough_26 : decode cX8_plough 26 = .ok (.iload_n 1, 1) := by decide +kernel
theorem dX8_plough_27 : decode cX8_plough 27 = .ok (.invokevirtual 141, 3) := by decide +kernel
theorem dX8_plough_30 : decode cX8_plough 30 = .ok (.istore_n 3, 1) := by decide +kernel
theorem dX8_plough_31 : decode cX8_plough 31 = .ok (.iload_n 3, 1) := by decide +kernel
theorem dX8_plough_32 : decode cX8_plough 32 = .ok (.iload_n 2, 1) := by decide +kernel
theorem dX8_plough_33 : decode cX8_plough 33 = .ok (.if_icmp .ne 6, 3) := by decide +kernel
theorem dX8_plough_36 : decode cX8_plough 36 = .ok (.bipush (-2), 2) := by decide +kernel
theorem dX8_plough_38 : decode cX8_plough 38 = .ok (.ireturn, 1) := by decide +kernel
theorem dX8_plough_39 : decode cX8_plough 39 = .ok (.aload_n 0, 1) := by decide +kernel
theorem dX8_plough_40 : decode cX8_plough 40 = .ok (.getfield 26, 3) := by decide +kernel
theorem dX8_plough_43 : decode cX8_plough 43 = .ok (.aload_n 0, 1) := by decide +kernel
theorem dX8_plough_44 : decode cX8_plough 44 = .ok (.getfield 19, 3) := by decide +kernel
theorem dX8_plough_47 : decode cX8_plough 47 = .ok (.invokevirtual 163, 3) := by decide +kernel
theorem dX8_plough_50 : decode cX8_plough 50 = .ok (.aload_n 0, 1) := by decide +kernel
theorem dX8_plough_51 : decode cX8_plough 51 = .ok (.getfield 19, 3) := by decide +kernel
theorem dX8_plough_54 : decode cX8_plough 54 = .ok (.lconst 1, 1) := by decide +kernel
theorem dX8_plough_55 : decode cX8_plough 55 = .ok (.iload_n 1, 1) := by decide +kernel
theorem dX8_plough_56 : decode cX8_plough 56 = .ok (.lshl, 1) := by decide +kernel
theorem dX8_plough_57 : decode cX8_plough 57 = .ok (.iload_n 2, 1) := by decide +kernel
theorem dX8_plough_58 : decode cX8_plough 58 = .ok (.invokevirtual 170, 3) := by decide +kernel
theorem dX8_plough_61 : decode cX8_plough 61 = .ok (.iload_n 3, 1) := by decide +kernel
theorem dX8_plough_62 : decode cX8_plough 62 = .ok (.ireturn, 1) := by decide +kernel
def X8_plough (D0 : DynT) (S_now : Rec) (S_past : Rec) (x1 : Int32) (x2 : Int32) : Option (Int32 × Rec × Rec × DynT) :=
  (X2_hasCell S_now x1).bind fun v1 =>
  if v1 = 0 then
    some ((-1 : Int32), S_now, S_past, D0)
  else
    if (X8_within x2 (0 : Int32) (5 : Int32)) = 0 then
      some ((-1 : Int32), S_now, S_past, D0)
    else
      (X2_soundAt S_now x1).bind fun v4 =>
      if v4 = x2 then
        some ((-2 : Int32), S_now, S_past, D0)
      else
        (X4_keep D0 S_past S_now).bind fun v7 =>
        (X2_tune S_now ((1 : Int64) <<< (x1.toInt64 &&& 63)) x2).bind fun v8 =>
        some (v4, v8, v7.1, v7.2)
set_option maxRecDepth 100000 in
set_option maxHeartbeats 4000000 in
theorem X8_plough_ok (l : Launch) {h : aH} {D0 : DynT} {S_now : Rec} {S_past : Rec} {x1 : Int32} {x2 : Int32} (hBxo : X8_at h) (hBnow : X2_at h 7 S_now) (hBpast : X4_at h 15 D0.1 S_past) (hD : xD h D0) {r : Int32 × Rec × Rec × DynT} (hF : X8_plough D0 S_now S_past x1 x2 = some r) : aOk l 3 8 50 yX8_plough cX8_plough 4 (some .int) [.ref 4, .int x1, .int x2] h D0.2.2.2.2.2 (fun v1 h1 nx1 => v1 = some (.int r.1) ∧ nx1 = r.2.2.2.2.2.2.2.2 ∧ X2_at h1 7 r.2.1 ∧ X4_at h1 15 r.2.2.2.1 r.2.2.1 ∧ xD h1 r.2.2.2 ∧ (∀ q, q < 66 → q ≠ 17 → q ≠ 18 → (q < 7 ∨ 7 + 8 ≤ q) → (q < 15 ∨ 15 + 2 ≤ q) → h1 q = h q)) := by
  refine aOk.of (by decide +kernel) (Nat.le_of_ble_eq_true rfl) (fun X G hX C R0 _ => ?_)
  subst hX
  show aV X G 4 0 [(0, .ref 4), (1, .int x1), (2, .int x2)] [] h (D0.2.2.2.2.2) 0 0
  have hFr : ∀ q, q < 66 → q ≠ 17 → q ≠ 18 → (q < 7 ∨ 7 + 8 ≤ q) → (q < 15 ∨ 15 + 2 ≤ q) → h q = h q := fun _ _ _ _ _ _ => rfl
  rw [X8_plough] at hF
  refine ab_aload_n C 0 rfl rfl dX8_plough_0 ?_
  refine ab_g8 (v := .ref 7) C lf_X8_19 hBxo rfl dX8_plough_1 ?_
  refine ab_iload_n C 1 rfl rfl dX8_plough_4 ?_
  obtain ⟨v1, hxv1, hF⟩ := Option.bind_eq_some_iff.mp hF
  refine ab_cVR (v := .int v1) (st := []) C lm_X8_138 (X2_hasCell_ok (xl X) hBnow (r := v1) hxv1) [.int x1] rfl hBnow.1 rfl rfl rfl (by decide) ⟨by decide, by decide⟩ (Nat.le_of_ble_eq_true rfl) dX8_plough_5 ?_
  refine ab_if_eq C 20 dX8_plough_8 (by decide) (fun c2 => ?_) (fun c2 => ?_)
  · replace hF := (if_pos c2).symm.trans hF
    refine ab_iconst (v := (-1 : Int32)) C dX8_plough_20 (by decide) ?_
    obtain rfl := Option.some.inj hF
    refine aV.widen (k' := 8) (n' := 50) (by omega) (by omega) ?_
    exact ab_iret C R0 rfl dX8_plough_21 ⟨rfl, rfl, hBnow, hBpast, hD, hFr⟩
  · replace hF := (if_neg c2).symm.trans hF
    refine ab_iload_n C 2 rfl rfl dX8_plough_11 ?_
    refine ab_iconst (v := (0 : Int32)) C dX8_plough_12 (by decide) ?_
    refine ab_iconst (v := (5 : Int32)) C dX8_plough_13 (by decide) ?_
    refine ab_cSR (v := .int (X8_within x2 (0 : Int32) (5 : Int32))) (st := []) C lm_X8_74 (X8_within_ok (xl X) (r := (X8_within x2 (0 : Int32) (5 : Int32))) rfl) rfl rfl (by decide) ⟨by decide, by decide⟩ (Nat.le_of_ble_eq_true rfl) dX8_plough_14 ?_
    refine ab_if_ne C 22 dX8_plough_17 (by decide) (fun c3 => ?_) (fun c3 => ?_)
    · replace hF := (if_neg c3).symm.trans hF
      refine ab_aload_n C 0 rfl rfl dX8_plough_22 ?_
      refine ab_g8 (v := .ref 7) C lf_X8_19 hBxo rfl dX8_plough_23 ?_
      refine ab_iload_n C 1 rfl rfl dX8_plough_26 ?_
      obtain ⟨v4, hxv4, hF⟩ := Option.bind_eq_some_iff.mp hF
      refine ab_cVR (v := .int v4) (st := []) C lm_X8_141 (X2_soundAt_ok (xl X) hBnow (r := v4) hxv4) [.int x1] rfl hBnow.1 rfl rfl rfl (by decide) ⟨by decide, by decide⟩ (Nat.le_of_ble_eq_true rfl) dX8_plough_27 ?_
      refine ab_istore_n (lv' := [(3, .int v4), (0, .ref 4), (1, .int x1), (2, .int x2)]) C dX8_plough_30 rfl (by decide) rfl ?_
      refine ab_iload_n C 0 rfl rfl dX8_plough_31 ?_
      refine ab_iload_n C 3 rfl rfl dX8_plough_32 ?_
      refine ab_icmp_ne C 39 dX8_plough_33 (by decide) (fun c5 => ?_) (fun c5 => ?_)
      · replace hF := (if_neg c5).symm.trans hF
        refine ab_aload_n C 1 rfl rfl dX8_plough_39 ?_
        refine ab_g8 (v := .ref 15) C lf_X8_26 hBxo rfl dX8_plough_40 ?_
        refine ab_aload_n C 1 rfl rfl dX8_plough_43 ?_
        refine ab_g8 (v := .ref 7) C lf_X8_19 hBxo rfl dX8_plough_44 ?_
        obtain ⟨v7, hxv7, hF⟩ := Option.bind_eq_some_iff.mp hF
        refine ab_cV (st := []) C lm_X8_163 (X4_keep_ok (xl X) hBpast hBnow hD (r := v7) hxv7) [.ref 7] rfl hBpast.1 rfl rfl rfl (by decide) ⟨by decide, by decide⟩ (Nat.le_of_ble_eq_true rfl) dX8_plough_47 (fun v g6 nxg6 pg6 => ?_)
        obtain ⟨rfl, rfl, hBpast, hD, Og6⟩ := pg6
        have hBxo : X8_at g6 := (Og6 4 (by omega) (by omega) (by omega) (by omega)).trans hBxo
        have hBnow : X2_at g6 7 S_now := X2_off hBnow (fun q i1 i2 => Og6 q (by omega) (by omega) (by omega) (by omega))
        have hFr : ∀ q, q < 66 → q ≠ 17 → q ≠ 18 → (q < 7 ∨ 7 + 8 ≤ q) → (q < 15 ∨ 15 + 2 ≤ q) → g6 q = h q := fun q u0 u1 u2 u3 u4 => (Og6 q (by omega) (by omega) (by omega) (by omega)).trans (hFr q u0 u1 u2 u3 u4)
        show aV X G 4 50 [(3, .int v4), (0, .ref 4), (1, .int x1), (2, .int x2)] [] g6 (v7.2.2.2.2.2.2) 8 50
        refine ab_aload_n C 1 rfl rfl dX8_plough_50 ?_
        refine ab_g8 (v := .ref 7) C lf_X8_19 hBxo rfl dX8_plough_51 ?_
        refine ab_lconst (v := (1 : Int64)) C dX8_plough_54 (by decide) ?_
        refine ab_iload_n C 2 rfl rfl dX8_plough_55 ?_
        refine ab_lshl C dX8_plough_56 ?_
        refine ab_iload_n C 3 rfl rfl dX8_plough_57 ?_
        obtain ⟨v8, hxv8, hF⟩ := Option.bind_eq_some_iff.mp hF
        refine ab_cVN (st := []) C lm_X8_170 (X2_tune_ok (xl X) hBnow (r := v8) hxv8) [.long ((1 : Int64) <<< (x1.toInt64 &&& 63)), .int x2] rfl hBnow.1 rfl rfl rfl (by decide) ⟨by decide, by decide⟩ (Nat.le_of_ble_eq_true rfl) dX8_plough_58 (fun g9 pg9 => ?_)
        obtain ⟨k0, Og9⟩ := pg9
        have hBnow : X2_at g9 7 v8 := k0
        have hBxo : X8_at g9 := (Og9 4 (by omega)).trans hBxo
        have hBpast : X4_at g9 15 v7.2.1 v7.1 := X4_off hBpast (fun q i1 i2 => Og9 q (by omega))
        have hD : xD g9 v7.2 := xD_off hD (fun q i1 => Og9 q (by omega))
        have hFr : ∀ q, q < 66 → q ≠ 17 → q ≠ 18 → (q < 7 ∨ 7 + 8 ≤ q) → (q < 15 ∨ 15 + 2 ≤ q) → g9 q = h q := fun q u0 u1 u2 u3 u4 => (Og9 q (by omega)).trans (hFr q u0 u1 u2 u3 u4)
        refine ab_iload_n C 0 rfl rfl dX8_plough_61 ?_
        obtain rfl := Option.some.inj hF
        refine aV.widen (k' := 8) (n' := 50) (by omega) (by omega) ?_
        exact ab_iret C R0 rfl dX8_plough_62 ⟨rfl, rfl, hBnow, hBpast, hD, hFr⟩
      · replace hF := (if_pos c5).symm.trans hF
        refine ab_bipush (v := (-2 : Int32)) C dX8_plough_36 (by decide) ?_
        obtain rfl := Option.some.inj hF
        refine aV.widen (k' := 8) (n' := 50) (by omega) (by omega) ?_
        exact ab_iret C R0 rfl dX8_plough_38 ⟨rfl, rfl, hBnow, hBpast, hD, hFr⟩
    · replace hF := (if_pos c3).symm.trans hF
      refine ab_iconst (v := (-1 : Int32)) C dX8_plough_20 (by decide) ?_
      obtain rfl := Option.some.inj hF
      refine aV.widen (k' := 8) (n' := 50) (by omega) (by omega) ?_
      exact ab_iret C R0 rfl dX8_plough_21 ⟨rfl, rfl, hBnow, hBpast, hD, hFr⟩
theorem dX8_year_0 : decode cX8_year 0 = .ok (.aload_n 0, 1) := by decide +kernel
theorem dX8_year_1 : decode cX8_year 1 = .ok (.getfield 19, 3) := by decide +kernel
theorem dX8_year_4 : decode cX8_year 4 = .ok (.invokevirtual 173, 3) := by decide +kernel
theorem dX8_year_7 : decode cX8_year 7 = .ok (.ifCond .ne 6, 3) := by decide +kernel
theorem dX8_year_10 : decode cX8_year 10 = .ok (.bipush (-2), 2) := by decide +kernel
theorem dX8_year_12 : decode cX8_year 12 = .ok (.ireturn, 1) := by decide +kernel
theorem dX8_year_13 : decode cX8_year 13 = .ok (.aload_n 0, 1) := by decide +kernel
theorem dX8_year_14 : decode cX8_year 14 = .ok (.getfield 19, 3) := by decide +kernel
theorem dX8_year_17 : decode cX8_year 17 = .ok (.getfield 177, 3) := by decide +kernel
theorem dX8_year_20 : decode cX8_year 20 = .ok (.sipush 9999, 3) := by decide +kernel
theorem dX8_year_23 : decode cX8_year 23 = .ok (.if_icmp .lt 6, 3) := by decide +kernel
theorem dX8_year_26 : decode cX8_year 26 = .ok (.bipush (-3), 2) := by decide +kernel
theorem dX8_year_28 : decode cX8_year 28 = .ok (.ireturn, 1) := by decide +kernel
theorem dX8_year_29 : decode cX8_year 29 = .ok (.aload_n 0, 1) := by decide +kernel
theorem dX8_year_30 : decode cX8_year 30 = .ok (.getfield 26, 3) := by decide +kernel
theorem dX8_year_33 : decode cX8_year 33 = .ok (.aload_n 0, 1) := by decide +kernel
theorem dX8_year_34 : decode cX8_year 34 = .ok (.getfield 19, 3) := by decide +kernel
theorem dX8_year_37 : decode cX8_year 37 = .ok (.invokevirtual 163, 3) := by decide +kernel
theorem dX8_year_40 : decode cX8_year 40 = .ok (.aload_n 0, 1) := by decide +kernel
theorem dX8_year_41 : decode cX8_year 41 = .ok (.getfield 19, 3) := by decide +kernel
theorem dX8_year_44 : decode cX8_year 44 = .ok (.invokevirtual 180, 3) := by decide +kernel
theorem dX8_year_47 : decode cX8_year 47 = .ok (.ireturn, 1) := by decide +kernel
def X8_year (D0 : DynT) (S_now : Rec) (S_past : Rec) : Option (Int32 × Rec × Rec × DynT) :=
  if (X2_stands S_now) = 0 then
    some ((-2 : Int32), S_now, S_past, D0)
  else
    if (S_now.1 8) < (9999 : Int32) then
      (X4_keep D0 S_past S_now).bind fun v4 =>
      (X2_passYear S_now).bind fun v5 =>
      some (v5.1, v5.2, v4.1, v4.2)
    else
      some ((-3 : Int32), S_now, S_past, D0)
set_option maxRecDepth 100000 in
set_option maxHeartbeats 4000000 in
theorem X8_year_ok (l : Launch) {h : aH} {D0 : DynT} {S_now : Rec} {S_past : Rec} (hBxo : X8_at h) (hBnow : X2_at h 7 S_now) (hBpast : X4_at h 15 D0.1 S_past) (hD : xD h D0) {r : Int32 × Rec × Rec × DynT} (hF : X8_year D0 S_now S_past = some r) : aOk l 3 8 50 yX8_year cX8_year 1 (some .int) [.ref 4] h D0.2.2.2.2.2 (fun v1 h1 nx1 => v1 = some (.int r.1) ∧ nx1 = r.2.2.2.2.2.2.2.2 ∧ X2_at h1 7 r.2.1 ∧ X4_at h1 15 r.2.2.2.1 r.2.2.1 ∧ xD h1 r.2.2.2 ∧ (∀ q, q < 66 → q ≠ 17 → q ≠ 18 → (q < 7 ∨ 7 + 8 ≤ q) → (q < 15 ∨ 15 + 2 ≤ q) → h1 q = h q)) := by
  refine aOk.of (by decide +kernel) (Nat.le_of_ble_eq_true rfl) (fun X G hX C R0 _ => ?_)
  subst hX
  show aV X G 1 0 [(0, .ref 4)] [] h (D0.2.2.2.2.2) 0 0
  have hFr : ∀ q, q < 66 → q ≠ 17 → q ≠ 18 → (q < 7 ∨ 7 + 8 ≤ q) → (q < 15 ∨ 15 + 2 ≤ q) → h q = h q := fun _ _ _ _ _ _ => rfl
  rw [X8_year] at hF
  refine ab_aload_n C 0 rfl rfl dX8_year_0 ?_
  refine ab_g8 (v := .ref 7) C lf_X8_19 hBxo rfl dX8_year_1 ?_
  refine ab_cVR (v := .int (X2_stands S_now)) (st := []) C lm_X8_173 (X2_stands_ok (xl X) hBnow (r := (X2_stands S_now)) rfl) [] rfl hBnow.1 rfl rfl rfl (by decide) ⟨by decide, by decide⟩ (Nat.le_of_ble_eq_true rfl) dX8_year_4 ?_
  refine ab_if_ne C 13 dX8_year_7 (by decide) (fun c1 => ?_) (fun c1 => ?_)
  · replace hF := (if_neg c1).symm.trans hF
    refine ab_aload_n C 0 rfl rfl dX8_year_13 ?_
    refine ab_g8 (v := .ref 7) C lf_X8_19 hBxo rfl dX8_year_14 ?_
    refine ab_g2 (v := .int (S_now.1 8)) C lf_X8_177 hBnow.1 rfl dX8_year_17 ?_
    refine ab_sipush (v := (9999 : Int32)) C dX8_year_20 (by decide) ?_
    refine ab_icmp_lt C 29 dX8_year_23 (by decide) (fun c2 => ?_) (fun c2 => ?_)
    · replace hF := (if_pos c2).symm.trans hF
      refine ab_aload_n C 0 rfl rfl dX8_year_29 ?_
      refine ab_g8 (v := .ref 15) C lf_X8_26 hBxo rfl dX8_year_30 ?_
      refine ab_aload_n C 0 rfl rfl dX8_year_33 ?_
      refine ab_g8 (v := .ref 7) C lf_X8_19 hBxo rfl dX8_year_34 ?_
      obtain ⟨v4, hxv4, hF⟩ := Option.bind_eq_some_iff.mp hF
      refine ab_cV (st := []) C lm_X8_163 (X4_keep_ok (xl X) hBpast hBnow hD (r := v4) hxv4) [.ref 7] rfl hBpast.1 rfl rfl rfl (by decide) ⟨by decide, by decide⟩ (Nat.le_of_ble_eq_true rfl) dX8_year_37 (fun v g3 nxg3 pg3 => ?_)
      obtain ⟨rfl, rfl, hBpast, hD, Og3⟩ := pg3
      have hBxo : X8_at g3 := (Og3 4 (by omega) (by omega) (by omega) (by omega)).trans hBxo
      have hBnow : X2_at g3 7 S_now := X2_off hBnow (fun q i1 i2 => Og3 q (by omega) (by omega) (by omega) (by omega))
      have hFr : ∀ q, q < 66 → q ≠ 17 → q ≠ 18 → (q < 7 ∨ 7 + 8 ≤ q) → (q < 15 ∨ 15 + 2 ≤ q) → g3 q = h q := fun q u0 u1 u2 u3 u4 => (Og3 q (by omega) (by omega) (by omega) (by omega)).trans (hFr q u0 u1 u2 u3 u4)
      show aV X G 1 40 [(0, .ref 4)] [] g3 (v4.2.2.2.2.2.2) 8 50
      refine ab_aload_n C 0 rfl rfl dX8_year_40 ?_
      refine ab_g8 (v := .ref 7) C lf_X8_19 hBxo rfl dX8_year_41 ?_
      obtain ⟨v5, hxv5, hF⟩ := Option.bind_eq_some_iff.mp hF
      refine ab_cVM (v := .int v5.1) (st := []) C lm_X8_180 (X2_passYear_ok (xl X) hBnow (r := v5) hxv5) [] rfl hBnow.1 rfl rfl rfl (by decide) ⟨by decide, by decide⟩ (Nat.le_of_ble_eq_true rfl) dX8_year_44 (fun g6 pg6 => ?_)
      obtain ⟨k0, Og6⟩ := pg6
      have hBnow : X2_at g6 7 v5.2 := k0
      have hBxo : X8_at g6 := (Og6 4 (by omega)).trans hBxo
      have hBpast : X4_at g6 15 v4.2.1 v4.1 := X4_off hBpast (fun q i1 i2 => Og6 q (by omega))
      have hD : xD g6 v4.2 := xD_off hD (fun q i1 => Og6 q (by omega))
      have hFr : ∀ q, q < 66 → q ≠ 17 → q ≠ 18 → (q < 7 ∨ 7 + 8 ≤ q) → (q < 15 ∨ 15 + 2 ≤ q) → g6 q = h q := fun q u0 u1 u2 u3 u4 => (Og6 q (by omega)).trans (hFr q u0 u1 u2 u3 u4)
      obtain rfl := Option.some.inj hF
      refine aV.widen (k' := 8) (n' := 50) (by omega) (by omega) ?_
      exact ab_iret C R0 rfl dX8_year_47 ⟨rfl, rfl, hBnow, hBpast, hD, hFr⟩
    · replace hF := (if_neg c2).symm.trans hF
      refine ab_bipush (v := (-3 : Int32)) C dX8_year_26 (by decide) ?_
      obtain rfl := Option.some.inj hF
      refine aV.widen (k' := 8) (n' := 50) (by omega) (by omega) ?_
      exact ab_iret C R0 rfl dX8_year_28 ⟨rfl, rfl, hBnow, hBpast, hD, hFr⟩
  · replace hF := (if_pos c1).symm.trans hF
    refine ab_bipush (v := (-2 : Int32)) C dX8_year_10 (by decide) ?_
    obtain rfl := Option.some.inj hF
    refine aV.widen (k' := 8) (n' := 50) (by omega) (by omega) ?_
    exact ab_iret C R0 rfl dX8_year_12 ⟨rfl, rfl, hBnow, hBpast, hD, hFr⟩
theorem dX8_undo_0 : decode cX8_undo 0 = .ok (.aload_n 0, 1) := by decide +kernel
theorem dX8_undo_1 : decode cX8_undo 1 = .ok (.getfield 26, 3) := by decide +kernel
theorem dX8_undo_4 : decode cX8_undo 4 = .ok (.aload_n 0, 1) := by decide +kernel
theorem dX8_undo_5 : decode cX8_undo 5 = .ok (.getfield 19, 3) := by decide +kernel
theorem dX8_undo_8 : decode cX8_undo 8 = .ok (.invokevirtual 183, 3) := by decide +kernel
theorem dX8_undo_11 : decode cX8_undo 11 = .ok (.ifCond .eq 13, 3) := by decide +kernel
theorem dX8_undo_14 : decode cX8_undo 14 = .ok (.aload_n 0, 1) := by decide +kernel
theorem dX8_undo_15 : decode cX8_undo 15 = .ok (.getfield 26, 3) := by decide +kernel
theorem dX8_undo_18 : decode cX8_undo 18 = .ok (.invokevirtual 186, 3) := by decide +kernel
theorem dX8_undo_21 : decode cX8_undo 21 = .ok (.goto 5, 3) := by decide +kernel
theorem dX8_undo_24 : decode cX8_undo 24 = .ok (.bipush (-4), 2) := by decide +kernel
theorem dX8_undo_26 : decode cX8_undo 26 = .ok (.ireturn, 1) := by decide +kernel
def X8_undo (D0 : DynT) (S_past : Rec) (S_now : Rec) : Option (Int32 × Rec × Rec) :=
  (X4_bringBack D0 S_past S_now).bind fun v2 =>
  if v2.1 = 0 then
    some ((-4 : Int32), v2.2.1, v2.2.2)
  else
    some ((X4_size D0.1 v2.2.1), v2.2.1, v2.2.2)
set_option maxRecDepth 100000 in
set_option maxHeartbeats 4000000 in
theorem X8_undo_ok (l : Launch) {h : aH} {D0 : DynT} {S_past : Rec} {S_now : Rec} (hBxo : X8_at h) (hBpast : X4_at h 15 D0.1 S_past) (hBnow : X2_at h 7 S_now) (hD : xD h D0) {r : Int32 × Rec × Rec} (hF : X8_undo D0 S_past S_now = some r) : aOk l 3 0 0 yX8_undo cX8_undo 1 (some .int) [.ref 4] h D0.2.2.2.2.2 (fun v1 h1 nx1 => v1 = some (.int r.1) ∧ nx1 = D0.2.2.2.2.2 ∧ X4_at h1 15 D0.1 r.2.1 ∧ X2_at h1 7 r.2.2 ∧ xD h1 D0 ∧ (∀ q, q < 66 → q ≠ 17 → q ≠ 18 → (q < 15 ∨ 15 + 2 ≤ q) → (q < 7 ∨ 7 + 8 ≤ q) → h1 q = h q)) := by
  refine aOk.of (by decide +kernel) (Nat.le_of_ble_eq_true rfl) (fun X G hX C R0 _ => ?_)
  subst hX
  show aV X G 1 0 [(0, .ref 4)] [] h (D0.2.2.2.2.2) 0 0
  have hFr : ∀ q, q < 66 → q ≠ 17 → q ≠ 18 → (q < 15 ∨ 15 + 2 ≤ q) → (q < 7 ∨ 7 + 8 ≤ q) → h q = h q := fun _ _ _ _ _ _ => rfl
  rw [X8_undo] at hF
  refine ab_aload_n C 0 rfl rfl dX8_undo_0 ?_
  refine ab_g8 (v := .ref 15) C lf_X8_26 hBxo rfl dX8_undo_1 ?_
  refine ab_aload_n C 0 rfl rfl dX8_undo_4 ?_
  refine ab_g8 (v := .ref 7) C lf_X8_19 hBxo rfl dX8_undo_5 ?_
  obtain ⟨v2, hxv2, hF⟩ := Option.bind_eq_some_iff.mp hF
  refine ab_cV (st := []) C lm_X8_183 (X4_bringBack_ok (xl X) hBpast hBnow hD (r := v2) hxv2) [.ref 7] rfl hBpast.1 rfl rfl rfl (by decide) ⟨by decide, by decide⟩ (Nat.le_of_ble_eq_true rfl) dX8_undo_8 (fun v g1 nxg1 pg1 => ?_)
  obtain ⟨rfl, rfl, hBpast, hBnow, hD, Og1⟩ := pg1
  have hBxo : X8_at g1 := (Og1 4 (by omega) (by omega) (by omega) (by omega) (by omega)).trans hBxo
  have hFr : ∀ q, q < 66 → q ≠ 17 → q ≠ 18 → (q < 15 ∨ 15 + 2 ≤ q) → (q < 7 ∨ 7 + 8 ≤ q) → g1 q = h q := fun q u0 u1 u2 u3 u4 => (Og1 q (by omega) (by omega) (by omega) (by omega) (by omega)).trans (hFr q u0 u1 u2 u3 u4)
  show aV X G 1 11 [(0, .ref 4)] [.int v2.1] g1 (D0.2.2.2.2.2) 0 0
  refine ab_if_eq C 24 dX8_undo_11 (by decide) (fun c3 => ?_) (fun c3 => ?_)
  · replace hF := (if_pos c3).symm.trans hF
    refine ab_bipush (v := (-4 : Int32)) C dX8_undo_24 (by decide) ?_
    obtain rfl := Option.some.inj hF
    exact ab_iret C R0 rfl dX8_undo_26 ⟨rfl, rfl, hBpast, hBnow, hD, hFr⟩
  · replace hF := (if_neg c3).symm.trans hF
    refine ab_aload_n C 0 rfl rfl dX8_undo_14 ?_
    refine ab_g8 (v := .ref 15) C lf_X8_26 hBxo rfl dX8_undo_15 ?_
    refine ab_cVR (v := .int (X4_size D0.1 v2.2.1)) (st := []) C lm_X8_186 (X4_size_ok (xl X) hBpast (r := (X4_size D0.1 v2.2.1)) rfl) [] rfl hBpast.1 rfl rfl rfl (by decide) ⟨by decide, by decide⟩ (Nat.le_of_ble_eq_true rfl) dX8_undo_18 ?_
    refine ab_goto C 26 dX8_undo_21 (by decide) ?_
    obtain rfl := Option.some.inj hF
    exact ab_iret C R0 rfl dX8_undo_26 ⟨rfl, rfl, hBpast, hBnow, hD, hFr⟩
theorem dX8_image_0 : decode cX8_image 0 = .ok (.iload_n 1, 1) := by decide +kernel
theorem dX8_image_1 : decode cX8_image 1 = .ok (.iconst 0, 1) := by decide +kernel
theorem dX8_image_2 : decode cX8_image 2 = .ok (.iconst 1, 1) := by decide +kernel
theorem dX8_image_3 : decode cX8_image 3 = .ok (.invokestatic 74, 3) := by decide +kernel
theorem dX8_image_6 : decode cX8_image 6 = .ok (.ifCond .ne 5, 3) := by decide +kernel
theorem dX8_image_9 : decode cX8_image 9 = .ok (.iconst (-1), 1) := by decide +kernel
theorem dX8_image_10 : decode cX8_image 10 = .ok (.ireturn, 1) := by decide +kernel
theorem dX8_image_11 : decode cX8_image 11 = .ok (.aload_n 0, 1) := by decide +kernel
theorem dX8_image_12 : decode cX8_image 12 = .ok (.getfield 19, 3) := by decide +kernel
theorem dX8_image_15 : decode cX8_image 15 = .ok (.invokevirtual 173, 3) := by decide +kernel
theorem dX8_image_18 : decode cX8_image 18 = .ok (.ifCond .ne 6, 3) := by decide +kernel
theorem dX8_image_21 : decode cX8_image 21 = .ok (.bipush (-2), 2) := by decide +kernel
theorem dX8_image_23 : decode cX8_image 23 = .ok (.ireturn, 1) := by decide +kernel
theorem dX8_image_24 : decode cX8_image 24 = .ok (.aload_n 0, 1) := by decide +kernel
theorem dX8_image_25 : decode cX8_image 25 = .ok (.getfield 30, 3) := by decide +kernel
theorem dX8_image_28 : decode cX8_image 28 = .ok (.iload_n 1, 1) := by decide +kernel
theorem dX8_image_29 : decode cX8_image 29 = .ok (.aaload, 1) := by decide +kernel
theorem dX8_image_30 : decode cX8_image 30 = .ok (.astore_n 2, 1) := by decide +kernel
theorem dX8_image_31 : decode cX8_image 31 = .ok (.aload_n 2, 1) := by decide +kernel
theorem dX8_image_32 : decode cX8_image 32 = .ok (.ifnonnull 18, 3) := by decide +kernel
theorem dX8_image_35 : decode cX8_image 35 = .ok (.new 16, 3) := by decide +kernel
theorem dX8_image_38 : decode cX8_image 38 = .ok (.dup, 1) := by decide +kernel
theorem dX8_image_39 : decode cX8_image 39 = .ok (.invokespecial 18, 3) := by decide +kernel
theorem dX8_image_42 : decode cX8_image 42 = .ok (.astore_n 2, 1) := by decide +kernel
theorem dX8_image_43 : decode cX8_image 43 = .ok (.aload_n 0, 1) := by decide +kernel
theorem dX8_image_44 : decode cX8_image 44 = .ok (.getfield 30, 3) := by decide +kernel
theorem dX8_image_47 : decode cX8_image 47 = .ok (.iload_n 1, 1) := by decide +kernel
theorem dX8_image_48 : decode cX8_image 48 = .ok (.aload_n 2, 1) := by decide +kernel
theorem dX8_image_49 : decode cX8_image 49 = .ok (.aastore, 1) := by decide +kernel
theorem dX8_image_50 : decode cX8_image 50 = .ok (.aload_n 2, 1) := by decide +kernel
theorem dX8_image_51 : decode cX8_image 51 = .ok (.aload_n 0, 1) := by decide +kernel
theorem dX8_image_52 : decode cX8_image 52 = .ok (.getfield 19, 3) := by decide +kernel
theorem dX8_image_55 : decode cX8_image 55 = .ok (.invokevirtual 96, 3) := by decide +kernel
theorem dX8_image_58 : decode cX8_image 58 = .ok (.aload_n 0, 1) := by decide +kernel
theorem dX8_image_59 : decode cX8_image 59 = .ok (.getfield 19, 3) := by decide +kernel
theorem dX8_image_62 : decode cX8_image 62 = .ok (.getfield 177, 3) := by decide +kernel
theorem dX8_image_65 : decode cX8_image 65 = .ok (.ireturn, 1) := by decide +kernel
def X8_image (D0 : DynT) (S_now : Rec) (x1 : Int32) : Option (Int32 × DynT) :=
  if (X8_within x1 (0 : Int32) (1 : Int32)) = 0 then
    some ((-1 : Int32), D0)
  else
    if (X2_stands S_now) = 0 then
      some ((-2 : Int32), D0)
    else
      (rdQ D0.2.1 2 x1).bind fun o3 =>
      aQs o3
        (if x1 < 0 ∨ 2 ≤ x1.toNatClampNeg then none else
         some ((S_now.1 8), (dLV (dNewI D0 x1.toNatClampNeg zR) (24 + x1.toNatClampNeg) (X2_become ((dNewI D0 x1.toNatClampNeg zR).2.2.2.2.1 (24 + x1.toNatClampNeg)) S_now))))
        fun q4 =>
        some ((S_now.1 8), (dLV D0 (24 + x1.toNatClampNeg) (X2_become (D0.2.2.2.2.1 (24 + x1.toNatClampNeg)) S_now)))
set_option maxRecDepth 100000 in
set_option maxHeartbeats 4000000 in
theorem X8_image_ok (l : Launch) {h : aH} {D0 : DynT} {S_now : Rec} {x1 : Int32} (hBxo : X8_at h) (hBnow : X2_at h 7 S_now) (hD : xD h D0) {r : Int32 × DynT} (hF : X8_image D0 S_now x1 = some r) : aOk l 2 8 50 yX8_image cX8_image 3 (some .int) [.ref 4, .int x1] h D0.2.2.2.2.2 (fun v1 h1 nx1 => v1 = some (.int r.1) ∧ nx1 = r.2.2.2.2.2.2 ∧ xD h1 r.2 ∧ (∀ q, q < 66 → q ≠ 17 → q ≠ 18 → h1 q = h q)) := by
  refine aOk.of (by decide +kernel) (Nat.le_of_ble_eq_true rfl) (fun X G hX C R0 _ => ?_)
  subst hX
  show aV X G 3 0 [(0, .ref 4), (1, .int x1)] [] h (D0.2.2.2.2.2) 0 0
  have hFr : ∀ q, q < 66 → q ≠ 17 → q ≠ 18 → h q = h q := fun _ _ _ _ => rfl
  rw [X8_image] at hF
  refine ab_iload_n C 1 rfl rfl dX8_image_0 ?_
  refine ab_iconst (v := (0 : Int32)) C dX8_image_1 (by decide) ?_
  refine ab_iconst (v := (1 : Int32)) C dX8_image_2 (by decide) ?_
  refine ab_cSR (v := .int (X8_within x1 (0 : Int32) (1 : Int32))) (st := []) C lm_X8_74 (X8_within_ok (xl X) (r := (X8_within x1 (0 : Int32) (1 : Int32))) rfl) rfl rfl (by decide) ⟨by decide, by decide⟩ (Nat.le_of_ble_eq_true rfl) dX8_image_3 ?_
  refine ab_if_ne C 11 dX8_image_6 (by decide) (fun c1 => ?_) (fun c1 => ?_)
  · replace hF := (if_neg c1).symm.trans hF
    refine ab_aload_n C 0 rfl rfl dX8_image_11 ?_
    refine ab_g8 (v := .ref 7) C lf_X8_19 hBxo rfl dX8_image_12 ?_
    refine ab_cVR (v := .int (X2_stands S_now)) (st := []) C lm_X8_173 (X2_stands_ok (xl X) hBnow (r := (X2_stands S_now)) rfl) [] rfl hBnow.1 rfl rfl rfl (by decide) ⟨by decide, by decide⟩ (Nat.le_of_ble_eq_true rfl) dX8_image_15 ?_
    refine ab_if_ne C 24 dX8_image_18 (by decide) (fun c2 => ?_) (fun c2 => ?_)
    · replace hF := (if_neg c2).symm.trans hF
      refine ab_aload_n C 0 rfl rfl dX8_image_24 ?_
      refine ab_g8 (v := .ref 17) C lf_X8_30 hBxo rfl dX8_image_25 ?_
      refine ab_iload_n C 1 rfl rfl dX8_image_28 ?_
      obtain ⟨o3, hxo3, hF⟩ := Option.bind_eq_some_iff.mp hF
      obtain ⟨hio3, hvo3⟩ := rdQ_s hxo3
      refine ab_aaload3 C hD.1 hio3 dX8_image_29 ?_
      rw [hvo3]
      rcases o3 with _ | q4
      · replace hF := aQs_n hF
        show aV X G 3 30 [(0, .ref 4), (1, .int x1)] [.null] h (D0.2.2.2.2.2) 0 0
        refine ab_astore_nN (lv' := [(2, .null), (0, .ref 4), (1, .int x1)]) C dX8_image_30 rfl (by decide) rfl ?_
        refine ab_aload_nN C 0 rfl rfl dX8_image_31 ?_
        refine ab_ifnonnullN C dX8_image_32 ?_
        have n66 : 66 ≤ D0.2.2.2.2.2 := hD.2.2.1
        refine ab_new C (ci := 2) (fs := [.int 0, .null, .int 0, .int 0, .int 0, .null, .null, .null, .int 0, .null, .null, .null]) tyX2 tyX2_ok rfl inX2 (a_mem 98 (by decide +kernel) (by decide +kernel)) (a_mem 99 (by decide +kernel) (by decide +kernel)) (a_mem 56 (by decide +kernel) (by decide +kernel)) (fun G j hj => by rcases (show j = 0 ∨ j = 1 ∨ j = 2 ∨ j = 3 ∨ j = 4 ∨ j = 5 ∨ j = 6 ∨ j = 7 ∨ j = 8 ∨ j = 9 ∨ j = 10 ∨ j = 11 by omega) with rfl | rfl | rfl | rfl | rfl | rfl | rfl | rfl | rfl | rfl | rfl | rfl <;> rfl) (by omega) ⟨by decide, by decide⟩ dX8_image_35 (fun g5 eg5 og5 => ?_)
        refine ab_dup C rfl dX8_image_38 ?_
        refine ab_cI (st := [.ref (D0.2.2.2.2.2)]) C lm_X8_18 (X2_init_ok (xl X) (by omega) rfl eg5) [] rfl (by omega) rfl rfl (by decide) ⟨by omega, by omega⟩ (Nat.le_of_ble_eq_true rfl) dX8_image_39 (fun v g6 nxg6 pg6 => ?_)
        obtain ⟨rfl, hng6, hBN, oN⟩ := pg6
        have oN : ∀ q, q < D0.2.2.2.2.2 → g6 q = h q := fun q u => (oN q u).trans (og5 q (by omega))
        have hBxo : X8_at g6 := (oN 4 (by omega)).trans hBxo
        have hBnow : X2_at g6 7 S_now := X2_off hBnow (fun q i1 i2 => oN q (by omega))
        have hFr : ∀ q, q < 66 → q ≠ 17 → q ≠ 18 → g6 q = h q := fun q u0 u1 u2 => (oN q (by omega)).trans (hFr q u0 u1 u2)
        obtain rfl : nxg6 = D0.2.2.2.2.2 + 8 := hng6
        show aV X G 3 42 [(2, .null), (0, .ref 4), (1, .int x1)] [.ref (D0.2.2.2.2.2)] g6 (D0.2.2.2.2.2 + 8) 8 50
        refine ab_astore_n (lv' := [(2, .ref (D0.2.2.2.2.2)), (0, .ref 4), (1, .int x1)]) C dX8_image_42 rfl (by decide) rfl ?_
        refine ab_aload_n C 1 rfl rfl dX8_image_43 ?_
        refine ab_g8 (v := .ref 17) C lf_X8_30 hBxo rfl dX8_image_44 ?_
        refine ab_iload_n C 2 rfl rfl dX8_image_47 ?_
        refine ab_aload_n C 0 rfl rfl dX8_image_48 ?_
        rcases Classical.em (x1 < 0 ∨ 2 ≤ x1.toNatClampNeg) with c8 | c8
        · replace hF := (if_pos c8).symm.trans hF
          cases hF
        replace hF := (if_neg c8).symm.trans hF
        refine ab_aastore3 C ((oN 17 (by omega)).trans hD.1) hBN.1 c8 dX8_image_49 (fun g7 eg7 og7 => ?_)
        have oZ : ∀ q, q < D0.2.2.2.2.2 → q ≠ 17 → g7 q = h q := fun q u w => (og7 q w).trans (oN q u)
        have hBxo : X8_at g7 := (og7 4 (by omega)).trans hBxo
        have hBnow : X2_at g7 7 S_now := X2_off hBnow (fun q i1 i2 => og7 q (by omega))
        have hD : xD g7 (dNewI D0 x1.toNatClampNeg zR) := xD_newI hD (vp_lt c8) (X2_off hBN (fun q i1 i2 => og7 q (by omega))) eg7 oZ
        have hFr : ∀ q, q < 66 → q ≠ 17 → q ≠ 18 → g7 q = h q := fun q u0 u1 u2 => (og7 q (by omega)).trans (hFr q u0 u1 u2)
        have hdnewk : x1.toNatClampNeg < 2 := vp_lt c8
        have hdnewq : (dNewI D0 x1.toNatClampNeg zR).2.1 x1.toNatClampNeg = some (D0.2.2.2.2.2) := by simp [dNewI, va_up]
        obtain ⟨hdnewl, hdnewu, hBdnew⟩ := xD_getI hD hdnewk hdnewq
        show aV X G 3 50 [(2, .ref (D0.2.2.2.2.2)), (0, .ref 4), (1, .int x1)] [] g7 ((dNewI D0 x1.toNatClampNeg zR).2.2.2.2.2) 8 50
        refine ab_aload_n C 0 rfl rfl dX8_image_50 ?_
        refine ab_aload_n C 1 rfl rfl dX8_image_51 ?_
        refine ab_g8 (v := .ref 7) C lf_X8_19 hBxo rfl dX8_image_52 ?_
        refine ab_cVN (st := []) C lm_X8_96 (X2_become_ok (xl X) hBdnew hBnow (by omega) (r := (X2_become ((dNewI D0 x1.toNatClampNeg zR).2.2.2.2.1 (24 + x1.toNatClampNeg)) S_now)) rfl) [.ref 7] rfl hBdnew.1 rfl rfl rfl (by decide) ⟨by decide, by decide⟩ (Nat.le_of_ble_eq_true rfl) dX8_image_55 (fun g10 pg10 => ?_)
        obtain ⟨k0, Og10⟩ := pg10
        have hBdnew : X2_at g10 (D0.2.2.2.2.2) (X2_become ((dNewI D0 x1.toNatClampNeg zR).2.2.2.2.1 (24 + x1.toNatClampNeg)) S_now) := k0
        have hBxo : X8_at g10 := (Og10 4 (by omega)).trans hBxo
        have hBnow : X2_at g10 7 S_now := X2_off hBnow (fun q i1 i2 => Og10 q (by omega))
        have hD : xD g10 (dLV (dNewI D0 x1.toNatClampNeg zR) (24 + x1.toNatClampNeg) (X2_become ((dNewI D0 x1.toNatClampNeg zR).2.2.2.2.1 (24 + x1.toNatClampNeg)) S_now)) := xD_putI hD hdnewk hdnewq hBdnew (fun q i1 => Og10 q (by omega))
        have hFr : ∀ q, q < 66 → q ≠ 17 → q ≠ 18 → g10 q = h q := fun q u0 u1 u2 => (Og10 q (by omega)).trans (hFr q u0 u1 u2)
        show aV X G 3 58 [(2, .ref (D0.2.2.2.2.2)), (0, .ref 4), (1, .int x1)] [] g10 ((dLV (dNewI D0 x1.toNatClampNeg zR) (24 + x1.toNatClampNeg) (X2_become ((dNewI D0 x1.toNatClampNeg zR).2.2.2.2.1 (24 + x1.toNatClampNeg)) S_now)).2.2.2.2.2) 8 50
        refine ab_aload_n C 1 rfl rfl dX8_image_58 ?_
        refine ab_g8 (v := .ref 7) C lf_X8_19 hBxo rfl dX8_image_59 ?_
        refine ab_g2 (v := .int (S_now.1 8)) C lf_X8_177 hBnow.1 rfl dX8_image_62 ?_
        obtain rfl := Option.some.inj hF
        refine aV.widen (k' := 8) (n' := 50) (by omega) (by omega) ?_
        exact ab_iret C R0 rfl dX8_image_65 ⟨rfl, rfl, hD, hFr⟩
      · replace hF := aQs_s hF
        show aV X G 3 30 [(0, .ref 4), (1, .int x1)] [.ref q4] h (D0.2.2.2.2.2) 0 0
        have hdq4k : x1.toNatClampNeg < 2 := vp_lt hio3
        have hdq4q : D0.2.1 x1.toNatClampNeg = some q4 := hvo3
        obtain ⟨hdq4l, hdq4u, hBdq4⟩ := xD_getI hD hdq4k hdq4q
        refine ab_astore_n (lv' := [(2, .ref q4), (0, .ref 4), (1, .int x1)]) C dX8_image_30 rfl (by decide) rfl ?_
        refine ab_aload_n C 0 rfl rfl dX8_image_31 ?_
        refine ab_ifnonnull C 50 dX8_image_32 (by decide) ?_
        refine ab_aload_n C 0 rfl rfl dX8_image_50 ?_
        refine ab_aload_n C 1 rfl rfl dX8_image_51 ?_
        refine ab_g8 (v := .ref 7) C lf_X8_19 hBxo rfl dX8_image_52 ?_
        refine ab_cVN (st := []) C lm_X8_96 (X2_become_ok (xl X) hBdq4 hBnow (by omega) (r := (X2_become (D0.2.2.2.2.1 (24 + x1.toNatClampNeg)) S_now)) rfl) [.ref 7] rfl hBdq4.1 rfl rfl rfl (by decide) ⟨by decide, by decide⟩ (Nat.le_of_ble_eq_true rfl) dX8_image_55 (fun g11 pg11 => ?_)
        obtain ⟨k0, Og11⟩ := pg11
        have hBdq4 : X2_at g11 q4 (X2_become (D0.2.2.2.2.1 (24 + x1.toNatClampNeg)) S_now) := k0
        have hBxo : X8_at g11 := (Og11 4 (by omega)).trans hBxo
        have hBnow : X2_at g11 7 S_now := X2_off hBnow (fun q i1 i2 => Og11 q (by omega))
        have hD : xD g11 (dLV D0 (24 + x1.toNatClampNeg) (X2_become (D0.2.2.2.2.1 (24 + x1.toNatClampNeg)) S_now)) := xD_putI hD hdq4k hdq4q hBdq4 (fun q i1 => Og11 q (by omega))
        have hFr : ∀ q, q < 66 → q ≠ 17 → q ≠ 18 → g11 q = h q := fun q u0 u1 u2 => (Og11 q (by omega)).trans (hFr q u0 u1 u2)
        show aV X G 3 58 [(2, .ref q4), (0, .ref 4), (1, .int x1)] [] g11 ((dLV D0 (24 + x1.toNatClampNeg) (X2_become (D0.2.2.2.2.1 (24 + x1.toNatClampNeg)) S_now)).2.2.2.2.2) 0 0
        refine ab_aload_n C 1 rfl rfl dX8_image_58 ?_
        refine ab_g8 (v := .ref 7) C lf_X8_19 hBxo rfl dX8_image_59 ?_
        refine ab_g2 (v := .int (S_now.1 8)) C lf_X8_177 hBnow.1 rfl dX8_image_62 ?_
        obtain rfl := Option.some.inj hF
        refine aV.widen (k' := 8) (n' := 50) (by omega) (by omega) ?_
        exact ab_iret C R0 rfl dX8_image_65 ⟨rfl, rfl, hD, hFr⟩
    · replace hF := (if_pos c2).symm.trans hF
      refine ab_bipush (v := (-2 : Int32)) C dX8_image_21 (by decide) ?_
      obtain rfl := Option.some.inj hF
      refine aV.widen (k' := 8) (n' := 50) (by omega) (by omega) ?_
      exact ab_iret C R0 rfl dX8_image_23 ⟨rfl, rfl, hD, hFr⟩
  · replace hF := (if_pos c1).symm.trans hF
    refine ab_iconst (v := (-1 : Int32)) C dX8_image_9 (by decide) ?_
    obtain rfl := Option.some.inj hF
    refine aV.widen (k' := 8) (n' := 50) (by omega) (by omega) ?_
    exact ab_iret C R0 rfl dX8_image_10 ⟨rfl, rfl, hD, hFr⟩
theorem dX8_restore_0 : decode cX8_restore 0 = .ok (.iload_n 1, 1) := by decide +kernel
theorem dX8_restore_1 : decode cX8_restore 1 = .ok (.iconst 0, 1) := by decide +kernel
theorem dX8_restore_2 : decode cX8_restore 2 = .ok (.iconst 1, 1) := by decide +kernel
theorem dX8_restore_3 : decode cX8_restore 3 = .ok (.invokestatic 74, 3) := by decide +kernel
theorem dX8_restore_6 : decode cX8_restore 6 = .ok (.ifCond .ne 5, 3) := by decide +kernel
theorem dX8_restore_9 : decode cX8_restore 9 = .ok (.iconst (-1), 1) := by decide +kernel
theorem dX8_restore_10 : decode cX8_restore 10 = .ok (.ireturn, 1) := by decide +kernel
theorem dX8_restore_11 : decode cX8_restore 11 = .ok (.aload_n 0, 1) := by decide +kernel
theorem dX8_restore_12 : decode cX8_restore 12 = .ok (.getfield 30, 3) := by decide +kernel
theorem dX8_restore_15 : decode cX8_restore 15 = .ok (.iload_n 1, 1) := by decide +kernel
theorem dX8_restore_16 : decode cX8_restore 16 = .ok (.aaload, 1) := by decide +kernel
theorem dX8_restore_17 : decode cX8_restore 17 = .ok (.astore_n 2, 1) := by decide +kernel
theorem dX8_restore_18 : decode cX8_restore 18 = .ok (.aload_n 2, 1) := by decide +kernel
theorem dX8_restore_19 : decode cX8_restore 19 = .ok (.ifnonnull 6, 3) := by decide +kernel
theorem dX8_restore_22 : decode cX8_restore 22 = .ok (.bipush (-2), 2) := by decide +kernel
theorem dX8_restore_24 : decode cX8_restore 24 = .ok (.ireturn, 1) := by decide +kernel
theorem dX8_restore_25 : decode cX8_restore 25 = .ok (.aload_n 0, 1) := by decide +kernel
theorem dX8_restore_26 : decode cX8_restore 26 = .ok (.getfield 19, 3) := by decide +kernel
theorem dX8_restore_29 : decode cX8_restore 29 = .ok (.aload_n 2, 1) := by decide +kernel
theorem dX8_restore_30 : decode cX8_restore 30 = .ok (.invokevirtual 96, 3) := by decide +kernel
theorem dX8_restore_33 : decode cX8_restore 33 = .ok (.aload_n 0, 1) := by decide +kernel
theorem dX8_restore_34 : decode cX8_restore 34 = .ok (.getfield 26, 3) := by decide +kernel
theorem dX8_restore_37 : decode cX8_restore 37 = .ok (.invokevirtual 100, 3) := by decide +kernel
theorem dX8_restore_40 : decode cX8_restore 40 = .ok (.aload_n 0, 1) := by decide +kernel
theorem dX8_restore_41 : decode cX8_restore 41 = .ok (.getfield 19, 3) := by decide +kernel
theorem dX8_restore_44 : decode cX8_restore 44 = .ok (.getfield 177, 3) := by decide +kernel
theorem dX8_restore_47 : decode cX8_restore 47 = .ok (.ireturn, 1) := by decide +kernel
def X8_restore (D0 : DynT) (S_now : Rec) (S_past : Rec) (x1 : Int32) : Option (Int32 × Rec × Rec) :=
  if (X8_within x1 (0 : Int32) (1 : Int32)) = 0 then
    some ((-1 : Int32), S_now, S_past)
  else
    (rdQ D0.2.1 2 x1).bind fun o2 =>
    aQs o2
      (some ((-2 : Int32), S_now, S_past))
      fun q3 =>
      some (((X2_become S_now (D0.2.2.2.2.1 (24 + x1.toNatClampNeg))).1 8), (X2_become S_now (D0.2.2.2.2.1 (24 + x1.toNatClampNeg))), (X4_forget D0.1 S_past))
set_option maxRecDepth 100000 in
set_option maxHeartbeats 4000000 in
theorem X8_restore_ok (l : Launch) {h : aH} {D0 : DynT} {S_now : Rec} {S_past : Rec} {x1 : Int32} (hBxo : X8_at h) (hBnow : X2_at h 7 S_now) (hBpast : X4_at h 15 D0.1 S_past) (hD : xD h D0) {r : Int32 × Rec × Rec} (hF : X8_restore D0 S_now S_past x1 = some r) : aOk l 2 0 0 yX8_restore cX8_restore 3 (some .int) [.ref 4, .int x1] h D0.2.2.2.2.2 (fun v1 h1 nx1 => v1 = some (.int r.1) ∧ nx1 = D0.2.2.2.2.2 ∧ X2_at h1 7 r.2.1 ∧ X4_at h1 15 D0.1 r.2.2 ∧ xD h1 D0 ∧ (∀ q, q < 66 → q ≠ 17 → q ≠ 18 → (q < 7 ∨ 7 + 8 ≤ q) → (q < 15 ∨ 15 + 2 ≤ q) → h1 q = h q)) := by
  refine aOk.of (by decide +kernel) (Nat.le_of_ble_eq_true rfl) (fun X G hX C R0 _ => ?_)
  subst hX
  show aV X G 3 0 [(0, .ref 4), (1, .int x1)] [] h (D0.2.2.2.2.2) 0 0
  have hFr : ∀ q, q < 66 → q ≠ 17 → q ≠ 18 → (q < 7 ∨ 7 + 8 ≤ q) → (q < 15 ∨ 15 + 2 ≤ q) → h q = h q := fun _ _ _ _ _ _ => rfl
  rw [X8_restore] at hF
  refine ab_iload_n C 1 rfl rfl dX8_restore_0 ?_
  refine ab_iconst (v := (0 : Int32)) C dX8_restore_1 (by decide) ?_
  refine ab_iconst (v := (1 : Int32)) C dX8_restore_2 (by decide) ?_
  refine ab_cSR (v := .int (X8_within x1 (0 : Int32) (1 : Int32))) (st := []) C lm_X8_74 (X8_within_ok (xl X) (r := (X8_within x1 (0 : Int32) (1 : Int32))) rfl) rfl rfl (by decide) ⟨by decide, by decide⟩ (Nat.le_of_ble_eq_true rfl) dX8_restore_3 ?_
  refine ab_if_ne C 11 dX8_restore_6 (by decide) (fun c1 => ?_) (fun c1 => ?_)
  · replace hF := (if_neg c1).symm.trans hF
    refine ab_aload_n C 0 rfl rfl dX8_restore_11 ?_
    refine ab_g8 (v := .ref 17) C lf_X8_30 hBxo rfl dX8_restore_12 ?_
    refine ab_iload_n C 1 rfl rfl dX8_restore_15 ?_
    obtain ⟨o2, hxo2, hF⟩ := Option.bind_eq_some_iff.mp hF
    obtain ⟨hio2, hvo2⟩ := rdQ_s hxo2
    refine ab_aaload3 C hD.1 hio2 dX8_restore_16 ?_
    rw [hvo2]
    rcases o2 with _ | q3
    · replace hF := aQs_n hF
      show aV X G 3 17 [(0, .ref 4), (1, .int x1)] [.null] h (D0.2.2.2.2.2) 0 0
      refine ab_astore_nN (lv' := [(2, .null), (0, .ref 4), (1, .int x1)]) C dX8_restore_17 rfl (by decide) rfl ?_
      refine ab_aload_nN C 0 rfl rfl dX8_restore_18 ?_
      refine ab_ifnonnullN C dX8_restore_19 ?_
      refine ab_bipush (v := (-2 : Int32)) C dX8_restore_22 (by decide) ?_
      obtain rfl := Option.some.inj hF
      exact ab_iret C R0 rfl dX8_restore_24 ⟨rfl, rfl, hBnow, hBpast, hD, hFr⟩
    · replace hF := aQs_s hF
      show aV X G 3 17 [(0, .ref 4), (1, .int x1)] [.ref q3] h (D0.2.2.2.2.2) 0 0
      have hdq3k : x1.toNatClampNeg < 2 := vp_lt hio2
      have hdq3q : D0.2.1 x1.toNatClampNeg = some q3 := hvo2
      obtain ⟨hdq3l, hdq3u, hBdq3⟩ := xD_getI hD hdq3k hdq3q
      refine ab_astore_n (lv' := [(2, .ref q3), (0, .ref 4), (1, .int x1)]) C dX8_restore_17 rfl (by decide) rfl ?_
      refine ab_aload_n C 0 rfl rfl dX8_restore_18 ?_
      refine ab_ifnonnull C 25 dX8_restore_19 (by decide) ?_
      refine ab_aload_n C 1 rfl rfl dX8_restore_25 ?_
      refine ab_g8 (v := .ref 7) C lf_X8_19 hBxo rfl dX8_restore_26 ?_
      refine ab_aload_n C 0 rfl rfl dX8_restore_29 ?_
      refine ab_cVN (st := []) C lm_X8_96 (X2_become_ok (xl X) hBnow hBdq3 (by omega) (r := (X2_become S_now (D0.2.2.2.2.1 (24 + x1.toNatClampNeg)))) rfl) [.ref q3] rfl hBnow.1 rfl rfl rfl (by decide) ⟨by decide, by decide⟩ (Nat.le_of_ble_eq_true rfl) dX8_restore_30 (fun g4 pg4 => ?_)
      obtain ⟨k0, Og4⟩ := pg4
      have hBnow : X2_at g4 7 (X2_become S_now (D0.2.2.2.2.1 (24 + x1.toNatClampNeg))) := k0
      have hBxo : X8_at g4 := (Og4 4 (by omega)).trans hBxo
      have hBpast : X4_at g4 15 D0.1 S_past := X4_off hBpast (fun q i1 i2 => Og4 q (by omega))
      have hBdq3 : X2_at g4 q3 (D0.2.2.2.2.1 (24 + x1.toNatClampNeg)) := X2_off hBdq3 (fun q i1 i2 => Og4 q (by omega))
      have hD : xD g4 D0 := xD_off hD (fun q i1 => Og4 q (by omega))
      have hFr : ∀ q, q < 66 → q ≠ 17 → q ≠ 18 → (q < 7 ∨ 7 + 8 ≤ q) → (q < 15 ∨ 15 + 2 ≤ q) → g4 q = h q := fun q u0 u1 u2 u3 u4 => (Og4 q (by omega)).trans (hFr q u0 u1 u2 u3 u4)
      refine ab_aload_n C 1 rfl rfl dX8_restore_33 ?_
      refine ab_g8 (v := .ref 15) C lf_X8_26 hBxo rfl dX8_restore_34 ?_
      refine ab_cVN (st := []) C lm_X8_100 (X4_forget_ok (xl X) hBpast (r := (X4_forget D0.1 S_past)) rfl) [] rfl hBpast.1 rfl rfl rfl (by decide) ⟨by decide, by decide⟩ (Nat.le_of_ble_eq_true rfl) dX8_restore_37 (fun g5 pg5 => ?_)
      obtain ⟨k0, Og5⟩ := pg5
      have hBpast : X4_at g5 15 D0.1 (X4_forget D0.1 S_past) := k0
      have hBxo : X8_at g5 := (Og5 4 (by omega)).trans hBxo
      have hBnow : X2_at g5 7 (X2_become S_now (D0.2.2.2.2.1 (24 + x1.toNatClampNeg))) := X2_off hBnow (fun q i1 i2 => Og5 q (by omega))
      have hBdq3 : X2_at g5 q3 (D0.2.2.2.2.1 (24 + x1.toNatClampNeg)) := X2_off hBdq3 (fun q i1 i2 => Og5 q (by omega))
      have hD : xD g5 D0 := xD_off hD (fun q i1 => Og5 q (by omega))
      have hFr : ∀ q, q < 66 → q ≠ 17 → q ≠ 18 → (q < 7 ∨ 7 + 8 ≤ q) → (q < 15 ∨ 15 + 2 ≤ q) → g5 q = h q := fun q u0 u1 u2 u3 u4 => (Og5 q (by omega)).trans (hFr q u0 u1 u2 u3 u4)
      refine ab_aload_n C 1 rfl rfl dX8_restore_40 ?_
      refine ab_g8 (v := .ref 7) C lf_X8_19 hBxo rfl dX8_restore_41 ?_
      refine ab_g2 (v := .int ((X2_become S_now (D0.2.2.2.2.1 (24 + x1.toNatClampNeg))).1 8)) C lf_X8_177 hBnow.1 rfl dX8_restore_44 ?_
      obtain rfl := Option.some.inj hF
      exact ab_iret C R0 rfl dX8_restore_47 ⟨rfl, rfl, hBnow, hBpast, hD, hFr⟩
  · replace hF := (if_pos c1).symm.trans hF
    refine ab_iconst (v := (-1 : Int32)) C dX8_restore_9 (by decide) ?_
    obtain rfl := Option.some.inj hF
    exact ab_iret C R0 rfl dX8_restore_10 ⟨rfl, rfl, hBnow, hBpast, hD, hFr⟩
theorem dX8_sheet_0 : decode cX8_sheet 0 = .ok (.iload_n 1, 1) := by decide +kernel
theorem dX8_sheet_1 : decode cX8_sheet 1 = .ok (.iconst 0, 1) := by decide +kernel
theorem dX8_sheet_2 : decode cX8_sheet 2 = .ok (.iconst 3, 1) := by decide +kernel
theorem dX8_sheet_3 : decode cX8_sheet 3 = .ok (.invokestatic 74, 3) := by decide +kernel
theorem dX8_sheet_6 : decode cX8_sheet 6 = .ok (.ifCond .eq 18, 3) := by decide +kernel
theorem dX8_sheet_9 : decode cX8_sheet 9 = .ok (.iload_n 2, 1) := by decide +kernel
theorem dX8_sheet_10 : decode cX8_sheet 10 = .ok (.iconst 0, 1) := by decide +kernel
theorem dX8_sheet_11 : decode cX8_sheet 11 = .ok (.iconst 3, 1) := by decide +kernel
theorem dX8_sheet_12 : decode cX8_sheet 12 = .ok (.invokestatic 74, 3) := by decide +kernel
theorem dX8_sheet_15 : decode cX8_sheet 15 = .ok (.ifCond .eq 9, 3) := by decide +kernel
theorem dX8_sheet_18 : decode cX8_sheet 18 = .ok (.iload_n 3, 1) := by decide +kernel
theorem dX8_sheet_19 : decode cX8_sheet 19 = .ok (.bipush 24, 2) := by decide +kernel
theorem dX8_sheet_21 : decode cX8_sheet 21 = .ok (.if_icmp .le 5, 3) := by decide +kernel
theorem dX8_sheet_24 : decode cX8_sheet 24 = .ok (.iconst (-1), 1) := by decide +kernel
theorem dX8_sheet_25 : decode cX8_sheet 25 = .ok (.ireturn, 1) := by decide +kernel
theorem dX8_sheet_26 : decode cX8_sheet 26 = .ok (.iload_n 3, 1) := by decide +kernel
theorem dX8_sheet_27 : decode cX8_sheet 27 = .ok (.ifCond .ge 6, 3) := by decide +kernel
theorem dX8_sheet_30 : decode cX8_sheet 30 = .ok (.bipush (-14), 2) := by decide +kernel
theorem dX8_sheet_32 : decode cX8_sheet 32 = .ok (.ireturn, 1) := by decide +kernel
theorem dX8_sheet_33 : decode cX8_sheet 33 = .ok (.aload_n 0, 1) := by decide +kernel
theorem dX8_sheet_34 : decode cX8_sheet 34 = .ok (.getfield 36, 3) := by decide +kernel
theorem dX8_sheet_37 : decode cX8_sheet 37 = .ok (.iload_n 1, 1) := by decide +kernel
theorem dX8_sheet_38 : decode cX8_sheet 38 = .ok (.new 34, 3) := by decide +kernel
theorem dX8_sheet_41 : decode cX8_sheet 41 = .ok (.dup, 1) := by decide +kernel
theorem dX8_sheet_42 : decode cX8_sheet 42 = .ok (.iload_n 2, 1) := by decide +kernel
theorem dX8_sheet_43 : decode cX8_sheet 43 = .ok (.iload_n 3, 1) := by decide +kernel
theorem dX8_sheet_44 : decode cX8_sheet 44 = .ok (.invokespecial 277, 3) := by decide +kernel
theorem dX8_sheet_47 : decode cX8_sheet 47 = .ok (.aastore, 1) := by decide +kernel
theorem dX8_sheet_48 : decode cX8_sheet 48 = .ok (.iload_n 3, 1) := by decide +kernel
theorem dX8_sheet_49 : decode cX8_sheet 49 = .ok (.ireturn, 1) := by decide +kernel
def X8_sheet (D0 : DynT) (x1 : Int32) (x2 : Int32) (x3 : Int32) : Option (Int32 × DynT) :=
  if (X8_within x1 (0 : Int32) (3 : Int32)) = 0 then
    some ((-1 : Int32), D0)
  else
    if (X8_within x2 (0 : Int32) (3 : Int32)) = 0 then
      some ((-1 : Int32), D0)
    else
      if x3 ≤ (24 : Int32) then
        if 0 ≤ x3 then
          if x1 < 0 ∨ 4 ≤ x1.toNatClampNeg then none else
          some (x3, (dNewS D0 x1.toNatClampNeg (a_max 0 (a_min x3 24)).toNatClampNeg (sI zR 0 x2)))
        else
          some ((-14 : Int32), D0)
      else
        some ((-1 : Int32), D0)
set_option maxRecDepth 100000 in
set_option maxHeartbeats 4000000 in
theorem X8_sheet_ok (l : Launch) {h : aH} {D0 : DynT} {x1 : Int32} {x2 : Int32} {x3 : Int32} (hBxo : X8_at h) (hD : xD h D0) {r : Int32 × DynT} (hF : X8_sheet D0 x1 x2 x3 = some r) : aOk l 2 2 26 yX8_sheet cX8_sheet 4 (some .int) [.ref 4, .int x1, .int x2, .int x3] h D0.2.2.2.2.2 (fun v1 h1 nx1 => v1 = some (.int r.1) ∧ nx1 = r.2.2.2.2.2.2 ∧ xD h1 r.2 ∧ (∀ q, q < 66 → q ≠ 17 → q ≠ 18 → h1 q = h q)) := by
  refine aOk.of (by decide +kernel) (Nat.le_of_ble_eq_true rfl) (fun X G hX C R0 _ => ?_)
  subst hX
  show aV X G 4 0 [(0, .ref 4), (1, .int x1), (2, .int x2), (3, .int x3)] [] h (D0.2.2.2.2.2) 0 0
  have hFr : ∀ q, q < 66 → q ≠ 17 → q ≠ 18 → h q = h q := fun _ _ _ _ => rfl
  rw [X8_sheet] at hF
  refine ab_iload_n C 1 rfl rfl dX8_sheet_0 ?_
  refine ab_iconst (v := (0 : Int32)) C dX8_sheet_1 (by decide) ?_
  refine ab_iconst (v := (3 : Int32)) C dX8_sheet_2 (by decide) ?_
  refine ab_cSR (v := .int (X8_within x1 (0 : Int32) (3 : Int32))) (st := []) C lm_X8_74 (X8_within_ok (xl X) (r := (X8_within x1 (0 : Int32) (3 : Int32))) rfl) rfl rfl (by decide) ⟨by decide, by decide⟩ (Nat.le_of_ble_eq_true rfl) dX8_sheet_3 ?_
  refine ab_if_eq C 24 dX8_sheet_6 (by decide) (fun c1 => ?_) (fun c1 => ?_)
  · replace hF := (if_pos c1).symm.trans hF
    refine ab_iconst (v := (-1 : Int32)) C dX8_sheet_24 (by decide) ?_
    obtain rfl := Option.some.inj hF
    refine aV.widen (k' := 2) (n' := 26) (by omega) (by omega) ?_
    exact ab_iret C R0 rfl dX8_sheet_25 ⟨rfl, rfl, hD, hFr⟩
  · replace hF := (if_neg c1).symm.trans hF
    refine ab_iload_n C 2 rfl rfl dX8_sheet_9 ?_
    refine ab_iconst (v := (0 : Int32)) C dX8_sheet_10 (by decide) ?_
    refine ab_iconst (v := (3 : Int32)) C dX8_sheet_11 (by decide) ?_
    refine ab_cSR (v := .int (X8_within x2 (0 : Int32) (3 : Int32))) (st := []) C lm_X8_74 (X8_within_ok (xl X) (r := (X8_within x2 (0 : Int32) (3 : Int32))) rfl) rfl rfl (by decide) ⟨by decide, by decide⟩ (Nat.le_of_ble_eq_true rfl) dX8_sheet_12 ?_
    refine ab_if_eq C 24 dX8_sheet_15 (by decide) (fun c2 => ?_) (fun c2 => ?_)
    · replace hF := (if_pos c2).symm.trans hF
      refine ab_iconst (v := (-1 : Int32)) C dX8_sheet_24 (by decide) ?_
      obtain rfl := Option.some.inj hF
      refine aV.widen (k' := 2) (n' := 26) (by omega) (by omega) ?_
      exact ab_iret C R0 rfl dX8_sheet_25 ⟨rfl, rfl, hD, hFr⟩
    · replace hF := (if_neg c2).symm.trans hF
      refine ab_iload_n C 3 rfl rfl dX8_sheet_18 ?_
      refine ab_bipush (v := (24 : Int32)) C dX8_sheet_19 (by decide) ?_
      refine ab_icmp_le C 26 dX8_sheet_21 (by decide) (fun c3 => ?_) (fun c3 => ?_)
      · replace hF := (if_pos c3).symm.trans hF
        refine ab_iload_n C 3 rfl rfl dX8_sheet_26 ?_
        refine ab_if_ge C 33 dX8_sheet_27 (by decide) (fun c4 => ?_) (fun c4 => ?_)
        · replace hF := (if_pos c4).symm.trans hF
          refine ab_aload_n C 0 rfl rfl dX8_sheet_33 ?_
          refine ab_g8 (v := .ref 18) C lf_X8_36 hBxo rfl dX8_sheet_34 ?_
          refine ab_iload_n C 1 rfl rfl dX8_sheet_37 ?_
          have n66 : 66 ≤ D0.2.2.2.2.2 := hD.2.2.1
          refine ab_new C (ci := 5) (fs := [.int 0, .null]) tyX5 tyX5_ok rfl inX5 (a_mem 179 (by decide +kernel) (by decide +kernel)) (a_mem 830 (by decide +kernel) (by decide +kernel)) (a_mem 72 (by decide +kernel) (by decide +kernel)) (fun G j hj => by rcases (show j = 0 ∨ j = 1 by omega) with rfl | rfl <;> rfl) (by omega) ⟨by decide, by decide⟩ dX8_sheet_38 (fun g5 eg5 og5 => ?_)
          refine ab_dup C rfl dX8_sheet_41 ?_
          refine ab_iload_n C 2 rfl rfl dX8_sheet_42 ?_
          refine ab_iload_n C 3 rfl rfl dX8_sheet_43 ?_
          have m24 := a_mn24 x3
          refine ab_cI (st := [.ref (D0.2.2.2.2.2), .int x1, .ref 18]) C lm_X8_277 (X5_init_ok (xl X) (x1 := x2) (x2 := x3) (by omega) rfl eg5) [.int x2, .int x3] rfl (by omega) rfl rfl (by decide) ⟨by omega, by omega⟩ (Nat.le_of_ble_eq_true rfl) dX8_sheet_44 (fun v g6 nxg6 pg6 => ?_)
          obtain ⟨rfl, hng6, hBN, oN⟩ := pg6
          have oN : ∀ q, q < D0.2.2.2.2.2 → g6 q = h q := fun q u => (oN q u).trans (og5 q (by omega))
          have hBxo : X8_at g6 := (oN 4 (by omega)).trans hBxo
          have hFr : ∀ q, q < 66 → q ≠ 17 → q ≠ 18 → g6 q = h q := fun q u0 u1 u2 => (oN q (by omega)).trans (hFr q u0 u1 u2)
          obtain rfl : nxg6 = D0.2.2.2.2.2 + 2 := hng6
          refine aV.widen (k' := 2) (n' := 26) (by omega) (by omega) ?_
          show aV X G 4 47 [(0, .ref 4), (1, .int x1), (2, .int x2), (3, .int x3)] [.ref (D0.2.2.2.2.2), .int x1, .ref 18] g6 (D0.2.2.2.2.2 + 2) 2 26
          rcases Classical.em (x1 < 0 ∨ 4 ≤ x1.toNatClampNeg) with c8 | c8
          · replace hF := (if_pos c8).symm.trans hF
            cases hF
          replace hF := (if_neg c8).symm.trans hF
          refine ab_aastore4 C ((oN 18 (by omega)).trans hD.2.1) hBN.1 c8 dX8_sheet_47 (fun g7 eg7 og7 => ?_)
          have oZ : ∀ q, q < D0.2.2.2.2.2 → q ≠ 18 → g7 q = h q := fun q u w => (og7 q w).trans (oN q u)
          have hBxo : X8_at g7 := (og7 4 (by omega)).trans hBxo
          have hD : xD g7 (dNewS D0 x1.toNatClampNeg (a_max 0 (a_min x3 24)).toNatClampNeg (sI zR 0 x2)) := xD_newS hD (vp_lt c8) (X5_off hBN (fun q i1 i2 => og7 q (by omega))) eg7 oZ
          have hFr : ∀ q, q < 66 → q ≠ 17 → q ≠ 18 → g7 q = h q := fun q u0 u1 u2 => (og7 q (by omega)).trans (hFr q u0 u1 u2)
          show aV X G 4 48 [(0, .ref 4), (1, .int x1), (2, .int x2), (3, .int x3)] [] g7 ((dNewS D0 x1.toNatClampNeg (a_max 0 (a_min x3 24)).toNatClampNeg (sI zR 0 x2)).2.2.2.2.2) 2 26
          refine ab_iload_n C 3 rfl rfl dX8_sheet_48 ?_
          obtain rfl := Option.some.inj hF
          refine aV.widen (k' := 2) (n' := 26) (by omega) (by omega) ?_
          exact ab_iret C R0 rfl dX8_sheet_49 ⟨rfl, rfl, hD, hFr⟩
        · replace hF := (if_neg c4).symm.trans hF
          refine ab_bipush (v := (-14 : Int32)) C dX8_sheet_30 (by decide) ?_
          obtain rfl := Option.some.inj hF
          refine aV.widen (k' := 2) (n' := 26) (by omega) (by omega) ?_
          exact ab_iret C R0 rfl dX8_sheet_32 ⟨rfl, rfl, hD, hFr⟩
      · replace hF := (if_neg c3).symm.trans hF
        refine ab_iconst (v := (-1 : Int32)) C dX8_sheet_24 (by decide) ?_
        obtain rfl := Option.some.inj hF
        refine aV.widen (k' := 2) (n' := 26) (by omega) (by omega) ?_
        exact ab_iret C R0 rfl dX8_sheet_25 ⟨rfl, rfl, hD, hFr⟩
theorem dX8_drop_0 : decode cX8_drop 0 = .ok (.iload_n 1, 1) := by decide +kernel
theorem dX8_drop_1 : decode cX8_drop 1 = .ok (.iconst 0, 1) := by decide +kernel
theorem dX8_drop_2 : decode cX8_drop 2 = .ok (.iconst 3, 1) := by decide +kernel
theorem dX8_drop_3 : decode cX8_drop 3 = .ok (.invokestatic 74, 3) := by decide +kernel
theorem dX8_drop_6 : decode cX8_drop 6 = .ok (.ifCond .ne 5, 3) := by decide +kernel
theorem dX8_drop_9 : decode cX8_drop 9 = .ok (.iconst (-1), 1) := by decide +kernel
theorem dX8_drop_10 : decode cX8_drop 10 = .ok (.ireturn, 1) := by decide +kernel
theorem dX8_drop_11 : decode cX8_drop 11 = .ok (.aload_n 0, 1) := by decide +kernel
theorem dX8_drop_12 : decode cX8_drop 12 = .ok (.getfield 36, 3) := by decide +kernel
theorem dX8_drop_15 : decode cX8_drop 15 = .ok (.iload_n 1, 1) := by decide +kernel
theorem dX8_drop_16 : decode cX8_drop 16 = .ok (.aaload, 1) := by decide +kernel
theorem dX8_drop_17 : decode cX8_drop 17 = .ok (.astore_n 2, 1) := by decide +kernel
theorem dX8_drop_18 : decode cX8_drop 18 = .ok (.aload_n 2, 1) := by decide +kernel
theorem dX8_drop_19 : decode cX8_drop 19 = .ok (.ifnonnull 6, 3) := by decide +kernel
theorem dX8_drop_22 : decode cX8_drop 22 = .ok (.bipush (-11), 2) := by decide +kernel
theorem dX8_drop_24 : decode cX8_drop 24 = .ok (.ireturn, 1) := by decide +kernel
theorem dX8_drop_25 : decode cX8_drop 25 = .ok (.aload_n 0, 1) := by decide +kernel
theorem dX8_drop_26 : decode cX8_drop 26 = .ok (.getfield 36, 3) := by decide +kernel
theorem dX8_drop_29 : decode cX8_drop 29 = .ok (.iload_n 1, 1) := by decide +kernel
theorem dX8_drop_30 : decode cX8_drop 30 = .ok (.aconst_null, 1) := by decide +kernel
theorem dX8_drop_31 : decode cX8_drop 31 = .ok (.aastore, 1) := by decide +kernel
theorem dX8_drop_32 : decode cX8_drop 32 = .ok (.aload_n 2, 1) := by decide +kernel
theorem dX8_drop_33 : decode cX8_drop 33 = .ok (.getfield 280, 3) := by decide +kernel
theorem dX8_drop_36 : decode cX8_drop 36 = .ok (.arraylength, 1) := by decide +kernel
theorem dX8_drop_37 : decode cX8_drop 37 = .ok (.ireturn, 1) := by decide +kernel
def X8_drop (D0 : DynT) (x1 : Int32) : Option (Int32 × DynT) :=
  if (X8_within x1 (0 : Int32) (3 : Int32)) = 0 then
    some ((-1 : Int32), D0)
  else
    (rdQ D0.2.2.1 4 x1).bind fun o2 =>
    aQs o2
      (some ((-11 : Int32), D0))
      fun q3 =>
      if x1 < 0 ∨ 4 ≤ x1.toNatClampNeg then none else
      some ((Int32.ofNat (D0.2.2.2.1 (26 + x1.toNatClampNeg))), (dNo D0 x1.toNatClampNeg))
set_option maxRecDepth 100000 in
set_option maxHeartbeats 4000000 in
theorem X8_drop_ok (l : Launch) {h : aH} {D0 : DynT} {x1 : Int32} (hBxo : X8_at h) (hD : xD h D0) {r : Int32 × DynT} (hF : X8_drop D0 x1 = some r) : aOk l 1 0 0 yX8_drop cX8_drop 3 (some .int) [.ref 4, .int x1] h D0.2.2.2.2.2 (fun v1 h1 nx1 => v1 = some (.int r.1) ∧ nx1 = r.2.2.2.2.2.2 ∧ xD h1 r.2 ∧ (∀ q, q < 66 → q ≠ 17 → q ≠ 18 → h1 q = h q)) := by
  refine aOk.of (by decide +kernel) (Nat.le_of_ble_eq_true rfl) (fun X G hX C R0 _ => ?_)
  subst hX
  show aV X G 3 0 [(0, .ref 4), (1, .int x1)] [] h (D0.2.2.2.2.2) 0 0
  have hFr : ∀ q, q < 66 → q ≠ 17 → q ≠ 18 → h q = h q := fun _ _ _ _ => rfl
  rw [X8_drop] at hF
  refine ab_iload_n C 1 rfl rfl dX8_drop_0 ?_
  refine ab_iconst (v := (0 : Int32)) C dX8_drop_1 (by decide) ?_
  refine ab_iconst (v := (3 : Int32)) C dX8_drop_2 (by decide) ?_
  refine ab_cSR (v := .int (X8_within x1 (0 : Int32) (3 : Int32))) (st := []) C lm_X8_74 (X8_within_ok (xl X) (r := (X8_within x1 (0 : Int32) (3 : Int32))) rfl) rfl rfl (by decide) ⟨by decide, by decide⟩ (Nat.le_of_ble_eq_true rfl) dX8_drop_3 ?_
  refine ab_if_ne C 11 dX8_drop_6 (by decide) (fun c1 => ?_) (fun c1 => ?_)
  · replace hF := (if_neg c1).symm.trans hF
    refine ab_aload_n C 0 rfl rfl dX8_drop_11 ?_
    refine ab_g8 (v := .ref 18) C lf_X8_36 hBxo rfl dX8_drop_12 ?_
    refine ab_iload_n C 1 rfl rfl dX8_drop_15 ?_
    obtain ⟨o2, hxo2, hF⟩ := Option.bind_eq_some_iff.mp hF
    obtain ⟨hio2, hvo2⟩ := rdQ_s hxo2
    refine ab_aaload4 C hD.2.1 hio2 dX8_drop_16 ?_
    rw [hvo2]
    rcases o2 with _ | q3
    · replace hF := aQs_n hF
      show aV X G 3 17 [(0, .ref 4), (1, .int x1)] [.null] h (D0.2.2.2.2.2) 0 0
      refine ab_astore_nN (lv' := [(2, .null), (0, .ref 4), (1, .int x1)]) C dX8_drop_17 rfl (by decide) rfl ?_
      refine ab_aload_nN C 0 rfl rfl dX8_drop_18 ?_
      refine ab_ifnonnullN C dX8_drop_19 ?_
      refine ab_bipush (v := (-11 : Int32)) C dX8_drop_22 (by decide) ?_
      obtain rfl := Option.some.inj hF
      exact ab_iret C R0 rfl dX8_drop_24 ⟨rfl, rfl, hD, hFr⟩
    · replace hF := aQs_s hF
      show aV X G 3 17 [(0, .ref 4), (1, .int x1)] [.ref q3] h (D0.2.2.2.2.2) 0 0
      have hdq3k : x1.toNatClampNeg < 4 := vp_lt hio2
      have hdq3q : D0.2.2.1 x1.toNatClampNeg = some q3 := hvo2
      obtain ⟨hdq3l, hdq3u, hBdq3⟩ := xD_getS hD hdq3k hdq3q
      refine ab_astore_n (lv' := [(2, .ref q3), (0, .ref 4), (1, .int x1)]) C dX8_drop_17 rfl (by decide) rfl ?_
      refine ab_aload_n C 0 rfl rfl dX8_drop_18 ?_
      refine ab_ifnonnull C 25 dX8_drop_19 (by decide) ?_
      refine ab_aload_n C 1 rfl rfl dX8_drop_25 ?_
      refine ab_g8 (v := .ref 18) C lf_X8_36 hBxo rfl dX8_drop_26 ?_
      refine ab_iload_n C 2 rfl rfl dX8_drop_29 ?_
      refine ab_null C dX8_drop_30 ?_
      rcases Classical.em (x1 < 0 ∨ 4 ≤ x1.toNatClampNeg) with c5 | c5
      · replace hF := (if_pos c5).symm.trans hF
        cases hF
      replace hF := (if_neg c5).symm.trans hF
      refine ab_aastoreN4 C hD.2.1 c5 dX8_drop_31 (fun g4 eg4 og4 => ?_)
      have hBxo : X8_at g4 := (og4 4 (by omega)).trans hBxo
      have hBdq3 : X5_at g4 q3 (D0.2.2.2.1 (26 + x1.toNatClampNeg)) (D0.2.2.2.2.1 (26 + x1.toNatClampNeg)) := X5_off hBdq3 (fun q i1 i2 => og4 q (by omega))
      have hD : xD g4 (dNo D0 x1.toNatClampNeg) := xD_no hD (vp_lt c5) eg4 (fun q u => og4 q u)
      have hFr : ∀ q, q < 66 → q ≠ 17 → q ≠ 18 → g4 q = h q := fun q u0 u1 u2 => (og4 q (by omega)).trans (hFr q u0 u1 u2)
      refine ab_aload_n C 0 rfl rfl dX8_drop_32 ?_
      refine ab_g5 (v := .ref (q3 + 1)) C lf_X8_280 hBdq3.1 rfl dX8_drop_33 ?_
      refine ab_alen1 C (X5_r1 hBdq3) dX8_drop_36 ?_
      obtain rfl := Option.some.inj hF
      exact ab_iret C R0 rfl dX8_drop_37 ⟨rfl, rfl, hD, hFr⟩
  · replace hF := (if_pos c1).symm.trans hF
    refine ab_iconst (v := (-1 : Int32)) C dX8_drop_9 (by decide) ?_
    obtain rfl := Option.some.inj hF
    exact ab_iret C R0 rfl dX8_drop_10 ⟨rfl, rfl, hD, hFr⟩
theorem dX8_item_0 : decode cX8_item 0 = .ok (.iload_n 1, 1) := by decide +kernel
theorem dX8_item_1 : decode cX8_item 1 = .ok (.iconst 0, 1) := by decide +kernel
theorem dX8_item_2 : decode cX8_item 2 = .ok (.iconst 3, 1) := by decide +kernel
theorem dX8_item_3 : decode cX8_item 3 = .ok (.invokestatic 74, 3) := by decide +kernel
theorem dX8_item_6 : decode cX8_item 6 = .ok (.ifCond .eq 12, 3) := by decide +kernel
theorem dX8_item_9 : decode cX8_item 9 = .ok (.iload_n 2, 1) := by decide +kernel
theorem dX8_item_10 : decode cX8_item 10 = .ok (.iconst 0, 1) := by decide +kernel
theorem dX8_item_11 : decode cX8_item 11 = .ok (.iconst 3, 1) := by decide +kernel
theorem dX8_item_12 : decode cX8_item 12 = .ok (.invokestatic 74, 3) := by decide +kernel
theorem dX8_item_15 : decode cX8_item 15 = .ok (.ifCond .ne 7, 3) := by decide +kernel
theorem dX8_item_18 : decode cX8_item 18 = .ok (.ldc2_w 197, 3) := by decide +kernel
theorem dX8_item_21 : decode cX8_item 21 = .ok (.lreturn, 1) := by decide +kernel
theorem dX8_item_22 : decode cX8_item 22 = .ok (.aload_n 0, 1) := by decide +kernel
theorem dX8_item_23 : decode cX8_item 23 = .ok (.getfield 36, 3) := by decide +kernel
theorem dX8_item_26 : decode cX8_item 26 = .ok (.iload_n 1, 1) := by decide +kernel
theorem dX8_item_27 : decode cX8_item 27 = .ok (.aaload, 1) := by decide +kernel
theorem dX8_item_28 : decode cX8_item 28 = .ok (.astore 6, 2) := by decide +kernel
theorem dX8_item_30 : decode cX8_item 30 = .ok (.aload 6, 2) := by decide +kernel
theorem dX8_item_32 : decode cX8_item 32 = .ok (.ifnonnull 7, 3) := by decide +kernel
theorem dX8_item_35 : decode cX8_item 35 = .ok (.ldc2_w 283, 3) := by decide +kernel
theorem dX8_item_38 : decode cX8_item 38 = .ok (.lreturn, 1) := by decide +kernel
theorem dX8_item_39 : decode cX8_item 39 = .ok (.aload 6, 2) := by decide +kernel
theorem dX8_item_41 : decode cX8_item 41 = .ok (.getfield 285, 3) := by decide +kernel
theorem dX8_item_44 : decode cX8_item 44 = .ok (.iload_n 2, 1) := by decide +kernel
theorem dX8_item_45 : decode cX8_item 45 = .ok (.if_icmp .eq 7, 3) := by decide +kernel
theorem dX8_item_48 : decode cX8_item 48 = .ok (.ldc2_w 288, 3) := by decide +kernel
theorem dX8_item_51 : decode cX8_item 51 = .ok (.lreturn, 1) := by decide +kernel
theorem dX8_item_52 : decode cX8_item 52 = .ok (.aload 6, 2) := by decide +kernel
theorem dX8_item_54 : decode cX8_item 54 = .ok (.iload_n 3, 1) := by decide +kernel
theorem dX8_item_55 : decode cX8_item 55 = .ok (.iconst 1, 1) := by decide +kernel
theorem dX8_item_56 : decode cX8_item 56 = .ok (.invokevirtual 290, 3) := by decide +kernel
theorem dX8_item_59 : decode cX8_item 59 = .ok (.ifCond .eq 14, 3) := by decide +kernel
theorem dX8_item_62 : decode cX8_item 62 = .ok (.aload 6, 2) := by decide +kernel
theorem dX8_item_64 : decode cX8_item 64 = .ok (.iload_n 3, 1) := by decide +kernel
theorem dX8_item_65 : decode cX8_item 65 = .ok (.lload 4, 2) := by decide +kernel
theorem dX8_item_67 : decode cX8_item 67 = .ok (.invokevirtual 293, 3) := by decide +kernel
theorem dX8_item_70 : decode cX8_item 70 = .ok (.goto 6, 3) := by decide +kernel
theorem dX8_item_73 : decode cX8_item 73 = .ok (.ldc2_w 297, 3) := by decide +kernel
theorem dX8_item_76 : decode cX8_item 76 = .ok (.lreturn, 1) := by decide +kernel
def X8_item (D0 : DynT) (x1 : Int32) (x2 : Int32) (x3 : Int32) (y4 : Int64) : Option (Int64 × DynT) :=
  if (X8_within x1 (0 : Int32) (3 : Int32)) = 0 then
    some ((-1 : Int64), D0)
  else
    if (X8_within x2 (0 : Int32) (3 : Int32)) = 0 then
      some ((-1 : Int64), D0)
    else
      (rdQ D0.2.2.1 4 x1).bind fun o3 =>
      aQs o3
        (some ((-11 : Int64), D0))
        fun q4 =>
        if ((D0.2.2.2.2.1 (26 + x1.toNatClampNeg)).1 0) = x2 then
          if (X5_reaches (D0.2.2.2.1 (26 + x1.toNatClampNeg)) (D0.2.2.2.2.1 (26 + x1.toNatClampNeg)) x3 (1 : Int32)) = 0 then
            some ((-13 : Int64), D0)
          else
            (X5_put (D0.2.2.2.1 (26 + x1.toNatClampNeg)) (D0.2.2.2.2.1 (26 + x1.toNatClampNeg)) x3 y4).bind fun v7 =>
            some (v7.1, (dLV D0 (26 + x1.toNatClampNeg) v7.2))
        else
          some ((-12 : Int64), D0)
set_option maxRecDepth 100000 in
set_option maxHeartbeats 4000000 in
theorem X8_item_ok (l : Launch) {h : aH} {D0 : DynT} {x1 : Int32} {x2 : Int32} {x3 : Int32} {y4 : Int64} (hBxo : X8_at h) (hD : xD h D0) {r : Int64 × DynT} (hF : X8_item D0 x1 x2 x3 y4 = some r) : aOk l 1 0 0 yX8_item cX8_item 7 (some .long) [.ref 4, .int x1, .int x2, .int x3, .long y4] h D0.2.2.2.2.2 (fun v1 h1 nx1 => v1 = some (.long r.1) ∧ nx1 = r.2.2.2.2.2.2 ∧ xD h1 r.2 ∧ (∀ q, q < 66 → q ≠ 17 → q ≠ 18 → h1 q = h q)) := by
  refine aOk.of (by decide +kernel) (Nat.le_of_ble_eq_true rfl) (fun X G hX C R0 _ => ?_)
  subst hX
  show aV X G 7 0 [(0, .ref 4), (1, .int x1), (2, .int x2), (3, .int x3), (4, .long y4)] [] h (D0.2.2.2.2.2) 0 0
  have hFr : ∀ q, q < 66 → q ≠ 17 → q ≠ 18 → h q = h q := fun _ _ _ _ => rfl
  rw [X8_item] at hF
  refine ab_iload_n C 1 rfl rfl dX8_item_0 ?_
  refine ab_iconst (v := (0 : Int32)) C dX8_item_1 (by decide) ?_
  refine ab_iconst (v := (3 : Int32)) C dX8_item_2 (by decide) ?_
  refine ab_cSR (v := .int (X8_within x1 (0 : Int32) (3 : Int32))) (st := []) C lm_X8_74 (X8_within_ok (xl X) (r := (X8_within x1 (0 : Int32) (3 : Int32))) rfl) rfl rfl (by decide) ⟨by decide, by decide⟩ (Nat.le_of_ble_eq_true rfl) dX8_item_3 ?_
  refine ab_if_eq C 18 dX8_item_6 (by decide) (fun c1 => ?_) (fun c1 => ?_)
  · replace hF := (if_pos c1).symm.trans hF
    refine ab_ldc2 (v := (-1 : Int64)) C dX8_item_18 lq_X8_197 ?_
    obtain rfl := Option.some.inj hF
    exact ab_lret C R0 dX8_item_21 ⟨rfl, rfl, hD, hFr⟩
  · replace hF := (if_neg c1).symm.trans hF
    refine ab_iload_n C 2 rfl rfl dX8_item_9 ?_
    refine ab_iconst (v := (0 : Int32)) C dX8_item_10 (by decide) ?_
    refine ab_iconst (v := (3 : Int32)) C dX8_item_11 (by decide) ?_
    refine ab_cSR (v := .int (X8_within x2 (0 : Int32) (3 : Int32))) (st := []) C lm_X8_74 (X8_within_ok (xl X) (r := (X8_within x2 (0 : Int32) (3 : Int32))) rfl) rfl rfl (by decide) ⟨by decide, by decide⟩ (Nat.le_of_ble_eq_true rfl) dX8_item_12 ?_
    refine ab_if_ne C 22 dX8_item_15 (by decide) (fun c2 => ?_) (fun c2 => ?_)
    · replace hF := (if_neg c2).symm.trans hF
      refine ab_aload_n C 0 rfl rfl dX8_item_22 ?_
      refine ab_g8 (v := .ref 18) C lf_X8_36 hBxo rfl dX8_item_23 ?_
      refine ab_iload_n C 1 rfl rfl dX8_item_26 ?_
      obtain ⟨o3, hxo3, hF⟩ := Option.bind_eq_some_iff.mp hF
      obtain ⟨hio3, hvo3⟩ := rdQ_s hxo3
      refine ab_aaload4 C hD.2.1 hio3 dX8_item_27 ?_
      rw [hvo3]
      rcases o3 with _ | q4
      · replace hF := aQs_n hF
        show aV X G 7 28 [(0, .ref 4), (1, .int x1), (2, .int x2), (3, .int x3), (4, .long y4)] [.null] h (D0.2.2.2.2.2) 0 0
        refine ab_astoreN (lv' := [(6, .null), (0, .ref 4), (1, .int x1), (2, .int x2), (3, .int x3), (4, .long y4)]) C dX8_item_28 (by decide) rfl ?_
        refine ab_aloadN C 0 rfl dX8_item_30 ?_
        refine ab_ifnonnullN C dX8_item_32 ?_
        refine ab_ldc2 (v := (-11 : Int64)) C dX8_item_35 lq_X8_283 ?_
        obtain rfl := Option.some.inj hF
        exact ab_lret C R0 dX8_item_38 ⟨rfl, rfl, hD, hFr⟩
      · replace hF := aQs_s hF
        show aV X G 7 28 [(0, .ref 4), (1, .int x1), (2, .int x2), (3, .int x3), (4, .long y4)] [.ref q4] h (D0.2.2.2.2.2) 0 0
        have hdq4k : x1.toNatClampNeg < 4 := vp_lt hio3
        have hdq4q : D0.2.2.1 x1.toNatClampNeg = some q4 := hvo3
        obtain ⟨hdq4l, hdq4u, hBdq4⟩ := xD_getS hD hdq4k hdq4q
        refine ab_astore (lv' := [(6, .ref q4), (0, .ref 4), (1, .int x1), (2, .int x2), (3, .int x3), (4, .long y4)]) C dX8_item_28 (by decide) rfl ?_
        refine ab_aload C 0 rfl dX8_item_30 ?_
        refine ab_ifnonnull C 39 dX8_item_32 (by decide) ?_
        refine ab_aload C 0 rfl dX8_item_39 ?_
        refine ab_g5 (v := .int ((D0.2.2.2.2.1 (26 + x1.toNatClampNeg)).1 0)) C lf_X8_285 hBdq4.1 rfl dX8_item_41 ?_
        refine ab_iload_n C 3 rfl rfl dX8_item_44 ?_
        refine ab_icmp_eq C 52 dX8_item_45 (by decide) (fun c5 => ?_) (fun c5 => ?_)
        · replace hF := (if_pos c5).symm.trans hF
          refine ab_aload C 0 rfl dX8_item_52 ?_
          refine ab_iload_n C 4 rfl rfl dX8_item_54 ?_
          refine ab_iconst (v := (1 : Int32)) C dX8_item_55 (by decide) ?_
          refine ab_cVR (v := .int (X5_reaches (D0.2.2.2.1 (26 + x1.toNatClampNeg)) (D0.2.2.2.2.1 (26 + x1.toNatClampNeg)) x3 (1 : Int32))) (st := []) C lm_X8_290 (X5_reaches_ok (xl X) hBdq4 (r := (X5_reaches (D0.2.2.2.1 (26 + x1.toNatClampNeg)) (D0.2.2.2.2.1 (26 + x1.toNatClampNeg)) x3 (1 : Int32))) rfl) [.int x3, .int (1 : Int32)] rfl hBdq4.1 rfl rfl rfl (by decide) ⟨by decide, by decide⟩ (Nat.le_of_ble_eq_true rfl) dX8_item_56 ?_
          refine ab_if_eq C 73 dX8_item_59 (by decide) (fun c6 => ?_) (fun c6 => ?_)
          · replace hF := (if_pos c6).symm.trans hF
            refine ab_ldc2 (v := (-13 : Int64)) C dX8_item_73 lq_X8_297 ?_
            obtain rfl := Option.some.inj hF
            exact ab_lret C R0 dX8_item_76 ⟨rfl, rfl, hD, hFr⟩
          · replace hF := (if_neg c6).symm.trans hF
            refine ab_aload C 0 rfl dX8_item_62 ?_
            refine ab_iload_n C 4 rfl rfl dX8_item_64 ?_
            refine ab_lload C 5 rfl dX8_item_65 ?_
            obtain ⟨v7, hxv7, hF⟩ := Option.bind_eq_some_iff.mp hF
            refine ab_cVM (v := .long v7.1) (st := []) C lm_X8_293 (X5_put_ok (xl X) hBdq4 (r := v7) hxv7) [.int x3, .long y4] rfl hBdq4.1 rfl rfl rfl (by decide) ⟨by decide, by decide⟩ (Nat.le_of_ble_eq_true rfl) dX8_item_67 (fun g8 pg8 => ?_)
            obtain ⟨k0, Og8⟩ := pg8
            have hBdq4 : X5_at g8 q4 (D0.2.2.2.1 (26 + x1.toNatClampNeg)) v7.2 := k0
            have hBxo : X8_at g8 := (Og8 4 (by omega)).trans hBxo
            have hD : xD g8 (dLV D0 (26 + x1.toNatClampNeg) v7.2) := xD_putS hD hdq4k hdq4q hBdq4 (fun q i1 => Og8 q (by omega))
            have hFr : ∀ q, q < 66 → q ≠ 17 → q ≠ 18 → g8 q = h q := fun q u0 u1 u2 => (Og8 q (by omega)).trans (hFr q u0 u1 u2)
            show aV X G 7 70 [(6, .ref q4), (0, .ref 4), (1, .int x1), (2, .int x2), (3, .int x3), (4, .long y4)] [.long v7.1] g8 ((dLV D0 (26 + x1.toNatClampNeg) v7.2).2.2.2.2.2) 0 0
            refine ab_goto C 76 dX8_item_70 (by decide) ?_
            obtain rfl := Option.some.inj hF
            exact ab_lret C R0 dX8_item_76 ⟨rfl, rfl, hD, hFr⟩
        · replace hF := (if_neg c5).symm.trans hF
          refine ab_ldc2 (v := (-12 : Int64)) C dX8_item_48 lq_X8_288 ?_
          obtain rfl := Option.some.inj hF
          exact ab_lret C R0 dX8_item_51 ⟨rfl, rfl, hD, hFr⟩
    · replace hF := (if_pos c2).symm.trans hF
      refine ab_ldc2 (v := (-1 : Int64)) C dX8_item_18 lq_X8_197 ?_
      obtain rfl := Option.some.inj hF
      exact ab_lret C R0 dX8_item_21 ⟨rfl, rfl, hD, hFr⟩
theorem dX8_copy_0 : decode cX8_copy 0 = .ok (.iload_n 1, 1) := by decide +kernel
theorem dX8_copy_1 : decode cX8_copy 1 = .ok (.iconst 0, 1) := by decide +kernel
theorem dX8_copy_2 : decode cX8_copy 2 = .ok (.iconst 3, 1) := by decide +kernel
theorem dX8_copy_3 : decode cX8_copy 3 = .ok (.invokestatic 74, 3) := by decide +kernel
theorem dX8_copy_6 : decode cX8_copy 6 = .ok (.ifCond .eq 12, 3) := by decide +kernel
theorem dX8_copy_9 : decode cX8_copy 9 = .ok (.iload_n 3, 1) := by decide +kernel
theorem dX8_copy_10 : decode cX8_copy 10 = .ok (.iconst 0, 1) := by decide +kernel
theorem dX8_copy_11 : decode cX8_copy 11 = .ok (.iconst 3, 1) := by decide +kernel
theorem dX8_copy_12 : decode cX8_copy 12 = .ok (.invokestatic 74, 3) := by decide +kernel
theorem dX8_copy_15 : decode cX8_copy 15 = .ok (.ifCond .ne 5, 3) := by decide +kernel
theorem dX8_copy_18 : decode cX8_copy 18 = .ok (.iconst (-1), 1) := by decide +kernel
theorem dX8_copy_19 : decode cX8_copy 19 = .ok (.ireturn, 1) := by decide +kernel
theorem dX8_copy_20 : decode cX8_copy 20 = .ok (.aload_n 0, 1) := by decide +kernel
theorem dX8_copy_21 : decode cX8_copy 21 = .ok (.getfield 36, 3) := by decide +kernel
theorem dX8_copy_24 : decode cX8_copy 24 = .ok (.iload_n 1, 1) := by decide +kernel
theorem dX8_copy_25 : decode cX8_copy 25 = .ok (.aaload, 1) := by decide +kernel
theorem dX8_copy_26 : decode cX8_copy 26 = .ok (.astore 6, 2) := by decide +kernel
theorem dX8_copy_28 : decode cX8_copy 28 = .ok (.aload_n 0, 1) := by decide +kernel
theorem dX8_copy_29 : decode cX8_copy 29 = .ok (.getfield 36, 3) := by decide +kernel
theorem dX8_copy_32 : decode cX8_copy 32 = .ok (.iload_n 3, 1) := by decide +kernel
theorem dX8_copy_33 : decode cX8_copy 33 = .ok (.aaload, 1) := by decide +kernel
theorem dX8_copy_34 : decode cX8_copy 34 = .ok (.astore 7, 2) := by decide +kernel
theorem dX8_copy_36 : decode cX8_copy 36 = .ok (.aload 6, 2) := by decide +kernel
theorem dX8_copy_38 : decode cX8_copy 38 = .ok (.ifnull 8, 3) := by decide +kernel
theorem dX8_copy_41 : decode cX8_copy 41 = .ok (.aload 7, 2) := by decide +kernel
theorem dX8_copy_43 : decode cX8_copy 43 = .ok (.ifnonnull 6, 3) := by decide +kernel
theorem dX8_copy_46 : decode cX8_copy 46 = .ok (.bipush (-11), 2) := by decide +kernel
theorem dX8_copy_48 : decode cX8_copy 48 = .ok (.ireturn, 1) := by decide +kernel
theorem dX8_copy_49 : decode cX8_copy 49 = .ok (.aload 6, 2) := by decide +kernel
theorem dX8_copy_51 : decode cX8_copy 51 = .ok (.getfield 285, 3) := by decide +kernel
theorem dX8_copy_54 : decode cX8_copy 54 = .ok (.aload 7, 2) := by decide +kernel
theorem dX8_copy_56 : decode cX8_copy 56 = .ok (.getfield 285, 3) := by decide +kernel
theorem dX8_copy_59 : decode cX8_copy 59 = .ok (.if_icmp .eq 6, 3) := by decide +kernel
theorem dX8_copy_62 : decode cX8_copy 62 = .ok (.bipush (-12), 2) := by decide +kernel
theorem dX8_copy_64 : decode cX8_copy 64 = .ok (.ireturn, 1) := by decide +kernel
theorem dX8_copy_65 : decode cX8_copy 65 = .ok (.aload 6, 2) := by decide +kernel
theorem dX8_copy_67 : decode cX8_copy 67 = .ok (.iload_n 2, 1) := by decide +kernel
theorem dX8_copy_68 : decode cX8_copy 68 = .ok (.iload 5, 2) := by decide +kernel
theorem dX8_copy_70 : decode cX8_copy 70 = .ok (.invokevirtual 290, 3) := by decide +kernel
theorem dX8_copy_73 : decode cX8_copy 73 = .ok (.ifCond .eq 15, 3) := by decide +kernel
theorem dX8_copy_76 : decode cX8_copy 76 = .ok (.aload 7, 2) := by decide +kernel
theorem dX8_copy_78 : decode cX8_copy 78 = .ok (.iload 4, 2) := by decide +kernel
theorem dX8_copy_80 : decode cX8_copy 80 = .ok (.iload 5, 2) := by decide +kernel
theorem dX8_copy_82 : decode cX8_copy 82 = .ok (.invokevirtual 290, 3) := by decide +kernel
theorem dX8_copy_85 : decode cX8_copy 85 = .ok (.ifCond .ne 6, 3) := by decide +kernel
theorem dX8_copy_88 : decode cX8_copy 88 = .ok (.bipush (-13), 2) := by decide +kernel
theorem dX8_copy_90 : decode cX8_copy 90 = .ok (.ireturn, 1) := by decide +kernel
theorem dX8_copy_91 : decode cX8_copy 91 = .ok (.aload 6, 2) := by decide +kernel
theorem dX8_copy_93 : decode cX8_copy 93 = .ok (.getfield 280, 3) := by decide +kernel
theorem dX8_copy_96 : decode cX8_copy 96 = .ok (.iload_n 2, 1) := by decide +kernel
theorem dX8_copy_97 : decode cX8_copy 97 = .ok (.aload 7, 2) := by decide +kernel
theorem dX8_copy_99 : decode cX8_copy 99 = .ok (.getfield 280, 3) := by decide +kernel
theorem dX8_copy_102 : decode cX8_copy 102 = .ok (.iload 4, 2) := by decide +kernel
theorem dX8_copy_104 : decode cX8_copy 104 = .ok (.iload 5, 2) := by decide +kernel
theorem dX8_copy_106 : decode cX8_copy 106 = .ok (.invokestatic 299, 3) := by decide +kernel
theorem dX8_copy_109 : decode cX8_copy 109 = .ok (.iload 5, 2) := by decide +kernel
theorem dX8_copy_111 : decode cX8_copy 111 = .ok (.ireturn, 1) := by decide +kernel
def X8_copy (D0 : DynT) (x1 : Int32) (x2 : Int32) (x3 : Int32) (x4 : Int32) (x5 : Int32) : Option (Int32 × DynT) :=
  if (X8_within x1 (0 : Int32) (3 : Int32)) = 0 then
    some ((-1 : Int32), D0)
  else
    if (X8_within x3 (0 : Int32) (3 : Int32)) = 0 then
      some ((-1 : Int32), D0)
    else
      (rdQ D0.2.2.1 4 x1).bind fun o3 =>
      aQs o3
        ((rdQ D0.2.2.1 4 x3).bind fun o5 =>
         aQs o5
           (some ((-11 : Int32), D0))
           fun q6 =>
           some ((-11 : Int32), D0))
        fun q4 =>
        (rdQ D0.2.2.1 4 x3).bind fun o7 =>
        aQs o7
          (some ((-11 : Int32), D0))
          fun q8 =>
          if ((D0.2.2.2.2.1 (26 + x1.toNatClampNeg)).1 0) = ((D0.2.2.2.2.1 (26 + x3.toNatClampNeg)).1 0) then
            if (X5_reaches (D0.2.2.2.1 (26 + x1.toNatClampNeg)) (D0.2.2.2.2.1 (26 + x1.toNatClampNeg)) x2 x5) = 0 then
              some ((-13 : Int32), D0)
            else
              if (X5_reaches (D0.2.2.2.1 (26 + x3.toNatClampNeg)) (D0.2.2.2.2.1 (26 + x3.toNatClampNeg)) x4 x5) = 0 then
                some ((-13 : Int32), D0)
              else
                if ¬ x2 < 0 ∧ ¬ x4 < 0 ∧ ¬ x5 < 0 ∧ x2.toNatClampNeg + x5.toNatClampNeg ≤ (D0.2.2.2.1 (26 + x1.toNatClampNeg)) ∧ x4.toNatClampNeg + x5.toNatClampNeg ≤ (D0.2.2.2.1 (26 + x3.toNatClampNeg)) then
                  some (x5, (dLV D0 (26 + x3.toNatClampNeg) (sL (D0.2.2.2.2.1 (26 + x3.toNatClampNeg)) 1 (va_cpy ((D0.2.2.2.2.1 (26 + x1.toNatClampNeg)).2.2 1) ((D0.2.2.2.2.1 (26 + x3.toNatClampNeg)).2.2 1) x2.toNatClampNeg x4.toNatClampNeg x5.toNatClampNeg))))
                else none
          else
            some ((-12 : Int32), D0)
set_option maxRecDepth 100000 in
set_option maxHeartbeats 4000000 in
theorem X8_copy_ok (l : Launch) {h : aH} {D0 : DynT} {x1 : Int32} {x2 : Int32} {x3 : Int32} {x4 : Int32} {x5 : Int32} (hBxo : X8_at h) (hD : xD h D0) {r : Int32 × DynT} (hF : X8_copy D0 x1 x2 x3 x4 x5 = some r) : aOk l 1 0 0 yX8_copy cX8_copy 8 (some .int) [.ref 4, .int x1, .int x2, .int x3, .int x4, .int x5] h D0.2.2.2.2.2 (fun v1 h1 nx1 => v1 = some (.int r.1) ∧ nx1 = r.2.2.2.2.2.2 ∧ xD h1 r.2 ∧ (∀ q, q < 66 → q ≠ 17 → q ≠ 18 → h1 q = h q)) := by
  refine aOk.of (by decide +kernel) (Nat.le_of_ble_eq_true rfl) (fun X G hX C R0 _ => ?_)
  subst hX
  show aV X G 8 0 [(0, .ref 4), (1, .int x1), (2, .int x2), (3, .int x3), (4, .int x4), (5, .int x5)] [] h (D0.2.2.2.2.2) 0 0
  have hFr : ∀ q, q < 66 → q ≠ 17 → q ≠ 18 → h q = h q := fun _ _ _ _ => rfl
  rw [X8_copy] at hF
  refine ab_iload_n C 1 rfl rfl dX8_copy_0 ?_
  refine ab_iconst (v := (0 : Int32)) C dX8_copy_1 (by decide) ?_
  refine ab_iconst (v := (3 : Int32)) C dX8_copy_2 (by decide) ?_
  refine ab_cSR (v := .int (X8_within x1 (0 : Int32) (3 : Int32))) (st := []) C lm_X8_74 (X8_within_ok (xl X) (r := (X8_within x1 (0 : Int32) (3 : Int32))) rfl) rfl rfl (by decide) ⟨by decide, by decide⟩ (Nat.le_of_ble_eq_true rfl) dX8_copy_3 ?_
  refine ab_if_eq C 18 dX8_copy_6 (by decide) (fun c1 => ?_) (fun c1 => ?_)
  · replace hF := (if_pos c1).symm.trans hF
    refine ab_iconst (v := (-1 : Int32)) C dX8_copy_18 (by decide) ?_
    obtain rfl := Option.some.inj hF
    exact ab_iret C R0 rfl dX8_copy_19 ⟨rfl, rfl, hD, hFr⟩
  · replace hF := (if_neg c1).symm.trans hF
    refine ab_iload_n C 3 rfl rfl dX8_copy_9 ?_
    refine ab_iconst (v := (0 : Int32)) C dX8_copy_10 (by decide) ?_
    refine ab_iconst (v := (3 : Int32)) C dX8_copy_11 (by decide) ?_
    refine ab_cSR (v := .int (X8_within x3 (0 : Int32) (3 : Int32))) (st := []) C lm_X8_74 (X8_within_ok (xl X) (r := (X8_within x3 (0 : Int32) (3 : Int32))) rfl) rfl rfl (by decide) ⟨by decide, by decide⟩ (Nat.le_of_ble_eq_true rfl) dX8_copy_12 ?_
    refine ab_if_ne C 20 dX8_copy_15 (by decide) (fun c2 => ?_) (fun c2 => ?_)
    · replace hF := (if_neg c2).symm.trans hF
      refine ab_aload_n C 0 rfl rfl dX8_copy_20 ?_
      refine ab_g8 (v := .ref 18) C lf_X8_36 hBxo rfl dX8_copy_21 ?_
      refine ab_iload_n C 1 rfl rfl dX8_copy_24 ?_
      obtain ⟨o3, hxo3, hF⟩ := Option.bind_eq_some_iff.mp hF
      obtain ⟨hio3, hvo3⟩ := rdQ_s hxo3
      refine ab_aaload4 C hD.2.1 hio3 dX8_copy_25 ?_
      rw [hvo3]
      rcases o3 with _ | q4
      · replace hF := aQs_n hF
        show aV X G 8 26 [(0, .ref 4), (1, .int x1), (2, .int x2), (3, .int x3), (4, .int x4), (5, .int x5)] [.null] h (D0.2.2.2.2.2) 0 0
        refine ab_astoreN (lv' := [(6, .null), (0, .ref 4), (1, .int x1), (2, .int x2), (3, .int x3), (4, .int x4), (5, .int x5)]) C dX8_copy_26 (by decide) rfl ?_
        refine ab_aload_n C 1 rfl rfl dX8_copy_28 ?_
        refine ab_g8 (v := .ref 18) C lf_X8_36 hBxo rfl dX8_copy_29 ?_
        refine ab_iload_n C 4 rfl rfl dX8_copy_32 ?_
        obtain ⟨o5, hxo5, hF⟩ := Option.bind_eq_some_iff.mp hF
        obtain ⟨hio5, hvo5⟩ := rdQ_s hxo5
        refine ab_aaload4 C hD.2.1 hio5 dX8_copy_33 ?_
        rw [hvo5]
        rcases o5 with _ | q6
        · replace hF := aQs_n hF
          show aV X G 8 34 [(6, .null), (0, .ref 4), (1, .int x1), (2, .int x2), (3, .int x3), (4, .int x4), (5, .int x5)] [.null] h (D0.2.2.2.2.2) 0 0
          refine ab_astoreN (lv' := [(7, .null), (6, .null), (0, .ref 4), (1, .int x1), (2, .int x2), (3, .int x3), (4, .int x4), (5, .int x5)]) C dX8_copy_34 (by decide) rfl ?_
          refine ab_aloadN C 1 rfl dX8_copy_36 ?_
          refine ab_ifnullN C 46 dX8_copy_38 (by decide) ?_
          refine ab_bipush (v := (-11 : Int32)) C dX8_copy_46 (by decide) ?_
          obtain rfl := Option.some.inj hF
          exact ab_iret C R0 rfl dX8_copy_48 ⟨rfl, rfl, hD, hFr⟩
        · replace hF := aQs_s hF
          show aV X G 8 34 [(6, .null), (0, .ref 4), (1, .int x1), (2, .int x2), (3, .int x3), (4, .int x4), (5, .int x5)] [.ref q6] h (D0.2.2.2.2.2) 0 0
          have hdq6k : x3.toNatClampNeg < 4 := vp_lt hio5
          have hdq6q : D0.2.2.1 x3.toNatClampNeg = some q6 := hvo5
          obtain ⟨hdq6l, hdq6u, hBdq6⟩ := xD_getS hD hdq6k hdq6q
          refine ab_astore (lv' := [(7, .ref q6), (6, .null), (0, .ref 4), (1, .int x1), (2, .int x2), (3, .int x3), (4, .int x4), (5, .int x5)]) C dX8_copy_34 (by decide) rfl ?_
          refine ab_aloadN C 1 rfl dX8_copy_36 ?_
          refine ab_ifnullN C 46 dX8_copy_38 (by decide) ?_
          refine ab_bipush (v := (-11 : Int32)) C dX8_copy_46 (by decide) ?_
          obtain rfl := Option.some.inj hF
          exact ab_iret C R0 rfl dX8_copy_48 ⟨rfl, rfl, hD, hFr⟩
      · replace hF := aQs_s hF
        show aV X G 8 26 [(0, .ref 4), (1, .int x1), (2, .int x2), (3, .int x3), (4, .int x4), (5, .int x5)] [.ref q4] h (D0.2.2.2.2.2) 0 0
        have hdq4k : x1.toNatClampNeg < 4 := vp_lt hio3
        have hdq4q : D0.2.2.1 x1.toNatClampNeg = some q4 := hvo3
        obtain ⟨hdq4l, hdq4u, hBdq4⟩ := xD_getS hD hdq4k hdq4q
        refine ab_astore (lv' := [(6, .ref q4), (0, .ref 4), (1, .int x1), (2, .int x2), (3, .int x3), (4, .int x4), (5, .int x5)]) C dX8_copy_26 (by decide) rfl ?_
        refine ab_aload_n C 1 rfl rfl dX8_copy_28 ?_
        refine ab_g8 (v := .ref 18) C lf_X8_36 hBxo rfl dX8_copy_29 ?_
        refine ab_iload_n C 4 rfl rfl dX8_copy_32 ?_
        obtain ⟨o7, hxo7, hF⟩ := Option.bind_eq_some_iff.mp hF
        obtain ⟨hio7, hvo7⟩ := rdQ_s hxo7
        refine ab_aaload4 C hD.2.1 hio7 dX8_copy_33 ?_
        rw [hvo7]
        rcases o7 with _ | q8
        · replace hF := aQs_n hF
          show aV X G 8 34 [(6, .ref q4), (0, .ref 4), (1, .int x1), (2, .int x2), (3, .int x3), (4, .int x4), (5, .int x5)] [.null] h (D0.2.2.2.2.2) 0 0
          refine ab_astoreN (lv' := [(7, .null), (6, .ref q4), (0, .ref 4), (1, .int x1), (2, .int x2), (3, .int x3), (4, .int x4), (5, .int x5)]) C dX8_copy_34 (by decide) rfl ?_
          refine ab_aload C 1 rfl dX8_copy_36 ?_
          refine ab_ifnull C dX8_copy_38 ?_
          refine ab_aloadN C 0 rfl dX8_copy_41 ?_
          refine ab_ifnonnullN C dX8_copy_43 ?_
          refine ab_bipush (v := (-11 : Int32)) C dX8_copy_46 (by decide) ?_
          obtain rfl := Option.some.inj hF
          exact ab_iret C R0 rfl dX8_copy_48 ⟨rfl, rfl, hD, hFr⟩
        · replace hF := aQs_s hF
          show aV X G 8 34 [(6, .ref q4), (0, .ref 4), (1, .int x1), (2, .int x2), (3, .int x3), (4, .int x4), (5, .int x5)] [.ref q8] h (D0.2.2.2.2.2) 0 0
          have hdq8k : x3.toNatClampNeg < 4 := vp_lt hio7
          have hdq8q : D0.2.2.1 x3.toNatClampNeg = some q8 := hvo7
          obtain ⟨hdq8l, hdq8u, hBdq8⟩ := xD_getS hD hdq8k hdq8q
          refine ab_astore (lv' := [(7, .ref q8), (6, .ref q4), (0, .ref 4), (1, .int x1), (2, .int x2), (3, .int x3), (4, .int x4), (5, .int x5)]) C dX8_copy_34 (by decide) rfl ?_
          refine ab_aload C 1 rfl dX8_copy_36 ?_
          refine ab_ifnull C dX8_copy_38 ?_
          refine ab_aload C 0 rfl dX8_copy_41 ?_
          refine ab_ifnonnull C 49 dX8_copy_43 (by decide) ?_
          refine ab_aload C 1 rfl dX8_copy_49 ?_
          refine ab_g5 (v := .int ((D0.2.2.2.2.1 (26 + x1.toNatClampNeg)).1 0)) C lf_X8_285 hBdq4.1 rfl dX8_copy_51 ?_
          refine ab_aload C 0 rfl dX8_copy_54 ?_
          refine ab_g5 (v := .int ((D0.2.2.2.2.1 (26 + x3.toNatClampNeg)).1 0)) C lf_X8_285 hBdq8.1 rfl dX8_copy_56 ?_
          refine ab_icmp_eq C 65 dX8_copy_59 (by decide) (fun c9 => ?_) (fun c9 => ?_)
          · replace hF := (if_pos c9).symm.trans hF
            refine ab_aload C 1 rfl dX8_copy_65 ?_
            refine ab_iload_n C 4 rfl rfl dX8_copy_67 ?_
            refine ab_iload C 7 rfl dX8_copy_68 ?_
            refine ab_cVR (v := .int (X5_reaches (D0.2.2.2.1 (26 + x1.toNatClampNeg)) (D0.2.2.2.2.1 (26 + x1.toNatClampNeg)) x2 x5)) (st := []) C lm_X8_290 (X5_reaches_ok (xl X) hBdq4 (r := (X5_reaches (D0.2.2.2.1 (26 + x1.toNatClampNeg)) (D0.2.2.2.2.1 (26 + x1.toNatClampNeg)) x2 x5)) rfl) [.int x2, .int x5] rfl hBdq4.1 rfl rfl rfl (by decide) ⟨by decide, by decide⟩ (Nat.le_of_ble_eq_true rfl) dX8_copy_70 ?_
            refine ab_if_eq C 88 dX8_copy_73 (by decide) (fun c10 => ?_) (fun c10 => ?_)
            · replace hF := (if_pos c10).symm.trans hF
              refine ab_bipush (v := (-13 : Int32)) C dX8_copy_88 (by decide) ?_
              obtain rfl := Option.some.inj hF
              exact ab_iret C R0 rfl dX8_copy_90 ⟨rfl, rfl, hD, hFr⟩
            · replace hF := (if_neg c10).symm.trans hF
              refine ab_aload C 0 rfl dX8_copy_76 ?_
              refine ab_iload C 6 rfl dX8_copy_78 ?_
              refine ab_iload C 7 rfl dX8_copy_80 ?_
              refine ab_cVR (v := .int (X5_reaches (D0.2.2.2.1 (26 + x3.toNatClampNeg)) (D0.2.2.2.2.1 (26 + x3.toNatClampNeg)) x4 x5)) (st := []) C lm_X8_290 (X5_reaches_ok (xl X) hBdq8 (r := (X5_reaches (D0.2.2.2.1 (26 + x3.toNatClampNeg)) (D0.2.2.2.2.1 (26 + x3.toNatClampNeg)) x4 x5)) rfl) [.int x4, .int x5] rfl hBdq8.1 rfl rfl rfl (by decide) ⟨by decide, by decide⟩ (Nat.le_of_ble_eq_true rfl) dX8_copy_82 ?_
              refine ab_if_ne C 91 dX8_copy_85 (by decide) (fun c11 => ?_) (fun c11 => ?_)
              · replace hF := (if_neg c11).symm.trans hF
                refine ab_aload C 1 rfl dX8_copy_91 ?_
                refine ab_g5 (v := .ref (q4 + 1)) C lf_X8_280 hBdq4.1 rfl dX8_copy_93 ?_
                refine ab_iload_n C 4 rfl rfl dX8_copy_96 ?_
                refine ab_aload C 0 rfl dX8_copy_97 ?_
                refine ab_g5 (v := .ref (q8 + 1)) C lf_X8_280 hBdq8.1 rfl dX8_copy_99 ?_
                refine ab_iload C 6 rfl dX8_copy_102 ?_
                refine ab_iload C 7 rfl dX8_copy_104 ?_
                rcases Classical.em (¬ x2 < 0 ∧ ¬ x4 < 0 ∧ ¬ x5 < 0 ∧ x2.toNatClampNeg + x5.toNatClampNeg ≤ (D0.2.2.2.1 (26 + x1.toNatClampNeg)) ∧ x4.toNatClampNeg + x5.toNatClampNeg ≤ (D0.2.2.2.1 (26 + x3.toNatClampNeg))) with c12 | c12
                · replace hF := (if_pos c12).symm.trans hF
                  obtain ⟨c1, c2, c3, c4, c5⟩ := c12
                  refine ab_copyl C (X5_r1 hBdq4) (X5_r1 hBdq8) (a_mem 870 (by decide +kernel) (by decide +kernel)) (a_mem 456 (by decide +kernel) (by decide +kernel)) (a_mem 455 (by decide +kernel) (by decide +kernel)) (a_mem 69 (by decide +kernel) (by decide +kernel)) c1 c2 c3 c4 c5 (by decide) (Nat.le_of_ble_eq_true rfl) dX8_copy_106 (fun g13 eg13 og13 => ?_)
                  have hBdq8 : X5_at g13 q8 (D0.2.2.2.1 (26 + x3.toNatClampNeg)) (sL (D0.2.2.2.2.1 (26 + x3.toNatClampNeg)) 1 (va_cpy ((D0.2.2.2.2.1 (26 + x1.toNatClampNeg)).2.2 1) ((D0.2.2.2.2.1 (26 + x3.toNatClampNeg)).2.2 1) x2.toNatClampNeg x4.toNatClampNeg x5.toNatClampNeg)) := X5_w1 hBdq8 eg13 og13
                  have hBxo : X8_at g13 := (og13 4 (by omega)).trans hBxo
                  have hD : xD g13 (dLV D0 (26 + x3.toNatClampNeg) (sL (D0.2.2.2.2.1 (26 + x3.toNatClampNeg)) 1 (va_cpy ((D0.2.2.2.2.1 (26 + x1.toNatClampNeg)).2.2 1) ((D0.2.2.2.2.1 (26 + x3.toNatClampNeg)).2.2 1) x2.toNatClampNeg x4.toNatClampNeg x5.toNatClampNeg))) := xD_putS hD hdq8k hdq8q hBdq8 (fun q i1 => og13 q (by omega))
                  have hFr : ∀ q, q < 66 → q ≠ 17 → q ≠ 18 → g13 q = h q := fun q u0 u1 u2 => (og13 q (by omega)).trans (hFr q u0 u1 u2)
                  show aV X G 8 109 [(7, .ref q8), (6, .ref q4), (0, .ref 4), (1, .int x1), (2, .int x2), (3, .int x3), (4, .int x4), (5, .int x5)] [] g13 ((dLV D0 (26 + x3.toNatClampNeg) (sL (D0.2.2.2.2.1 (26 + x3.toNatClampNeg)) 1 (va_cpy ((D0.2.2.2.2.1 (26 + x1.toNatClampNeg)).2.2 1) ((D0.2.2.2.2.1 (26 + x3.toNatClampNeg)).2.2 1) x2.toNatClampNeg x4.toNatClampNeg x5.toNatClampNeg))).2.2.2.2.2) 0 0
                  refine ab_iload C 7 rfl dX8_copy_109 ?_
                  obtain rfl := Option.some.inj hF
                  exact ab_iret C R0 rfl dX8_copy_111 ⟨rfl, rfl, hD, hFr⟩
                · replace hF := (if_neg c12).symm.trans hF
                  cases hF
              · replace hF := (if_pos c11).symm.trans hF
                refine ab_bipush (v := (-13 : Int32)) C dX8_copy_88 (by decide) ?_
                obtain rfl := Option.some.inj hF
                exact ab_iret C R0 rfl dX8_copy_90 ⟨rfl, rfl, hD, hFr⟩
          · replace hF := (if_neg c9).symm.trans hF
            refine ab_bipush (v := (-12 : Int32)) C dX8_copy_62 (by decide) ?_
            obtain rfl := Option.some.inj hF
            exact ab_iret C R0 rfl dX8_copy_64 ⟨rfl, rfl, hD, hFr⟩
    · replace hF := (if_pos c2).symm.trans hF
      refine ab_iconst (v := (-1 : Int32)) C dX8_copy_18 (by decide) ?_
      obtain rfl := Option.some.inj hF
      exact ab_iret C R0 rfl dX8_copy_19 ⟨rfl, rfl, hD, hFr⟩
theorem dX8_film_0 : decode cX8_film 0 = .ok (.aload_n 0, 1) := by decide +kernel
theorem dX8_film_1 : decode cX8_film 1 = .ok (.getfield 19, 3) := by decide +kernel
theorem dX8_film_4 : decode cX8_film 4 = .ok (.iload_n 1, 1) := by decide +kernel
theorem dX8_film_5 : decode cX8_film 5 = .ok (.invokevirtual 107, 3) := by decide +kernel
theorem dX8_film_8 : decode cX8_film 8 = .ok (.ifCond .eq 13, 3) := by decide +kernel
theorem dX8_film_11 : decode cX8_film 11 = .ok (.iload_n 2, 1) := by decide +kernel
theorem dX8_film_12 : decode cX8_film 12 = .ok (.iconst 1, 1) := by decide +kernel
theorem dX8_film_13 : decode cX8_film 13 = .ok (.bipush 24, 2) := by decide +kernel
theorem dX8_film_15 : decode cX8_film 15 = .ok (.invokestatic 74, 3) := by decide +kernel
theorem dX8_film_18 : decode cX8_film 18 = .ok (.ifCond .ne 5, 3) := by decide +kernel
theorem dX8_film_21 : decode cX8_film 21 = .ok (.iconst (-1), 1) := by decide +kernel
theorem dX8_film_22 : decode cX8_film 22 = .ok (.ireturn, 1) := by decide +kernel
theorem dX8_film_23 : decode cX8_film 23 = .ok (.iload_n 3, 1) := by decide +kernel
theorem dX8_film_24 : decode cX8_film 24 = .ok (.iconst 0, 1) := by decide +kernel
theorem dX8_film_25 : decode cX8_film 25 = .ok (.iconst 3, 1) := by decide +kernel
theorem dX8_film_26 : decode cX8_film 26 = .ok (.invokestatic 74, 3) := by decide +kernel
theorem dX8_film_29 : decode cX8_film 29 = .ok (.ifCond .eq 13, 3) := by decide +kernel
theorem dX8_film_32 : decode cX8_film 32 = .ok (.iload 4, 2) := by decide +kernel
theorem dX8_film_34 : decode cX8_film 34 = .ok (.iconst 0, 1) := by decide +kernel
theorem dX8_film_35 : decode cX8_film 35 = .ok (.iconst 3, 1) := by decide +kernel
theorem dX8_film_36 : decode cX8_film 36 = .ok (.invokestatic 74, 3) := by decide +kernel
theorem dX8_film_39 : decode cX8_film 39 = .ok (.ifCond .ne 5, 3) := by decide +kernel
theorem dX8_film_42 : decode cX8_film 42 = .ok (.iconst (-1), 1) := by decide +kernel
theorem dX8_film_43 : decode cX8_film 43 = .ok (.ireturn, 1) := by decide +kernel
theorem dX8_film_44 : decode cX8_film 44 = .ok (.aload_n 0, 1) := by decide +kernel
theorem dX8_film_45 : decode cX8_film 45 = .ok (.getfield 36, 3) := by decide +kernel
theorem dX8_film_48 : decode cX8_film 48 = .ok (.iload_n 3, 1) := by decide +kernel
theorem dX8_film_49 : decode cX8_film 49 = .ok (.aaload, 1) := by decide +kernel
theorem dX8_film_50 : decode cX8_film 50 = .ok (.astore 6, 2) := by decide +kernel
theorem dX8_film_52 : decode cX8_film 52 = .ok (.aload 6, 2) := by decide +kernel
theorem dX8_film_54 : decode cX8_film 54 = .ok (.ifnonnull 6, 3) := by decide +kernel
theorem dX8_film_57 : decode cX8_film 57 = .ok (.bipush (-11), 2) := by decide +kernel
theorem dX8_film_59 : decode cX8_film 59 = .ok (.ireturn, 1) := by decide +kernel
theorem dX8_film_60 : decode cX8_film 60 = .ok (.aload 6, 2) := by decide +kernel
theorem dX8_film_62 : decode cX8_film 62 = .ok (.getfield 285, 3) := by decide +kernel
theorem dX8_film_65 : decode cX8_film 65 = .ok (.iload 4, 2) := by decide +kernel
theorem dX8_film_67 : decode cX8_film 67 = .ok (.if_icmp .eq 6, 3) := by decide +kernel
theorem dX8_film_70 : decode cX8_film 70 = .ok (.bipush (-12), 2) := by decide +kernel
theorem dX8_film_72 : decode cX8_film 72 = .ok (.ireturn, 1) := by decide +kernel
theorem dX8_film_73 : decode cX8_film 73 = .ok (.aload 6, 2) := by decide +kernel
theorem dX8_film_75 : decode cX8_film 75 = .ok (.iload 5, 2) := by decide +kernel
theorem dX8_film_77 : decode cX8_film 77 = .ok (.iload_n 2, 1) := by decide +kernel
theorem dX8_film_78 : decode cX8_film 78 = .ok (.invokevirtual 290, 3) := by decide +kernel
theorem dX8_film_81 : decode cX8_film 81 = .ok (.ifCond .ne 6, 3) := by decide +kernel
theorem dX8_film_84 : decode cX8_film 84 = .ok (.bipush (-13), 2) := by decide +kernel
theorem dX8_film_86 : decode cX8_film 86 = .ok (.ireturn, 1) := by decide +kernel
theorem dX8_film_87 : decode cX8_film 87 = .ok (.aload_n 0, 1) := by decide +kernel
theorem dX8_film_88 : decode cX8_film 88 = .ok (.getfield 40, 3) := by decide +kernel
theorem dX8_film_91 : decode cX8_film 91 = .ok (.aload_n 0, 1) := by decide +kernel
theorem dX8_film_92 : decode cX8_film 92 = .ok (.getfield 19, 3) := by decide +kernel
theorem dX8_film_95 : decode cX8_film 95 = .ok (.invokevirtual 96, 3) := by decide +kernel
theorem dX8_film_98 : decode cX8_film 98 = .ok (.iconst 0, 1) := by decide +kernel
theorem dX8_film_99 : decode cX8_film 99 = .ok (.istore 7, 2) := by decide +kernel
theorem dX8_film_101 : decode cX8_film 101 = .ok (.iload 7, 2) := by decide +kernel
theorem dX8_film_103 : decode cX8_film 103 = .ok (.iload_n 2, 1) := by decide +kernel
theorem dX8_film_104 : decode cX8_film 104 = .ok (.if_icmp .ge 37, 3) := by decide +kernel
theorem dX8_film_107 : decode cX8_film 107 = .ok (.aload_n 0, 1) := by decide +kernel
theorem dX8_film_108 : decode cX8_film 108 = .ok (.getfield 40, 3) := by decide +kernel
theorem dX8_film_111 : decode cX8_film 111 = .ok (.invokevirtual 180, 3) := by decide +kernel
theorem dX8_film_114 : decode cX8_film 114 = .ok (.pop, 1) := by decide +kernel
theorem dX8_film_115 : decode cX8_film 115 = .ok (.aload 6, 2) := by decide +kernel
theorem dX8_film_117 : decode cX8_film 117 = .ok (.iload 5, 2) := by decide +kernel
theorem dX8_film_119 : decode cX8_film 119 = .ok (.iload 7, 2) := by decide +kernel
theorem dX8_film_121 : decode cX8_film 121 = .ok (.iadd, 1) := by decide +kernel
theorem dX8_film_122 : decode cX8_film 122 = .ok (.aload_n 0, 1) := by decide +kernel
theorem dX8_film_123 : decode cX8_film 123 = .ok (.getfield 40, 3) := by decide +kernel
theorem dX8_film_126 : decode cX8_film 126 = .ok (.iload_n 1, 1) := by decide +kernel
theorem dX8_film_127 : decode cX8_film 127 = .ok (.invokevirtual 127, 3) := by decide +kernel
theorem dX8_film_130 : decode cX8_film 130 = .ok (.i2l, 1) := by decide +kernel
theorem dX8_film_131 : decode cX8_film 131 = .ok (.invokevirtual 293, 3) := by decide +kernel
theorem dX8_film_134 : decode cX8_film 134 = .ok (.pop2, 1) := by decide +kernel
theorem dX8_film_135 : decode cX8_film 135 = .ok (.iinc 7 1, 3) := by decide +kernel
theorem dX8_film_138 : decode cX8_film 138 = .ok (.goto (-37), 3) := by decide +kernel
theorem dX8_film_141 : decode cX8_film 141 = .ok (.iload_n 2, 1) := by decide +kernel
theorem dX8_film_142 : decode cX8_film 142 = .ok (.ireturn, 1) := by decide +kernel
def X8_film_L101 (x2 : Int32) (x1 : Int32) (x3 : Int32) (x5 : Int32) : Nat → Int32 → Rec → DynT → Rec → Option (Rec × DynT × Rec)
  | 0, _, _, _, _ => none
  | n101 + 1, v10, Z11, Z12, Z13 => if x2 ≤ v10 then
      some (Z11, Z12, Z13)
    else
      (X2_passYear Z11).bind fun v16 =>
      (X2_speechOf v16.2 x1).bind fun v18 =>
      (X5_put (Z12.2.2.2.1 (26 + x3.toNatClampNeg)) Z13 (x5 + v10) (v18.toInt64)).bind fun v19 =>
      aLet (v10 + (1 : Int32)) fun v21 =>
      X8_film_L101 x2 x1 x3 x5 n101 v21 v16.2 (dLV Z12 (26 + x3.toNatClampNeg) v19.2) v19.2
def X8_film (D0 : DynT) (S_now : Rec) (S_trial : Rec) (x1 : Int32) (x2 : Int32) (x3 : Int32) (x4 : Int32) (x5 : Int32) : Option (Int32 × Rec × DynT) :=
  if (X2_hasHolder S_now x1) = 0 then
    some ((-1 : Int32), S_trial, D0)
  else
    if (X8_within x2 (1 : Int32) (24 : Int32)) = 0 then
      some ((-1 : Int32), S_trial, D0)
    else
      if (X8_within x3 (0 : Int32) (3 : Int32)) = 0 then
        some ((-1 : Int32), S_trial, D0)
      else
        if (X8_within x4 (0 : Int32) (3 : Int32)) = 0 then
          some ((-1 : Int32), S_trial, D0)
        else
          (rdQ D0.2.2.1 4 x3).bind fun o5 =>
          aQs o5
            (some ((-11 : Int32), S_trial, D0))
            fun q6 =>
            if ((D0.2.2.2.2.1 (26 + x3.toNatClampNeg)).1 0) = x4 then
              if (X5_reaches (D0.2.2.2.1 (26 + x3.toNatClampNeg)) (D0.2.2.2.2.1 (26 + x3.toNatClampNeg)) x5 x2) = 0 then
                some ((-13 : Int32), S_trial, D0)
              else
                (X8_film_L101 x2 x1 x3 x5 aFu (0 : Int32) (X2_become S_trial S_now) D0 (D0.2.2.2.2.1 (26 + x3.toNatClampNeg))).bind fun e22 =>
                some (x2, e22.1, e22.2.1)
            else
              some ((-12 : Int32), S_trial, D0)
set_option maxRecDepth 100000 in
set_option maxHeartbeats 4000000 in
theorem X8_film_ok (l : Launch) {h : aH} {D0 : DynT} {S_now : Rec} {S_trial : Rec} {x1 : Int32} {x2 : Int32} {x3 : Int32} {x4 : Int32} {x5 : Int32} (hBxo : X8_at h) (hBnow : X2_at h 7 S_now) (hBtrial : X2_at h 19 S_trial) (hD : xD h D0) {r : Int32 × Rec × DynT} (hF : X8_film D0 S_now S_trial x1 x2 x3 x4 x5 = some r) : aOk l 5 0 0 yX8_film cX8_film 8 (some .int) [.ref 4, .int x1, .int x2, .int x3, .int x4, .int x5] h D0.2.2.2.2.2 (fun v1 h1 nx1 => v1 = some (.int r.1) ∧ nx1 = r.2.2.2.2.2.2.2 ∧ X2_at h1 19 r.2.1 ∧ xD h1 r.2.2 ∧ (∀ q, q < 66 → q ≠ 17 → q ≠ 18 → (q < 19 ∨ 19 + 8 ≤ q) → h1 q = h q)) := by
  refine aOk.of (by decide +kernel) (Nat.le_of_ble_eq_true rfl) (fun X G hX C R0 _ => ?_)
  subst hX
  show aV X G 8 0 [(0, .ref 4), (1, .int x1), (2, .int x2), (3, .int x3), (4, .int x4), (5, .int x5)] [] h (D0.2.2.2.2.2) 0 0
  have hFr : ∀ q, q < 66 → q ≠ 17 → q ≠ 18 → (q < 19 ∨ 19 + 8 ≤ q) → h q = h q := fun _ _ _ _ _ => rfl
  rw [X8_film] at hF
  refine ab_aload_n C 0 rfl rfl dX8_film_0 ?_
  refine ab_g8 (v := .ref 7) C lf_X8_19 hBxo rfl dX8_film_1 ?_
  refine ab_iload_n C 1 rfl rfl dX8_film_4 ?_
  refine ab_cVR (v := .int (X2_hasHolder S_now x1)) (st := []) C lm_X8_107 (X2_hasHolder_ok (xl X) hBnow (r := (X2_hasHolder S_now x1)) rfl) [.int x1] rfl hBnow.1 rfl rfl rfl (by decide) ⟨by decide, by decide⟩ (Nat.le_of_ble_eq_true rfl) dX8_film_5 ?_
  refine ab_if_eq C 21 dX8_film_8 (by decide) (fun c1 => ?_) (fun c1 => ?_)
  · replace hF := (if_pos c1).symm.trans hF
    refine ab_iconst (v := (-1 : Int32)) C dX8_film_21 (by decide) ?_
    obtain rfl := Option.some.inj hF
    exact ab_iret C R0 rfl dX8_film_22 ⟨rfl, rfl, hBtrial, hD, hFr⟩
  · replace hF := (if_neg c1).symm.trans hF
    refine ab_iload_n C 2 rfl rfl dX8_film_11 ?_
    refine ab_iconst (v := (1 : Int32)) C dX8_film_12 (by decide) ?_
    refine ab_bipush (v := (24 : Int32)) C dX8_film_13 (by decide) ?_
    refine ab_cSR (v := .int (X8_within x2 (1 : Int32) (24 : Int32))) (st := []) C lm_X8_74 (X8_within_ok (xl X) (r := (X8_within x2 (1 : Int32) (24 : Int32))) rfl) rfl rfl (by decide) ⟨by decide, by decide⟩ (Nat.le_of_ble_eq_true rfl) dX8_film_15 ?_
    refine ab_if_ne C 23 dX8_film_18 (by decide) (fun c2 => ?_) (fun c2 => ?_)
    · replace hF := (if_neg c2).symm.trans hF
      refine ab_iload_n C 3 rfl rfl dX8_film_23 ?_
      refine ab_iconst (v := (0 : Int32)) C dX8_film_24 (by decide) ?_
      refine ab_iconst (v := (3 : Int32)) C dX8_film_25 (by decide) ?_
      refine ab_cSR (v := .int (X8_within x3 (0 : Int32) (3 : Int32))) (st := []) C lm_X8_74 (X8_within_ok (xl X) (r := (X8_within x3 (0 : Int32) (3 : Int32))) rfl) rfl rfl (by decide) ⟨by decide, by decide⟩ (Nat.le_of_ble_eq_true rfl) dX8_film_26 ?_
      refine ab_if_eq C 42 dX8_film_29 (by decide) (fun c3 => ?_) (fun c3 => ?_)
      · replace hF := (if_pos c3).symm.trans hF
        refine ab_iconst (v := (-1 : Int32)) C dX8_film_42 (by decide) ?_
        obtain rfl := Option.some.inj hF
        exact ab_iret C R0 rfl dX8_film_43 ⟨rfl, rfl, hBtrial, hD, hFr⟩
      · replace hF := (if_neg c3).symm.trans hF
        refine ab_iload C 4 rfl dX8_film_32 ?_
        refine ab_iconst (v := (0 : Int32)) C dX8_film_34 (by decide) ?_
        refine ab_iconst (v := (3 : Int32)) C dX8_film_35 (by decide) ?_
        refine ab_cSR (v := .int (X8_within x4 (0 : Int32) (3 : Int32))) (st := []) C lm_X8_74 (X8_within_ok (xl X) (r := (X8_within x4 (0 : Int32) (3 : Int32))) rfl) rfl rfl (by decide) ⟨by decide, by decide⟩ (Nat.le_of_ble_eq_true rfl) dX8_film_36 ?_
        refine ab_if_ne C 44 dX8_film_39 (by decide) (fun c4 => ?_) (fun c4 => ?_)
        · replace hF := (if_neg c4).symm.trans hF
          refine ab_aload_n C 0 rfl rfl dX8_film_44 ?_
          refine ab_g8 (v := .ref 18) C lf_X8_36 hBxo rfl dX8_film_45 ?_
          refine ab_iload_n C 3 rfl rfl dX8_film_48 ?_
          obtain ⟨o5, hxo5, hF⟩ := Option.bind_eq_some_iff.mp hF
          obtain ⟨hio5, hvo5⟩ := rdQ_s hxo5
          refine ab_aaload4 C hD.2.1 hio5 dX8_film_49 ?_
          rw [hvo5]
          rcases o5 with _ | q6
          · replace hF := aQs_n hF
            show aV X G 8 50 [(0, .ref 4), (1, .int x1), (2, .int x2), (3, .int x3), (4, .int x4), (5, .int x5)] [.null] h (D0.2.2.2.2.2) 0 0
            refine ab_astoreN (lv' := [(6, .null), (0, .ref 4), (1, .int x1), (2, .int x2), (3, .int x3), (4, .int x4), (5, .int x5)]) C dX8_film_50 (by decide) rfl ?_
            refine ab_aloadN C 0 rfl dX8_film_52 ?_
            refine ab_ifnonnullN C dX8_film_54 ?_
            refine ab_bipush (v := (-11 : Int32)) C dX8_film_57 (by decide) ?_
            obtain rfl := Option.some.inj hF
            exact ab_iret C R0 rfl dX8_film_59 ⟨rfl, rfl, hBtrial, hD, hFr⟩
          · replace hF := aQs_s hF
            show aV X G 8 50 [(0, .ref 4), (1, .int x1), (2, .int x2), (3, .int x3), (4, .int x4), (5, .int x5)] [.ref q6] h (D0.2.2.2.2.2) 0 0
            have hdq6k : x3.toNatClampNeg < 4 := vp_lt hio5
            have hdq6q : D0.2.2.1 x3.toNatClampNeg = some q6 := hvo5
            obtain ⟨hdq6l, hdq6u, hBdq6⟩ := xD_getS hD hdq6k hdq6q
            refine ab_astore (lv' := [(6, .ref q6), (0, .ref 4), (1, .int x1), (2, .int x2), (3, .int x3), (4, .int x4), (5, .int x5)]) C dX8_film_50 (by decide) rfl ?_
            refine ab_aload C 0 rfl dX8_film_52 ?_
            refine ab_ifnonnull C 60 dX8_film_54 (by decide) ?_
            refine ab_aload C 0 rfl dX8_film_60 ?_
            refine ab_g5 (v := .int ((D0.2.2.2.2.1 (26 + x3.toNatClampNeg)).1 0)) C lf_X8_285 hBdq6.1 rfl dX8_film_62 ?_
            refine ab_iload C 5 rfl dX8_film_65 ?_
            refine ab_icmp_eq C 73 dX8_film_67 (by decide) (fun c7 => ?_) (fun c7 => ?_)
            · replace hF := (if_pos c7).symm.trans hF
              refine ab_aload C 0 rfl dX8_film_73 ?_
              refine ab_iload C 6 rfl dX8_film_75 ?_
              refine ab_iload_n C 3 rfl rfl dX8_film_77 ?_
              refine ab_cVR (v := .int (X5_reaches (D0.2.2.2.1 (26 + x3.toNatClampNeg)) (D0.2.2.2.2.1 (26 + x3.toNatClampNeg)) x5 x2)) (st := []) C lm_X8_290 (X5_reaches_ok (xl X) hBdq6 (r := (X5_reaches (D0.2.2.2.1 (26 + x3.toNatClampNeg)) (D0.2.2.2.2.1 (26 + x3.toNatClampNeg)) x5 x2)) rfl) [.int x5, .int x2] rfl hBdq6.1 rfl rfl rfl (by decide) ⟨by decide, by decide⟩ (Nat.le_of_ble_eq_true rfl) dX8_film_78 ?_
              refine ab_if_ne C 87 dX8_film_81 (by decide) (fun c8 => ?_) (fun c8 => ?_)
              · replace hF := (if_neg c8).symm.trans hF
                refine ab_aload_n C 1 rfl rfl dX8_film_87 ?_
                refine ab_g8 (v := .ref 19) C lf_X8_40 hBxo rfl dX8_film_88 ?_
                refine ab_aload_n C 1 rfl rfl dX8_film_91 ?_
                refine ab_g8 (v := .ref 7) C lf_X8_19 hBxo rfl dX8_film_92 ?_
                refine ab_cVN (st := []) C lm_X8_96 (X2_become_ok (xl X) hBtrial hBnow (by omega) (r := (X2_become S_trial S_now)) rfl) [.ref 7] rfl hBtrial.1 rfl rfl rfl (by decide) ⟨by decide, by decide⟩ (Nat.le_of_ble_eq_true rfl) dX8_film_95 (fun g9 pg9 => ?_)
                obtain ⟨k0, Og9⟩ := pg9
                have hBtrial : X2_at g9 19 (X2_become S_trial S_now) := k0
                have hBxo : X8_at g9 := (Og9 4 (by omega)).trans hBxo
                have hBnow : X2_at g9 7 S_now := X2_off hBnow (fun q i1 i2 => Og9 q (by omega))
                have hBdq6 : X5_at g9 q6 (D0.2.2.2.1 (26 + x3.toNatClampNeg)) (D0.2.2.2.2.1 (26 + x3.toNatClampNeg)) := X5_off hBdq6 (fun q i1 i2 => Og9 q (by omega))
                have hD : xD g9 D0 := xD_off hD (fun q i1 => Og9 q (by omega))
                have hFr : ∀ q, q < 66 → q ≠ 17 → q ≠ 18 → (q < 19 ∨ 19 + 8 ≤ q) → g9 q = h q := fun q u0 u1 u2 u3 => (Og9 q (by omega)).trans (hFr q u0 u1 u2 u3)
                refine ab_iconst (v := (0 : Int32)) C dX8_film_98 (by decide) ?_
                refine ab_istore (lv' := [(7, .int (0 : Int32)), (6, .ref q6), (0, .ref 4), (1, .int x1), (2, .int x2), (3, .int x3), (4, .int x4), (5, .int x5)]) C dX8_film_99 (by decide) rfl ?_
                have L101 : ∀ (n101 : Nat) (v10 : Int32) (Z11 : Rec) (Z12 : DynT) (Z13 : Rec) (g14 : aH), (X8_at g14) → (X2_at g14 7 S_now) → (X2_at g14 19 Z11) → (X5_at g14 q6 (Z12.2.2.2.1 (26 + x3.toNatClampNeg)) Z13) → (Z12.2.2.1 (x3.toNatClampNeg) = some q6) → (xD g14 Z12) → (∀ q, q < 66 → q ≠ 17 → q ≠ 18 → (q < 19 ∨ 19 + 8 ≤ q) → g14 q = h q) → ∀ (res101 : Rec × DynT × Rec), X8_film_L101 x2 x1 x3 x5 n101 v10 Z11 Z12 Z13 = some res101 → (∀ (q9 : aH), (X8_at q9) → (X2_at q9 7 S_now) → (X2_at q9 19 res101.1) → (X5_at q9 q6 (res101.2.1.2.2.2.1 (26 + x3.toNatClampNeg)) res101.2.2) → (res101.2.1.2.2.1 (x3.toNatClampNeg) = some q6) → (xD q9 res101.2.1) → (∀ q, q < 66 → q ≠ 17 → q ≠ 18 → (q < 19 ∨ 19 + 8 ≤ q) → q9 q = h q) → aV X G 8 141 [(2, .int x2)] [] q9 (res101.2.1.2.2.2.2.2) 0 0) → aV X G 8 101 [(0, .ref 4), (1, .int x1), (2, .int x2), (5, .int x5), (6, .ref q6), (7, .int v10)] [] g14 (Z12.2.2.2.2.2) 0 0 := by
                  intro n101
                  induction n101 with
                  | zero => intro v10 Z11 Z12 Z13 g14 hBxo hBnow hBtrial hBdq6 hdq6q hD hFr res101 hF KX101; cases (show (none : Option (Rec × DynT × Rec)) = some res101 from hF)
                  | succ n101 ih101 =>
                    intro v10 Z11 Z12 Z13 g14 hBxo hBnow hBtrial hBdq6 hdq6q hD hFr res101 hF KX101
                    rw [X8_film_L101] at hF
                    refine ab_iload C 5 rfl dX8_film_101 ?_
                    refine ab_iload_n C 2 rfl rfl dX8_film_103 ?_
                    refine ab_icmp_ge C 141 dX8_film_104 (by decide) (fun c15 => ?_) (fun c15 => ?_)
                    · replace hF := (if_pos c15).symm.trans hF
                      obtain rfl := Option.some.inj hF
                      refine aV.sub (lv' := [(2, .int x2)]) [2] rfl ?_
                      exact KX101 g14 hBxo hBnow hBtrial hBdq6 hdq6q hD hFr
                    · replace hF := (if_neg c15).symm.trans hF
                      refine ab_aload_n C 0 rfl rfl dX8_film_107 ?_
                      refine ab_g8 (v := .ref 19) C lf_X8_40 hBxo rfl dX8_film_108 ?_
                      obtain ⟨v16, hxv16, hF⟩ := Option.bind_eq_some_iff.mp hF
                      refine ab_cVM (v := .int v16.1) (st := []) C lm_X8_180 (X2_passYear_ok (xl X) hBtrial (r := v16) hxv16) [] rfl hBtrial.1 rfl rfl rfl (by decide) ⟨by decide, by decide⟩ (Nat.le_of_ble_eq_true rfl) dX8_film_111 (fun g17 pg17 => ?_)
                      obtain ⟨k0, Og17⟩ := pg17
                      have hBtrial : X2_at g17 19 v16.2 := k0
                      have hBxo : X8_at g17 := (Og17 4 (by omega)).trans hBxo
                      have hBnow : X2_at g17 7 S_now := X2_off hBnow (fun q i1 i2 => Og17 q (by omega))
                      have hBdq6 : X5_at g17 q6 (Z12.2.2.2.1 (26 + x3.toNatClampNeg)) Z13 := X5_off hBdq6 (fun q i1 i2 => Og17 q (by omega))
                      have hD : xD g17 Z12 := xD_off hD (fun q i1 => Og17 q (by omega))
                      have hFr : ∀ q, q < 66 → q ≠ 17 → q ≠ 18 → (q < 19 ∨ 19 + 8 ≤ q) → g17 q = h q := fun q u0 u1 u2 u3 => (Og17 q (by omega)).trans (hFr q u0 u1 u2 u3)
                      refine ab_pop C rfl dX8_film_114 ?_
                      refine ab_aload C 4 rfl dX8_film_115 ?_
                      refine ab_iload C 3 rfl dX8_film_117 ?_
                      refine ab_iload C 5 rfl dX8_film_119 ?_
                      refine ab_iadd C dX8_film_121 ?_
                      refine ab_aload_n C 0 rfl rfl dX8_film_122 ?_
                      refine ab_g8 (v := .ref 19) C lf_X8_40 hBxo rfl dX8_film_123 ?_
                      refine ab_iload_n C 1 rfl rfl dX8_film_126 ?_
                      obtain ⟨v18, hxv18, hF⟩ := Option.bind_eq_some_iff.mp hF
                      refine ab_cVR (v := .int v18) (st := [.int (x5 + v10), .ref q6]) C lm_X8_127 (X2_speechOf_ok (xl X) hBtrial (r := v18) hxv18) [.int x1] rfl hBtrial.1 rfl rfl rfl (by decide) ⟨by decide, by decide⟩ (Nat.le_of_ble_eq_true rfl) dX8_film_127 ?_
                      refine ab_i2l C dX8_film_130 ?_
                      obtain ⟨v19, hxv19, hF⟩ := Option.bind_eq_some_iff.mp hF
                      refine ab_cVM (v := .long v19.1) (st := []) C lm_X8_293 (X5_put_ok (xl X) hBdq6 (r := v19) hxv19) [.int (x5 + v10), .long (v18.toInt64)] rfl hBdq6.1 rfl rfl rfl (by decide) ⟨by decide, by decide⟩ (Nat.le_of_ble_eq_true rfl) dX8_film_131 (fun g20 pg20 => ?_)
                      obtain ⟨k0, Og20⟩ := pg20
                      have hBdq6 : X5_at g20 q6 (Z12.2.2.2.1 (26 + x3.toNatClampNeg)) v19.2 := k0
                      have hBxo : X8_at g20 := (Og20 4 (by omega)).trans hBxo
                      have hBnow : X2_at g20 7 S_now := X2_off hBnow (fun q i1 i2 => Og20 q (by omega))
                      have hBtrial : X2_at g20 19 v16.2 := X2_off hBtrial (fun q i1 i2 => Og20 q (by omega))
                      have hD : xD g20 (dLV Z12 (26 + x3.toNatClampNeg) v19.2) := xD_putS hD hdq6k hdq6q hBdq6 (fun q i1 => Og20 q (by omega))
                      have hFr : ∀ q, q < 66 → q ≠ 17 → q ≠ 18 → (q < 19 ∨ 19 + 8 ≤ q) → g20 q = h q := fun q u0 u1 u2 u3 => (Og20 q (by omega)).trans (hFr q u0 u1 u2 u3)
                      show aV X G 8 134 [(0, .ref 4), (1, .int x1), (2, .int x2), (5, .int x5), (6, .ref q6), (7, .int v10)] [.long v19.1] g20 ((dLV Z12 (26 + x3.toNatClampNeg) v19.2).2.2.2.2.2) 0 0
                      refine ab_pop2_2 C rfl dX8_film_134 ?_
                      obtain ⟨v21, qv21⟩ : ∃ y : Int32, y = (v10 + (1 : Int32)) := ⟨_, rfl⟩
                      replace hF := aLet_e hF v21 qv21
                      refine ab_iinc (lv' := [(7, .int v21), (0, .ref 4), (1, .int x1), (2, .int x2), (5, .int x5), (6, .ref q6)]) C 5 rfl dX8_film_135 (by rw [qv21]; rfl) (by decide) rfl ?_
                      refine ab_goto C 101 dX8_film_138 (by decide) ?_
                      refine aV.sub (lv' := [(0, .ref 4), (1, .int x1), (2, .int x2), (5, .int x5), (6, .ref q6), (7, .int v21)]) [1, 2, 3, 4, 5, 0] rfl ?_
                      exact ih101 v21 v16.2 (dLV Z12 (26 + x3.toNatClampNeg) v19.2) v19.2 g20 hBxo hBnow hBtrial hBdq6 hdq6q hD hFr res101 hF KX101
                refine aV.sub (lv' := [(0, .ref 4), (1, .int x1), (2, .int x2), (5, .int x5), (6, .ref q6), (7, .int (0 : Int32))]) [2, 3, 4, 7, 1, 0] rfl ?_
                obtain ⟨e22, he22, hF⟩ := Option.bind_eq_some_iff.mp hF
                refine L101 aFu (0 : Int32) (X2_become S_trial S_now) D0 (D0.2.2.2.2.1 (26 + x3.toNatClampNeg)) g9 hBxo hBnow hBtrial hBdq6 hdq6q hD hFr e22 he22 (fun g23 hBxo hBnow hBtrial hBdq6 hdq6q hD hFr => ?_)
                refine ab_iload_n C 0 rfl rfl dX8_film_141 ?_
                obtain rfl := Option.some.inj hF
                exact ab_iret C R0 rfl dX8_film_142 ⟨rfl, rfl, hBtrial, hD, hFr⟩
              · replace hF := (if_pos c8).symm.trans hF
                refine ab_bipush (v := (-13 : Int32)) C dX8_film_84 (by decide) ?_
                obtain rfl := Option.some.inj hF
                exact ab_iret C R0 rfl dX8_film_86 ⟨rfl, rfl, hBtrial, hD, hFr⟩
            · replace hF := (if_neg c7).symm.trans hF
              refine ab_bipush (v := (-12 : Int32)) C dX8_film_70 (by decide) ?_
              obtain rfl := Option.some.inj hF
              exact ab_iret C R0 rfl dX8_film_72 ⟨rfl, rfl, hBtrial, hD, hFr⟩
        · replace hF := (if_pos c4).symm.trans hF
          refine ab_iconst (v := (-1 : Int32)) C dX8_film_42 (by decide) ?_
          obtain rfl := Option.some.inj hF
          exact ab_iret C R0 rfl dX8_film_43 ⟨rfl, rfl, hBtrial, hD, hFr⟩
    · replace hF := (if_pos c2).symm.trans hF
      refine ab_iconst (v := (-1 : Int32)) C dX8_film_21 (by decide) ?_
      obtain rfl := Option.some.inj hF
      exact ab_iret C R0 rfl dX8_film_22 ⟨rfl, rfl, hBtrial, hD, hFr⟩
theorem dX8_changes_0 : decode cX8_changes 0 = .ok (.iload_n 1, 1) := by decide +kernel
theorem dX8_changes_1 : decode cX8_changes 1 = .ok (.iconst 0, 1) := by decide +kernel
theorem dX8_changes_2 : decode cX8_changes 2 = .ok (.iconst 3, 1) := by decide +kernel
theorem dX8_changes_3 : decode cX8_changes 3 = .ok (.invokestatic 74, 3) := by decide +kernel
theorem dX8_changes_6 : decode cX8_changes 6 = .ok (.ifCond .eq 12, 3) := by decide +kernel
theorem dX8_changes_9 : decode cX8_changes 9 = .ok (.iload_n 2, 1) := by decide +kernel
theorem dX8_changes_10 : decode cX8_changes 10 = .ok (.iconst 0, 1) := by decide +kernel
theorem dX8_changes_11 : decode cX8_changes 11 = .ok (.iconst 3, 1) := by decide +kernel
theorem dX8_changes_12 : decode cX8_changes 12 = .ok (.invokestatic 74, 3) := by decide +kernel
theorem dX8_changes_15 : decode cX8_changes 15 = .ok (.ifCond .ne 5, 3) := by decide +kernel
theorem dX8_changes_18 : decode cX8_changes 18 = .ok (.iconst (-1), 1) := by decide +kernel
theorem dX8_changes_19 : decode cX8_changes 19 = .ok (.ireturn, 1) := by decide +kernel
theorem dX8_changes_20 : decode cX8_changes 20 = .ok (.iload 4, 2) := by decide +kernel
theorem dX8_changes_22 : decode cX8_changes 22 = .ok (.iconst 1, 1) := by decide +kernel
theorem dX8_changes_23 : decode cX8_changes 23 = .ok (.bipush 12, 2) := by decide +kernel
theorem dX8_changes_25 : decode cX8_changes 25 = .ok (.invokestatic 74, 3) := by decide +kernel
theorem dX8_changes_28 : decode cX8_changes 28 = .ok (.ifCond .eq 20, 3) := by decide +kernel
theorem dX8_changes_31 : decode cX8_changes 31 = .ok (.iload 5, 2) := by decide +kernel
theorem dX8_changes_33 : decode cX8_changes 33 = .ok (.bipush (-4), 2) := by decide +kernel
theorem dX8_changes_35 : decode cX8_changes 35 = .ok (.if_icmp .eq 15, 3) := by decide +kernel
theorem dX8_changes_38 : decode cX8_changes 38 = .ok (.iload 5, 2) := by decide +kernel
theorem dX8_changes_40 : decode cX8_changes 40 = .ok (.iconst 0, 1) := by decide +kernel
theorem dX8_changes_41 : decode cX8_changes 41 = .ok (.iconst 4, 1) := by decide +kernel
theorem dX8_changes_42 : decode cX8_changes 42 = .ok (.invokestatic 74, 3) := by decide +kernel
theorem dX8_changes_45 : decode cX8_changes 45 = .ok (.ifCond .ne 5, 3) := by decide +kernel
theorem dX8_changes_48 : decode cX8_changes 48 = .ok (.iconst (-1), 1) := by decide +kernel
theorem dX8_changes_49 : decode cX8_changes 49 = .ok (.ireturn, 1) := by decide +kernel
theorem dX8_changes_50 : decode cX8_changes 50 = .ok (.aload_n 0, 1) := by decide +kernel
theorem dX8_changes_51 : decode cX8_changes 51 = .ok (.getfield 36, 3) := by decide +kernel
theorem dX8_changes_54 : decode cX8_changes 54 = .ok (.iload_n 1, 1) := by decide +kernel
theorem dX8_changes_55 : decode cX8_changes 55 = .ok (.aaload, 1) := by decide +kernel
theorem dX8_changes_56 : decode cX8_changes 56 = .ok (.astore 6, 2) := by decide +kernel
theorem dX8_changes_58 : decode cX8_changes 58 = .ok (.aload 6, 2) := by decide +kernel
theorem dX8_changes_60 : decode cX8_changes 60 = .ok (.ifnonnull 6, 3) := by decide +kernel
theorem dX8_changes_63 : decode cX8_changes 63 = .ok (.bipush (-11), 2) := by decide +kernel
theorem dX8_changes_65 : decode cX8_changes 65 = .ok (.ireturn, 1) := by decide +kernel
theorem dX8_changes_66 : decode cX8_changes 66 = .ok (.aload 6, 2) := by decide +kernel
theorem dX8_changes_68 : decode cX8_changes 68 = .ok (.getfield 285, 3) := by decide +kernel
theorem dX8_changes_71 : decode cX8_changes 71 = .ok (.iload_n 2, 1) := by decide +kernel
theorem dX8_changes_72 : decode cX8_changes 72 = .ok (.if_icmp .eq 6, 3) := by decide +kernel
theorem dX8_changes_75 : decode cX8_changes 75 = .ok (.bipush (-12), 2) := by decide +kernel
theorem dX8_changes_77 : decode cX8_changes 77 = .ok (.ireturn, 1) := by decide +kernel
theorem dX8_changes_78 : decode cX8_changes 78 = .ok (.aload 6, 2) := by decide +kernel
theorem dX8_changes_80 : decode cX8_changes 80 = .ok (.iload_n 3, 1) := by decide +kernel
theorem dX8_changes_81 : decode cX8_changes 81 = .ok (.iconst 2, 1) := by decide +kernel
theorem dX8_changes_82 : decode cX8_changes 82 = .ok (.iload 4, 2) := by decide +kernel
theorem dX8_changes_84 : decode cX8_changes 84 = .ok (.imul, 1) := by decide +kernel
theorem dX8_changes_85 : decode cX8_changes 85 = .ok (.invokevirtual 290, 3) := by decide +kernel
theorem dX8_changes_88 : decode cX8_changes 88 = .ok (.ifCond .ne 6, 3) := by decide +kernel
theorem dX8_changes_91 : decode cX8_changes 91 = .ok (.bipush (-13), 2) := by decide +kernel
theorem dX8_changes_93 : decode cX8_changes 93 = .ok (.ireturn, 1) := by decide +kernel
theorem dX8_changes_94 : decode cX8_changes 94 = .ok (.aload 6, 2) := by decide +kernel
theorem dX8_changes_96 : decode cX8_changes 96 = .ok (.iload_n 3, 1) := by decide +kernel
theorem dX8_changes_97 : decode cX8_changes 97 = .ok (.iconst 2, 1) := by decide +kernel
theorem dX8_changes_98 : decode cX8_changes 98 = .ok (.iload 4, 2) := by decide +kernel
theorem dX8_changes_100 : decode cX8_changes 100 = .ok (.imul, 1) := by decide +kernel
theorem dX8_changes_101 : decode cX8_changes 101 = .ok (.invokevirtual 305, 3) := by decide +kernel
theorem dX8_changes_104 : decode cX8_changes 104 = .ok (.ifCond .ne 6, 3) := by decide +kernel
theorem dX8_changes_107 : decode cX8_changes 107 = .ok (.bipush (-2), 2) := by decide +kernel
theorem dX8_changes_109 : decode cX8_changes 109 = .ok (.ireturn, 1) := by decide +kernel
theorem dX8_changes_110 : decode cX8_changes 110 = .ok (.aload_n 0, 1) := by decide +kernel
theorem dX8_changes_111 : decode cX8_changes 111 = .ok (.getfield 70, 3) := by decide +kernel
theorem dX8_changes_114 : decode cX8_changes 114 = .ok (.aload 6, 2) := by decide +kernel
theorem dX8_changes_116 : decode cX8_changes 116 = .ok (.iload_n 3, 1) := by decide +kernel
theorem dX8_changes_117 : decode cX8_changes 117 = .ok (.iload 4, 2) := by decide +kernel
theorem dX8_changes_119 : decode cX8_changes 119 = .ok (.invokevirtual 308, 3) := by decide +kernel
theorem dX8_changes_122 : decode cX8_changes 122 = .ok (.iload 5, 2) := by decide +kernel
theorem dX8_changes_124 : decode cX8_changes 124 = .ok (.bipush (-4), 2) := by decide +kernel
theorem dX8_changes_126 : decode cX8_changes 126 = .ok (.if_icmp .ne 13, 3) := by decide +kernel
theorem dX8_changes_129 : decode cX8_changes 129 = .ok (.aload_n 0, 1) := by decide +kernel
theorem dX8_changes_130 : decode cX8_changes 130 = .ok (.getfield 70, 3) := by decide +kernel
theorem dX8_changes_133 : decode cX8_changes 133 = .ok (.invokevirtual 312, 3) := by decide +kernel
theorem dX8_changes_136 : decode cX8_changes 136 = .ok (.goto 12, 3) := by decide +kernel
theorem dX8_changes_139 : decode cX8_changes 139 = .ok (.aload_n 0, 1) := by decide +kernel
theorem dX8_changes_140 : decode cX8_changes 140 = .ok (.getfield 70, 3) := by decide +kernel
theorem dX8_changes_143 : decode cX8_changes 143 = .ok (.iload 5, 2) := by decide +kernel
theorem dX8_changes_145 : decode cX8_changes 145 = .ok (.invokevirtual 315, 3) := by decide +kernel
theorem dX8_changes_148 : decode cX8_changes 148 = .ok (.ireturn, 1) := by decide +kernel
def X8_changes (D0 : DynT) (S_finder : Rec) (x1 : Int32) (x2 : Int32) (x3 : Int32) (x4 : Int32) (x5 : Int32) : Option (Int32 × Rec) :=
  if (X8_within x1 (0 : Int32) (3 : Int32)) = 0 then
    some ((-1 : Int32), S_finder)
  else
    if (X8_within x2 (0 : Int32) (3 : Int32)) = 0 then
      some ((-1 : Int32), S_finder)
    else
      if (X8_within x4 (1 : Int32) (12 : Int32)) = 0 then
        some ((-1 : Int32), S_finder)
      else
        if x5 = (-4 : Int32) then
          (rdQ D0.2.2.1 4 x1).bind fun o5 =>
          aQs o5
            (some ((-11 : Int32), S_finder))
            fun q6 =>
            if ((D0.2.2.2.2.1 (26 + x1.toNatClampNeg)).1 0) = x2 then
              if (X5_reaches (D0.2.2.2.1 (26 + x1.toNatClampNeg)) (D0.2.2.2.2.1 (26 + x1.toNatClampNeg)) x3 ((2 : Int32) * x4)) = 0 then
                some ((-13 : Int32), S_finder)
              else
                (X5_hasVowelsAlone (D0.2.2.2.1 (26 + x1.toNatClampNeg)) (D0.2.2.2.2.1 (26 + x1.toNatClampNeg)) x3 ((2 : Int32) * x4)).bind fun v9 =>
                if v9 = 0 then
                  some ((-2 : Int32), S_finder)
                else
                  (X1_compare S_finder (D0.2.2.2.1 (26 + x1.toNatClampNeg)) (D0.2.2.2.2.1 (26 + x1.toNatClampNeg)) x3 x4).bind fun v11 =>
                  if x5 = (-4 : Int32) then
                    (X1_howMany v11).bind fun v15 =>
                    some (v15, v11)
                  else
                    (X1_becomes v11 x5).bind fun v14 =>
                    some (v14, v11)
            else
              some ((-12 : Int32), S_finder)
        else
          if (X8_within x5 (0 : Int32) (4 : Int32)) = 0 then
            some ((-1 : Int32), S_finder)
          else
            (rdQ D0.2.2.1 4 x1).bind fun o17 =>
            aQs o17
              (some ((-11 : Int32), S_finder))
              fun q18 =>
              if ((D0.2.2.2.2.1 (26 + x1.toNatClampNeg)).1 0) = x2 then
                if (X5_reaches (D0.2.2.2.1 (26 + x1.toNatClampNeg)) (D0.2.2.2.2.1 (26 + x1.toNatClampNeg)) x3 ((2 : Int32) * x4)) = 0 then
                  some ((-13 : Int32), S_finder)
                else
                  (X5_hasVowelsAlone (D0.2.2.2.1 (26 + x1.toNatClampNeg)) (D0.2.2.2.2.1 (26 + x1.toNatClampNeg)) x3 ((2 : Int32) * x4)).bind fun v21 =>
                  if v21 = 0 then
                    some ((-2 : Int32), S_finder)
                  else
                    (X1_compare S_finder (D0.2.2.2.1 (26 + x1.toNatClampNeg)) (D0.2.2.2.2.1 (26 + x1.toNatClampNeg)) x3 x4).bind fun v23 =>
                    if x5 = (-4 : Int32) then
                      (X1_howMany v23).bind fun v27 =>
                      some (v27, v23)
                    else
                      (X1_becomes v23 x5).bind fun v26 =>
                      some (v26, v23)
              else
                some ((-12 : Int32), S_finder)
set_option maxRecDepth 100000 in
set_option maxHeartbeats 4000000 in
theorem X8_changes_ok (l : Launch) {h : aH} {D0 : DynT} {S_finder : Rec} {x1 : Int32} {x2 : Int32} {x3 : Int32} {x4 : Int32} {x5 : Int32} (hBxo : X8_at h) (hBfinder : X1_at h 44 S_finder) (hD : xD h D0) {r : Int32 × Rec} (hF : X8_changes D0 S_finder x1 x2 x3 x4 x5 = some r) : aOk l 2 0 0 yX8_changes cX8_changes 7 (some .int) [.ref 4, .int x1, .int x2, .int x3, .int x4, .int x5] h D0.2.2.2.2.2 (fun v1 h1 nx1 => v1 = some (.int r.1) ∧ nx1 = D0.2.2.2.2.2 ∧ X1_at h1 44 r.2 ∧ xD h1 D0 ∧ (∀ q, q < 66 → q ≠ 17 → q ≠ 18 → (q < 44 ∨ 44 + 2 ≤ q) → h1 q = h q)) := by
  refine aOk.of (by decide +kernel) (Nat.le_of_ble_eq_true rfl) (fun X G hX C R0 _ => ?_)
  subst hX
  show aV X G 7 0 [(0, .ref 4), (1, .int x1), (2, .int x2), (3, .int x3), (4, .int x4), (5, .int x5)] [] h (D0.2.2.2.2.2) 0 0
  have hFr : ∀ q, q < 66 → q ≠ 17 → q ≠ 18 → (q < 44 ∨ 44 + 2 ≤ q) → h q = h q := fun _ _ _ _ _ => rfl
  rw [X8_changes] at hF
  refine ab_iload_n C 1 rfl rfl dX8_changes_0 ?_
  refine ab_iconst (v := (0 : Int32)) C dX8_changes_1 (by decide) ?_
  refine ab_iconst (v := (3 : Int32)) C dX8_changes_2 (by decide) ?_
  refine ab_cSR (v := .int (X8_within x1 (0 : Int32) (3 : Int32))) (st := []) C lm_X8_74 (X8_within_ok (xl X) (r := (X8_within x1 (0 : Int32) (3 : Int32))) rfl) rfl rfl (by decide) ⟨by decide, by decide⟩ (Nat.le_of_ble_eq_true rfl) dX8_changes_3 ?_
  refine ab_if_eq C 18 dX8_changes_6 (by decide) (fun c1 => ?_) (fun c1 => ?_)
  · replace hF := (if_pos c1).symm.trans hF
    refine ab_iconst (v := (-1 : Int32)) C dX8_changes_18 (by decide) ?_
    obtain rfl := Option.some.inj hF
    exact ab_iret C R0 rfl dX8_changes_19 ⟨rfl, rfl, hBfinder, hD, hFr⟩
  · replace hF := (if_neg c1).symm.trans hF
    refine ab_iload_n C 2 rfl rfl dX8_changes_9 ?_
    refine ab_iconst (v := (0 : Int32)) C dX8_changes_10 (by decide) ?_
    refine ab_iconst (v := (3 : Int32)) C dX8_changes_11 (by decide) ?_
    refine ab_cSR (v := .int (X8_within x2 (0 : Int32) (3 : Int32))) (st := []) C lm_X8_74 (X8_within_ok (xl X) (r := (X8_within x2 (0 : Int32) (3 : Int32))) rfl) rfl rfl (by decide) ⟨by decide, by decide⟩ (Nat.le_of_ble_eq_true rfl) dX8_changes_12 ?_
    refine ab_if_ne C 20 dX8_changes_15 (by decide) (fun c2 => ?_) (fun c2 => ?_)
    · replace hF := (if_neg c2).symm.trans hF
      refine ab_iload C 4 rfl dX8_changes_20 ?_
      refine ab_iconst (v := (1 : Int32)) C dX8_changes_22 (by decide) ?_
      refine ab_bipush (v := (12 : Int32)) C dX8_changes_23 (by decide) ?_
      refine ab_cSR (v := .int (X8_within x4 (1 : Int32) (12 : Int32))) (st := []) C lm_X8_74 (X8_within_ok (xl X) (r := (X8_within x4 (1 : Int32) (12 : Int32))) rfl) rfl rfl (by decide) ⟨by decide, by decide⟩ (Nat.le_of_ble_eq_true rfl) dX8_changes_25 ?_
      refine ab_if_eq C 48 dX8_changes_28 (by decide) (fun c3 => ?_) (fun c3 => ?_)
      · replace hF := (if_pos c3).symm.trans hF
        refine ab_iconst (v := (-1 : Int32)) C dX8_changes_48 (by decide) ?_
        obtain rfl := Option.some.inj hF
        exact ab_iret C R0 rfl dX8_changes_49 ⟨rfl, rfl, hBfinder, hD, hFr⟩
      · replace hF := (if_neg c3).symm.trans hF
        refine ab_iload C 5 rfl dX8_changes_31 ?_
        refine ab_bipush (v := (-4 : Int32)) C dX8_changes_33 (by decide) ?_
        refine ab_icmp_eq C 50 dX8_changes_35 (by decide) (fun c4 => ?_) (fun c4 => ?_)
        · replace hF := (if_pos c4).symm.trans hF
          refine ab_aload_n C 0 rfl rfl dX8_changes_50 ?_
          refine ab_g8 (v := .ref 18) C lf_X8_36 hBxo rfl dX8_changes_51 ?_
          refine ab_iload_n C 1 rfl rfl dX8_changes_54 ?_
          obtain ⟨o5, hxo5, hF⟩ := Option.bind_eq_some_iff.mp hF
          obtain ⟨hio5, hvo5⟩ := rdQ_s hxo5
          refine ab_aaload4 C hD.2.1 hio5 dX8_changes_55 ?_
          rw [hvo5]
          rcases o5 with _ | q6
          · replace hF := aQs_n hF
            show aV X G 7 56 [(0, .ref 4), (1, .int x1), (2, .int x2), (3, .int x3), (4, .int x4), (5, .int x5)] [.null] h (D0.2.2.2.2.2) 0 0
            refine ab_astoreN (lv' := [(6, .null), (0, .ref 4), (1, .int x1), (2, .int x2), (3, .int x3), (4, .int x4), (5, .int x5)]) C dX8_changes_56 (by decide) rfl ?_
            refine ab_aloadN C 0 rfl dX8_changes_58 ?_
            refine ab_ifnonnullN C dX8_changes_60 ?_
            refine ab_bipush (v := (-11 : Int32)) C dX8_changes_63 (by decide) ?_
            obtain rfl := Option.some.inj hF
            exact ab_iret C R0 rfl dX8_changes_65 ⟨rfl, rfl, hBfinder, hD, hFr⟩
          · replace hF := aQs_s hF
            show aV X G 7 56 [(0, .ref 4), (1, .int x1), (2, .int x2), (3, .int x3), (4, .int x4), (5, .int x5)] [.ref q6] h (D0.2.2.2.2.2) 0 0
            have hdq6k : x1.toNatClampNeg < 4 := vp_lt hio5
            have hdq6q : D0.2.2.1 x1.toNatClampNeg = some q6 := hvo5
            obtain ⟨hdq6l, hdq6u, hBdq6⟩ := xD_getS hD hdq6k hdq6q
            refine ab_astore (lv' := [(6, .ref q6), (0, .ref 4), (1, .int x1), (2, .int x2), (3, .int x3), (4, .int x4), (5, .int x5)]) C dX8_changes_56 (by decide) rfl ?_
            refine ab_aload C 0 rfl dX8_changes_58 ?_
            refine ab_ifnonnull C 66 dX8_changes_60 (by decide) ?_
            refine ab_aload C 0 rfl dX8_changes_66 ?_
            refine ab_g5 (v := .int ((D0.2.2.2.2.1 (26 + x1.toNatClampNeg)).1 0)) C lf_X8_285 hBdq6.1 rfl dX8_changes_68 ?_
            refine ab_iload_n C 3 rfl rfl dX8_changes_71 ?_
            refine ab_icmp_eq C 78 dX8_changes_72 (by decide) (fun c7 => ?_) (fun c7 => ?_)
            · replace hF := (if_pos c7).symm.trans hF
              refine ab_aload C 0 rfl dX8_changes_78 ?_
              refine ab_iload_n C 4 rfl rfl dX8_changes_80 ?_
              refine ab_iconst (v := (2 : Int32)) C dX8_changes_81 (by decide) ?_
              refine ab_iload C 5 rfl dX8_changes_82 ?_
              refine ab_imul C dX8_changes_84 ?_
              refine ab_cVR (v := .int (X5_reaches (D0.2.2.2.1 (26 + x1.toNatClampNeg)) (D0.2.2.2.2.1 (26 + x1.toNatClampNeg)) x3 ((2 : Int32) * x4))) (st := []) C lm_X8_290 (X5_reaches_ok (xl X) hBdq6 (r := (X5_reaches (D0.2.2.2.1 (26 + x1.toNatClampNeg)) (D0.2.2.2.2.1 (26 + x1.toNatClampNeg)) x3 ((2 : Int32) * x4))) rfl) [.int x3, .int ((2 : Int32) * x4)] rfl hBdq6.1 rfl rfl rfl (by decide) ⟨by decide, by decide⟩ (Nat.le_of_ble_eq_true rfl) dX8_changes_85 ?_
              refine ab_if_ne C 94 dX8_changes_88 (by decide) (fun c8 => ?_) (fun c8 => ?_)
              · replace hF := (if_neg c8).symm.trans hF
                refine ab_aload C 0 rfl dX8_changes_94 ?_
                refine ab_iload_n C 4 rfl rfl dX8_changes_96 ?_
                refine ab_iconst (v := (2 : Int32)) C dX8_changes_97 (by decide) ?_
                refine ab_iload C 5 rfl dX8_changes_98 ?_
                refine ab_imul C dX8_changes_100 ?_
                obtain ⟨v9, hxv9, hF⟩ := Option.bind_eq_some_iff.mp hF
                refine ab_cVR (v := .int v9) (st := []) C lm_X8_305 (X5_hasVowelsAlone_ok (xl X) hBdq6 (r := v9) hxv9) [.int x3, .int ((2 : Int32) * x4)] rfl hBdq6.1 rfl rfl rfl (by decide) ⟨by decide, by decide⟩ (Nat.le_of_ble_eq_true rfl) dX8_changes_101 ?_
                refine ab_if_ne C 110 dX8_changes_104 (by decide) (fun c10 => ?_) (fun c10 => ?_)
                · replace hF := (if_neg c10).symm.trans hF
                  refine ab_aload_n C 1 rfl rfl dX8_changes_110 ?_
                  refine ab_g8 (v := .ref 44) C lf_X8_70 hBxo rfl dX8_changes_111 ?_
                  refine ab_aload C 0 rfl dX8_changes_114 ?_
                  refine ab_iload_n C 4 rfl rfl dX8_changes_116 ?_
                  refine ab_iload C 5 rfl dX8_changes_117 ?_
                  obtain ⟨v11, hxv11, hF⟩ := Option.bind_eq_some_iff.mp hF
                  refine ab_cVN (st := []) C lm_X8_308 (X1_compare_ok (xl X) hBfinder hBdq6 (by omega) (r := v11) hxv11) [.ref q6, .int x3, .int x4] rfl hBfinder.1 rfl rfl rfl (by decide) ⟨by decide, by decide⟩ (Nat.le_of_ble_eq_true rfl) dX8_changes_119 (fun g12 pg12 => ?_)
                  obtain ⟨k0, Og12⟩ := pg12
                  have hBfinder : X1_at g12 44 v11 := k0
                  have hBxo : X8_at g12 := (Og12 4 (by omega)).trans hBxo
                  have hBdq6 : X5_at g12 q6 (D0.2.2.2.1 (26 + x1.toNatClampNeg)) (D0.2.2.2.2.1 (26 + x1.toNatClampNeg)) := X5_off hBdq6 (fun q i1 i2 => Og12 q (by omega))
                  have hD : xD g12 D0 := xD_off hD (fun q i1 => Og12 q (by omega))
                  have hFr : ∀ q, q < 66 → q ≠ 17 → q ≠ 18 → (q < 44 ∨ 44 + 2 ≤ q) → g12 q = h q := fun q u0 u1 u2 u3 => (Og12 q (by omega)).trans (hFr q u0 u1 u2 u3)
                  refine ab_iload C 6 rfl dX8_changes_122 ?_
                  refine ab_bipush (v := (-4 : Int32)) C dX8_changes_124 (by decide) ?_
                  refine ab_icmp_ne C 139 dX8_changes_126 (by decide) (fun c13 => ?_) (fun c13 => ?_)
                  · replace hF := (if_neg c13).symm.trans hF
                    refine ab_aload_n C 1 rfl rfl dX8_changes_139 ?_
                    refine ab_g8 (v := .ref 44) C lf_X8_70 hBxo rfl dX8_changes_140 ?_
                    refine ab_iload C 6 rfl dX8_changes_143 ?_
                    obtain ⟨v14, hxv14, hF⟩ := Option.bind_eq_some_iff.mp hF
                    refine ab_cVR (v := .int v14) (st := []) C lm_X8_315 (X1_becomes_ok (xl X) hBfinder (r := v14) hxv14) [.int x5] rfl hBfinder.1 rfl rfl rfl (by decide) ⟨by decide, by decide⟩ (Nat.le_of_ble_eq_true rfl) dX8_changes_145 ?_
                    obtain rfl := Option.some.inj hF
                    exact ab_iret C R0 rfl dX8_changes_148 ⟨rfl, rfl, hBfinder, hD, hFr⟩
                  · replace hF := (if_pos c13).symm.trans hF
                    refine ab_aload_n C 1 rfl rfl dX8_changes_129 ?_
                    refine ab_g8 (v := .ref 44) C lf_X8_70 hBxo rfl dX8_changes_130 ?_
                    obtain ⟨v15, hxv15, hF⟩ := Option.bind_eq_some_iff.mp hF
                    refine ab_cVR (v := .int v15) (st := []) C lm_X8_312 (X1_howMany_ok (xl X) hBfinder (r := v15) hxv15) [] rfl hBfinder.1 rfl rfl rfl (by decide) ⟨by decide, by decide⟩ (Nat.le_of_ble_eq_true rfl) dX8_changes_133 ?_
                    refine ab_goto C 148 dX8_changes_136 (by decide) ?_
                    obtain rfl := Option.some.inj hF
                    exact ab_iret C R0 rfl dX8_changes_148 ⟨rfl, rfl, hBfinder, hD, hFr⟩
                · replace hF := (if_pos c10).symm.trans hF
                  refine ab_bipush (v := (-2 : Int32)) C dX8_changes_107 (by decide) ?_
                  obtain rfl := Option.some.inj hF
                  exact ab_iret C R0 rfl dX8_changes_109 ⟨rfl, rfl, hBfinder, hD, hFr⟩
              · replace hF := (if_pos c8).symm.trans hF
                refine ab_bipush (v := (-13 : Int32)) C dX8_changes_91 (by decide) ?_
                obtain rfl := Option.some.inj hF
                exact ab_iret C R0 rfl dX8_changes_93 ⟨rfl, rfl, hBfinder, hD, hFr⟩
            · replace hF := (if_neg c7).symm.trans hF
              refine ab_bipush (v := (-12 : Int32)) C dX8_changes_75 (by decide) ?_
              obtain rfl := Option.some.inj hF
              exact ab_iret C R0 rfl dX8_changes_77 ⟨rfl, rfl, hBfinder, hD, hFr⟩
        · replace hF := (if_neg c4).symm.trans hF
          refine ab_iload C 5 rfl dX8_changes_38 ?_
          refine ab_iconst (v := (0 : Int32)) C dX8_changes_40 (by decide) ?_
          refine ab_iconst (v := (4 : Int32)) C dX8_changes_41 (by decide) ?_
          refine ab_cSR (v := .int (X8_within x5 (0 : Int32) (4 : Int32))) (st := []) C lm_X8_74 (X8_within_ok (xl X) (r := (X8_within x5 (0 : Int32) (4 : Int32))) rfl) rfl rfl (by decide) ⟨by decide, by decide⟩ (Nat.le_of_ble_eq_true rfl) dX8_changes_42 ?_
          refine ab_if_ne C 50 dX8_changes_45 (by decide) (fun c16 => ?_) (fun c16 => ?_)
          · replace hF := (if_neg c16).symm.trans hF
            refine ab_aload_n C 0 rfl rfl dX8_changes_50 ?_
            refine ab_g8 (v := .ref 18) C lf_X8_36 hBxo rfl dX8_changes_51 ?_
            refine ab_iload_n C 1 rfl rfl dX8_changes_54 ?_
            obtain ⟨o17, hxo17, hF⟩ := Option.bind_eq_some_iff.mp hF
            obtain ⟨hio17, hvo17⟩ := rdQ_s hxo17
            refine ab_aaload4 C hD.2.1 hio17 dX8_changes_55 ?_
            rw [hvo17]
            rcases o17 with _ | q18
            · replace hF := aQs_n hF
              show aV X G 7 56 [(0, .ref 4), (1, .int x1), (2, .int x2), (3, .int x3), (4, .int x4), (5, .int x5)] [.null] h (D0.2.2.2.2.2) 0 0
              refine ab_astoreN (lv' := [(6, .null), (0, .ref 4), (1, .int x1), (2, .int x2), (3, .int x3), (4, .int x4), (5, .int x5)]) C dX8_changes_56 (by decide) rfl ?_
              refine ab_aloadN C 0 rfl dX8_changes_58 ?_
              refine ab_ifnonnullN C dX8_changes_60 ?_
              refine ab_bipush (v := (-11 : Int32)) C dX8_changes_63 (by decide) ?_
              obtain rfl := Option.some.inj hF
              exact ab_iret C R0 rfl dX8_changes_65 ⟨rfl, rfl, hBfinder, hD, hFr⟩
            · replace hF := aQs_s hF
              show aV X G 7 56 [(0, .ref 4), (1, .int x1), (2, .int x2), (3, .int x3), (4, .int x4), (5, .int x5)] [.ref q18] h (D0.2.2.2.2.2) 0 0
              have hdq18k : x1.toNatClampNeg < 4 := vp_lt hio17
              have hdq18q : D0.2.2.1 x1.toNatClampNeg = some q18 := hvo17
              obtain ⟨hdq18l, hdq18u, hBdq18⟩ := xD_getS hD hdq18k hdq18q
              refine ab_astore (lv' := [(6, .ref q18), (0, .ref 4), (1, .int x1), (2, .int x2), (3, .int x3), (4, .int x4), (5, .int x5)]) C dX8_changes_56 (by decide) rfl ?_
              refine ab_aload C 0 rfl dX8_changes_58 ?_
              refine ab_ifnonnull C 66 dX8_changes_60 (by decide) ?_
              refine ab_aload C 0 rfl dX8_changes_66 ?_
              refine ab_g5 (v := .int ((D0.2.2.2.2.1 (26 + x1.toNatClampNeg)).1 0)) C lf_X8_285 hBdq18.1 rfl dX8_changes_68 ?_
              refine ab_iload_n C 3 rfl rfl dX8_changes_71 ?_
              refine ab_icmp_eq C 78 dX8_changes_72 (by decide) (fun c19 => ?_) (fun c19 => ?_)
              · replace hF := (if_pos c19).symm.trans hF
                refine ab_aload C 0 rfl dX8_changes_78 ?_
                refine ab_iload_n C 4 rfl rfl dX8_changes_80 ?_
                refine ab_iconst (v := (2 : Int32)) C dX8_changes_81 (by decide) ?_
                refine ab_iload C 5 rfl dX8_changes_82 ?_
                refine ab_imul C dX8_changes_84 ?_
                refine ab_cVR (v := .int (X5_reaches (D0.2.2.2.1 (26 + x1.toNatClampNeg)) (D0.2.2.2.2.1 (26 + x1.toNatClampNeg)) x3 ((2 : Int32) * x4))) (st := []) C lm_X8_290 (X5_reaches_ok (xl X) hBdq18 (r := (X5_reaches (D0.2.2.2.1 (26 + x1.toNatClampNeg)) (D0.2.2.2.2.1 (26 + x1.toNatClampNeg)) x3 ((2 : Int32) * x4))) rfl) [.int x3, .int ((2 : Int32) * x4)] rfl hBdq18.1 rfl rfl rfl (by decide) ⟨by decide, by decide⟩ (Nat.le_of_ble_eq_true rfl) dX8_changes_85 ?_
                refine ab_if_ne C 94 dX8_changes_88 (by decide) (fun c20 => ?_) (fun c20 => ?_)
                · replace hF := (if_neg c20).symm.trans hF
                  refine ab_aload C 0 rfl dX8_changes_94 ?_
                  refine ab_iload_n C 4 rfl rfl dX8_changes_96 ?_
                  refine ab_iconst (v := (2 : Int32)) C dX8_changes_97 (by decide) ?_
                  refine ab_iload C 5 rfl dX8_changes_98 ?_
                  refine ab_imul C dX8_changes_100 ?_
                  obtain ⟨v21, hxv21, hF⟩ := Option.bind_eq_some_iff.mp hF
                  refine ab_cVR (v := .int v21) (st := []) C lm_X8_305 (X5_hasVowelsAlone_ok (xl X) hBdq18 (r := v21) hxv21) [.int x3, .int ((2 : Int32) * x4)] rfl hBdq18.1 rfl rfl rfl (by decide) ⟨by decide, by decide⟩ (Nat.le_of_ble_eq_true rfl) dX8_changes_101 ?_
                  refine ab_if_ne C 110 dX8_changes_104 (by decide) (fun c22 => ?_) (fun c22 => ?_)
                  · replace hF := (if_neg c22).symm.trans hF
                    refine ab_aload_n C 1 rfl rfl dX8_changes_110 ?_
                    refine ab_g8 (v := .ref 44) C lf_X8_70 hBxo rfl dX8_changes_111 ?_
                    refine ab_aload C 0 rfl dX8_changes_114 ?_
                    refine ab_iload_n C 4 rfl rfl dX8_changes_116 ?_
                    refine ab_iload C 5 rfl dX8_changes_117 ?_
                    obtain ⟨v23, hxv23, hF⟩ := Option.bind_eq_some_iff.mp hF
                    refine ab_cVN (st := []) C lm_X8_308 (X1_compare_ok (xl X) hBfinder hBdq18 (by omega) (r := v23) hxv23) [.ref q18, .int x3, .int x4] rfl hBfinder.1 rfl rfl rfl (by decide) ⟨by decide, by decide⟩ (Nat.le_of_ble_eq_true rfl) dX8_changes_119 (fun g24 pg24 => ?_)
                    obtain ⟨k0, Og24⟩ := pg24
                    have hBfinder : X1_at g24 44 v23 := k0
                    have hBxo : X8_at g24 := (Og24 4 (by omega)).trans hBxo
                    have hBdq18 : X5_at g24 q18 (D0.2.2.2.1 (26 + x1.toNatClampNeg)) (D0.2.2.2.2.1 (26 + x1.toNatClampNeg)) := X5_off hBdq18 (fun q i1 i2 => Og24 q (by omega))
                    have hD : xD g24 D0 := xD_off hD (fun q i1 => Og24 q (by omega))
                    have hFr : ∀ q, q < 66 → q ≠ 17 → q ≠ 18 → (q < 44 ∨ 44 + 2 ≤ q) → g24 q = h q := fun q u0 u1 u2 u3 => (Og24 q (by omega)).trans (hFr q u0 u1 u2 u3)
                    refine ab_iload C 6 rfl dX8_changes_122 ?_
                    refine ab_bipush (v := (-4 : Int32)) C dX8_changes_124 (by decide) ?_
                    refine ab_icmp_ne C 139 dX8_changes_126 (by decide) (fun c25 => ?_) (fun c25 => ?_)
                    · replace hF := (if_neg c25).symm.trans hF
                      refine ab_aload_n C 1 rfl rfl dX8_changes_139 ?_
                      refine ab_g8 (v := .ref 44) C lf_X8_70 hBxo rfl dX8_changes_140 ?_
                      refine ab_iload C 6 rfl dX8_changes_143 ?_
                      obtain ⟨v26, hxv26, hF⟩ := Option.bind_eq_some_iff.mp hF
                      refine ab_cVR (v := .int v26) (st := []) C lm_X8_315 (X1_becomes_ok (xl X) hBfinder (r := v26) hxv26) [.int x5] rfl hBfinder.1 rfl rfl rfl (by decide) ⟨by decide, by decide⟩ (Nat.le_of_ble_eq_true rfl) dX8_changes_145 ?_
                      obtain rfl := Option.some.inj hF
                      exact ab_iret C R0 rfl dX8_changes_148 ⟨rfl, rfl, hBfinder, hD, hFr⟩
                    · replace hF := (if_pos c25).symm.trans hF
                      refine ab_aload_n C 1 rfl rfl dX8_changes_129 ?_
                      refine ab_g8 (v := .ref 44) C lf_X8_70 hBxo rfl dX8_changes_130 ?_
                      obtain ⟨v27, hxv27, hF⟩ := Option.bind_eq_some_iff.mp hF
                      refine ab_cVR (v := .int v27) (st := []) C lm_X8_312 (X1_howMany_ok (xl X) hBfinder (r := v27) hxv27) [] rfl hBfinder.1 rfl rfl rfl (by decide) ⟨by decide, by decide⟩ (Nat.le_of_ble_eq_true rfl) dX8_changes_133 ?_
                      refine ab_goto C 148 dX8_changes_136 (by decide) ?_
                      obtain rfl := Option.some.inj hF
                      exact ab_iret C R0 rfl dX8_changes_148 ⟨rfl, rfl, hBfinder, hD, hFr⟩
                  · replace hF := (if_pos c22).symm.trans hF
                    refine ab_bipush (v := (-2 : Int32)) C dX8_changes_107 (by decide) ?_
                    obtain rfl := Option.some.inj hF
                    exact ab_iret C R0 rfl dX8_changes_109 ⟨rfl, rfl, hBfinder, hD, hFr⟩
                · replace hF := (if_pos c20).symm.trans hF
                  refine ab_bipush (v := (-13 : Int32)) C dX8_changes_91 (by decide) ?_
                  obtain rfl := Option.some.inj hF
                  exact ab_iret C R0 rfl dX8_changes_93 ⟨rfl, rfl, hBfinder, hD, hFr⟩
              · replace hF := (if_neg c19).symm.trans hF
                refine ab_bipush (v := (-12 : Int32)) C dX8_changes_75 (by decide) ?_
                obtain rfl := Option.some.inj hF
                exact ab_iret C R0 rfl dX8_changes_77 ⟨rfl, rfl, hBfinder, hD, hFr⟩
          · replace hF := (if_pos c16).symm.trans hF
            refine ab_iconst (v := (-1 : Int32)) C dX8_changes_48 (by decide) ?_
            obtain rfl := Option.some.inj hF
            exact ab_iret C R0 rfl dX8_changes_49 ⟨rfl, rfl, hBfinder, hD, hFr⟩
    · replace hF := (if_pos c2).symm.trans hF
      refine ab_iconst (v := (-1 : Int32)) C dX8_changes_18 (by decide) ?_
      obtain rfl := Option.some.inj hF
      exact ab_iret C R0 rfl dX8_changes_19 ⟨rfl, rfl, hBfinder, hD, hFr⟩
