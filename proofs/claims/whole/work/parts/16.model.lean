/-! printed by a program from the bytecode: what each method answers, as numbers, and that it answers so -/
theorem dX9_first_0 : decode cX9_first 0 = .ok (.aload_n 0, 1) := by decide +kernel
theorem dX9_first_1 : decode cX9_first 1 = .ok (.iload_n 1, 1) := by decide +kernel
theorem dX9_first_2 : decode cX9_first 2 = .ok (.invokevirtual 153, 3) := by decide +kernel
theorem dX9_first_5 : decode cX9_first 5 = .ok (.ifCond .eq 11, 3) := by decide +kernel
theorem dX9_first_8 : decode cX9_first 8 = .ok (.aload_n 0, 1) := by decide +kernel
theorem dX9_first_9 : decode cX9_first 9 = .ok (.iload_n 2, 1) := by decide +kernel
theorem dX9_first_10 : decode cX9_first 10 = .ok (.invokevirtual 179, 3) := by decide +kernel
theorem dX9_first_13 : decode cX9_first 13 = .ok (.ifCond .ne 5, 3) := by decide +kernel
theorem dX9_first_16 : decode cX9_first 16 = .ok (.iconst (-1), 1) := by decide +kernel
theorem dX9_first_17 : decode cX9_first 17 = .ok (.ireturn, 1) := by decide +kernel
theorem dX9_first_18 : decode cX9_first 18 = .ok (.aload_n 0, 1) := by decide +kernel
theorem dX9_first_19 : decode cX9_first 19 = .ok (.invokevirtual 195, 3) := by decide +kernel
theorem dX9_first_22 : decode cX9_first 22 = .ok (.iconst 0, 1) := by decide +kernel
theorem dX9_first_23 : decode cX9_first 23 = .ok (.istore_n 3, 1) := by decide +kernel
theorem dX9_first_24 : decode cX9_first 24 = .ok (.iload_n 3, 1) := by decide +kernel
theorem dX9_first_25 : decode cX9_first 25 = .ok (.bipush 60, 2) := by decide +kernel
theorem dX9_first_27 : decode cX9_first 27 = .ok (.if_icmp .gt 32, 3) := by decide +kernel
theorem dX9_first_30 : decode cX9_first 30 = .ok (.aload_n 0, 1) := by decide +kernel
theorem dX9_first_31 : decode cX9_first 31 = .ok (.getfield 16, 3) := by decide +kernel
theorem dX9_first_34 : decode cX9_first 34 = .ok (.iload_n 1, 1) := by decide +kernel
theorem dX9_first_35 : decode cX9_first 35 = .ok (.iload_n 2, 1) := by decide +kernel
theorem dX9_first_36 : decode cX9_first 36 = .ok (.invokestatic 162, 3) := by decide +kernel
theorem dX9_first_39 : decode cX9_first 39 = .ok (.ifCond .eq 5, 3) := by decide +kernel
theorem dX9_first_42 : decode cX9_first 42 = .ok (.iload_n 3, 1) := by decide +kernel
theorem dX9_first_43 : decode cX9_first 43 = .ok (.ireturn, 1) := by decide +kernel
theorem dX9_first_44 : decode cX9_first 44 = .ok (.aload_n 0, 1) := by decide +kernel
theorem dX9_first_45 : decode cX9_first 45 = .ok (.getfield 16, 3) := by decide +kernel
theorem dX9_first_48 : decode cX9_first 48 = .ok (.invokestatic 189, 3) := by decide +kernel
theorem dX9_first_51 : decode cX9_first 51 = .ok (.istore 4, 2) := by decide +kernel
theorem dX9_first_53 : decode cX9_first 53 = .ok (.iinc 3 1, 3) := by decide +kernel
theorem dX9_first_56 : decode cX9_first 56 = .ok (.goto (-32), 3) := by decide +kernel
theorem dX9_first_59 : decode cX9_first 59 = .ok (.bipush (-4), 2) := by decide +kernel
theorem dX9_first_61 : decode cX9_first 61 = .ok (.ireturn, 1) := by decide +kernel
def X9_first_L24 (x1 : Int32) (x2 : Int32) : Nat → Int32 → Rec → Option ((Int32 × Rec) ⊕ (Rec))
  | 0, _, _ => none
  | n24 + 1, v7, Z8 => if (60 : Int32) < v7 then
      some (.inr Z8)
    else
      (X9_can (Z8.2.1 2) x1 x2).bind fun v11 =>
      if v11 = 0 then
        (X9_goOn (Z8.2.1 2)).bind fun v13 =>
        aLet (v7 + (1 : Int32)) fun v15 =>
        X9_first_L24 x1 x2 n24 v15 (sA Z8 2 v13.2)
      else
        some (.inl (v7, Z8))
def X9_first (S0 : Rec) (x1 : Int32) (x2 : Int32) : Option (Int32 × Rec) :=
  (X9_isHolder S0 x1).bind fun v1 =>
  if v1 = 0 then
    some ((-1 : Int32), S0)
  else
    (X9_isWord S0 x2).bind fun v3 =>
    if v3 = 0 then
      some ((-1 : Int32), S0)
    else
      (X9_layThen S0).bind fun v5 =>
      (X9_first_L24 x1 x2 aFu (0 : Int32) v5).bind fun e16 =>
      aCs e16 (fun t19 => some t19) (fun s18 =>
        some ((-4 : Int32), s18))
set_option maxRecDepth 100000 in
set_option maxHeartbeats 4000000 in
theorem X9_first_ok (l : Launch) {h : aH} {nx : Nat} {a0 : Nat} {S0 : Rec} {x1 : Int32} {x2 : Int32} (hB0 : X9_at h a0 S0) {r : Int32 × Rec} (hF : X9_first S0 x1 x2 = some r) : aOk l 5 0 0 yX9_first cX9_first 5 (some .int) [.ref a0, .int x1, .int x2] h nx (aMt (some (.int r.1)) nx (fun h1 => X9_at h1 a0 r.2 ∧ (∀ q, (q < a0 ∨ a0 + 20 ≤ q) → h1 q = h q))) := by
  refine aOk.of (by decide +kernel) (Nat.le_of_ble_eq_true rfl) (fun X G hX C R0 _ => ?_)
  subst hX
  show aV X G 5 0 [(0, .ref a0), (1, .int x1), (2, .int x2)] [] h nx 0 0
  have hFr : ∀ q, (q < a0 ∨ a0 + 20 ≤ q) → h q = h q := fun _ _ => rfl
  rw [X9_first] at hF
  refine ab_aload_n C 0 rfl rfl dX9_first_0 ?_
  refine ab_iload_n C 1 rfl rfl dX9_first_1 ?_
  obtain ⟨v1, hxv1, hF⟩ := Option.bind_eq_some_iff.mp hF
  refine ab_cVR (v := .int v1) (st := []) C lm_X9_153 (X9_isHolder_ok (xl X) hB0 (r := v1) hxv1) [.int x1] rfl hB0.1 rfl rfl rfl (by decide) ⟨Nat.zero_le _, Nat.zero_le _⟩ (Nat.le_of_ble_eq_true rfl) dX9_first_2 ?_
  refine ab_if_eq C 16 dX9_first_5 (by decide) (fun c2 => ?_) (fun c2 => ?_)
  · replace hF := (if_pos c2).symm.trans hF
    refine ab_iconst (v := (-1 : Int32)) C dX9_first_16 (by decide) ?_
    obtain rfl := Option.some.inj hF
    exact ab_iret C R0 rfl dX9_first_17 ⟨rfl, rfl, hB0, hFr⟩
  · replace hF := (if_neg c2).symm.trans hF
    refine ab_aload_n C 0 rfl rfl dX9_first_8 ?_
    refine ab_iload_n C 2 rfl rfl dX9_first_9 ?_
    obtain ⟨v3, hxv3, hF⟩ := Option.bind_eq_some_iff.mp hF
    refine ab_cVR (v := .int v3) (st := []) C lm_X9_179 (X9_isWord_ok (xl X) hB0 (r := v3) hxv3) [.int x2] rfl hB0.1 rfl rfl rfl (by decide) ⟨Nat.zero_le _, Nat.zero_le _⟩ (Nat.le_of_ble_eq_true rfl) dX9_first_10 ?_
    refine ab_if_ne C 18 dX9_first_13 (by decide) (fun c4 => ?_) (fun c4 => ?_)
    · replace hF := (if_neg c4).symm.trans hF
      refine ab_aload_n C 0 rfl rfl dX9_first_18 ?_
      obtain ⟨v5, hxv5, hF⟩ := Option.bind_eq_some_iff.mp hF
      refine ab_cVN (st := []) C lm_X9_195 (X9_layThen_ok (xl X) hB0 (r := v5) hxv5) [] rfl hB0.1 rfl rfl rfl (by decide) ⟨Nat.zero_le _, Nat.zero_le _⟩ (Nat.le_of_ble_eq_true rfl) dX9_first_19 (fun g6 pg6 => ?_)
      obtain ⟨k0, Og6⟩ := pg6
      have hB0 : X9_at g6 a0 v5 := k0
      have hFr : ∀ q, (q < a0 ∨ a0 + 20 ≤ q) → g6 q = h q := fun q u0 => (Og6 q (by omega)).trans (hFr q u0)
      refine ab_iconst (v := (0 : Int32)) C dX9_first_22 (by decide) ?_
      refine ab_istore_n (lv' := [(3, .int (0 : Int32)), (0, .ref a0), (1, .int x1), (2, .int x2)]) C dX9_first_23 rfl (by decide) rfl ?_
      have L24 : ∀ (n24 : Nat) (v7 : Int32) (Z8 : Rec) (g9 : aH), (X9_at g9 a0 Z8) → (∀ q, (q < a0 ∨ a0 + 20 ≤ q) → g9 q = h q) → ∀ (res24 : (Int32 × Rec) ⊕ (Rec)), X9_first_L24 x1 x2 n24 v7 Z8 = some res24 → (∀ (s : Rec) (q9 : aH), (X9_at q9 a0 s) → (∀ q, (q < a0 ∨ a0 + 20 ≤ q) → q9 q = h q) → res24 = .inr s → aV X G 5 59 [] [] q9 nx 0 0) → (∀ (t : Int32 × Rec) (q9 : aH), (X9_at q9 a0 t.2) → (∀ q, (q < a0 ∨ a0 + 20 ≤ q) → q9 q = h q) → res24 = .inl t → (aMt (some (.int r.1)) nx (fun h1 => X9_at h1 a0 r.2 ∧ (∀ q, (q < a0 ∨ a0 + 20 ≤ q) → h1 q = h q))) (some (.int t.1)) q9 nx) → aV X G 5 24 [(0, .ref a0), (1, .int x1), (2, .int x2), (3, .int v7)] [] g9 nx 0 0 := by
        intro n24
        induction n24 with
        | zero => intro v7 Z8 g9 hB0 hFr res24 hF KX24 KR24; cases (show (none : Option ((Int32 × Rec) ⊕ (Rec))) = some res24 from hF)
        | succ n24 ih24 =>
          intro v7 Z8 g9 hB0 hFr res24 hF KX24 KR24
          rw [X9_first_L24] at hF
          refine ab_iload_n C 3 rfl rfl dX9_first_24 ?_
          refine ab_bipush (v := (60 : Int32)) C dX9_first_25 (by decide) ?_
          refine ab_icmp_gt C 59 dX9_first_27 (by decide) (fun c10 => ?_) (fun c10 => ?_)
          · replace hF := (if_pos c10).symm.trans hF
            obtain rfl := Option.some.inj hF
            refine aV.sub (lv' := []) [] rfl ?_
            exact KX24 Z8 g9 hB0 hFr rfl
          · replace hF := (if_neg c10).symm.trans hF
            refine ab_aload_n C 0 rfl rfl dX9_first_30 ?_
            refine ab_g9 (v := .ref (a0 + 3)) C lf_X9_16 hB0.1 rfl dX9_first_31 ?_
            refine ab_iload_n C 1 rfl rfl dX9_first_34 ?_
            refine ab_iload_n C 2 rfl rfl dX9_first_35 ?_
            obtain ⟨v11, hxv11, hF⟩ := Option.bind_eq_some_iff.mp hF
            refine ab_cSR (v := .int v11) (st := []) C lm_X9_162 (X9_can_ok (xl X) (X9_r2 hB0) (r := v11) hxv11) rfl rfl (by decide) ⟨Nat.zero_le _, Nat.zero_le _⟩ (Nat.le_of_ble_eq_true rfl) dX9_first_36 ?_
            refine ab_if_eq C 44 dX9_first_39 (by decide) (fun c12 => ?_) (fun c12 => ?_)
            · replace hF := (if_pos c12).symm.trans hF
              refine ab_aload_n C 0 rfl rfl dX9_first_44 ?_
              refine ab_g9 (v := .ref (a0 + 3)) C lf_X9_16 hB0.1 rfl dX9_first_45 ?_
              obtain ⟨v13, hxv13, hF⟩ := Option.bind_eq_some_iff.mp hF
              refine ab_cSM (v := .int v13.1) (st := []) C lm_X9_189 (X9_goOn_ok (xl X) (X9_r2 hB0) (r := v13) hxv13) rfl rfl (by decide) ⟨Nat.zero_le _, Nat.zero_le _⟩ (Nat.le_of_ble_eq_true rfl) dX9_first_48 (fun g14 pg14 => ?_)
              obtain ⟨k0, Og14⟩ := pg14
              have hB0 : X9_at g14 a0 (sA Z8 2 v13.2) := X9_w2 hB0 k0 (fun q i1 => Og14 q (by omega))
              have hFr : ∀ q, (q < a0 ∨ a0 + 20 ≤ q) → g14 q = h q := fun q u0 => (Og14 q (by omega)).trans (hFr q u0)
              refine ab_istore (lv' := [(4, .int v13.1), (0, .ref a0), (1, .int x1), (2, .int x2), (3, .int v7)]) C dX9_first_51 (by decide) rfl ?_
              obtain ⟨v15, qv15⟩ : ∃ y : Int32, y = (v7 + (1 : Int32)) := ⟨_, rfl⟩
              replace hF := aLet_e hF v15 qv15
              refine ab_iinc (lv' := [(3, .int v15), (4, .int v13.1), (0, .ref a0), (1, .int x1), (2, .int x2)]) C 4 rfl dX9_first_53 (by rw [qv15]; rfl) (by decide) rfl ?_
              refine ab_goto C 24 dX9_first_56 (by decide) ?_
              refine aV.sub (lv' := [(0, .ref a0), (1, .int x1), (2, .int x2), (3, .int v15)]) [2, 3, 4, 0] rfl ?_
              exact ih24 v15 (sA Z8 2 v13.2) g14 hB0 hFr res24 hF KX24 KR24
            · replace hF := (if_neg c12).symm.trans hF
              refine ab_iload_n C 3 rfl rfl dX9_first_42 ?_
              obtain rfl := Option.some.inj hF
              exact ab_iret C R0 rfl dX9_first_43 (KR24 (v7, Z8) g9 hB0 hFr rfl)
      refine aV.sub (lv' := [(0, .ref a0), (1, .int x1), (2, .int x2), (3, .int (0 : Int32))]) [1, 2, 3, 0] rfl ?_
      obtain ⟨e16, he16, hF⟩ := Option.bind_eq_some_iff.mp hF
      refine L24 aFu (0 : Int32) v5 g6 hB0 hFr e16 he16 (fun s18 g17 hB0 hFr eqs18 => ?_) (fun t19 g20 hB0 hFr eqt19 => ?_)
      · subst eqs18
        replace hF := aCs_r hF
        refine ab_bipush (v := (-4 : Int32)) C dX9_first_59 (by decide) ?_
        obtain rfl := Option.some.inj hF
        exact ab_iret C R0 rfl dX9_first_61 ⟨rfl, rfl, hB0, hFr⟩
      · subst eqt19
        replace hF := aCs_l hF
        obtain rfl := Option.some.inj hF
        exact ⟨rfl, rfl, hB0, hFr⟩
    · replace hF := (if_pos c4).symm.trans hF
      refine ab_iconst (v := (-1 : Int32)) C dX9_first_16 (by decide) ?_
      obtain rfl := Option.some.inj hF
      exact ab_iret C R0 rfl dX9_first_17 ⟨rfl, rfl, hB0, hFr⟩
theorem dX9_later_0 : decode cX9_later 0 = .ok (.iload_n 1, 1) := by decide +kernel
theorem dX9_later_1 : decode cX9_later 1 = .ok (.istore_n 3, 1) := by decide +kernel
theorem dX9_later_2 : decode cX9_later 2 = .ok (.iconst 0, 1) := by decide +kernel
theorem dX9_later_3 : decode cX9_later 3 = .ok (.istore 4, 2) := by decide +kernel
theorem dX9_later_5 : decode cX9_later 5 = .ok (.iload 4, 2) := by decide +kernel
theorem dX9_later_7 : decode cX9_later 7 = .ok (.iload_n 2, 1) := by decide +kernel
theorem dX9_later_8 : decode cX9_later 8 = .ok (.if_icmp .ge 19, 3) := by decide +kernel
theorem dX9_later_11 : decode cX9_later 11 = .ok (.aload_n 0, 1) := by decide +kernel
theorem dX9_later_12 : decode cX9_later 12 = .ok (.getfield 7, 3) := by decide +kernel
theorem dX9_later_15 : decode cX9_later 15 = .ok (.bipush 11, 2) := by decide +kernel
theorem dX9_later_17 : decode cX9_later 17 = .ok (.iload_n 3, 1) := by decide +kernel
theorem dX9_later_18 : decode cX9_later 18 = .ok (.iadd, 1) := by decide +kernel
theorem dX9_later_19 : decode cX9_later 19 = .ok (.iaload, 1) := by decide +kernel
theorem dX9_later_20 : decode cX9_later 20 = .ok (.istore_n 3, 1) := by decide +kernel
theorem dX9_later_21 : decode cX9_later 21 = .ok (.iinc 4 1, 3) := by decide +kernel
theorem dX9_later_24 : decode cX9_later 24 = .ok (.goto (-19), 3) := by decide +kernel
theorem dX9_later_27 : decode cX9_later 27 = .ok (.iload_n 3, 1) := by decide +kernel
theorem dX9_later_28 : decode cX9_later 28 = .ok (.ireturn, 1) := by decide +kernel
def X9_later_L5 (x2 : Int32) (S0 : Rec) : Nat → Int32 → Int32 → Option (Int32)
  | 0, _, _ => none
  | n5 + 1, v1, v2 => if x2 ≤ v2 then
      some v1
    else
      (rdI (S0.2.1 0) 96 ((11 : Int32) + v1)).bind fun v4 =>
      aLet (v2 + (1 : Int32)) fun v5 =>
      X9_later_L5 x2 S0 n5 v4 v5
def X9_later (S0 : Rec) (x1 : Int32) (x2 : Int32) : Option (Int32) :=
  (X9_later_L5 x2 S0 aFu x1 (0 : Int32)).bind fun e6 =>
  some e6
set_option maxRecDepth 100000 in
set_option maxHeartbeats 4000000 in
theorem X9_later_ok (l : Launch) {h : aH} {nx : Nat} {a0 : Nat} {S0 : Rec} {x1 : Int32} {x2 : Int32} (hB0 : X9_at h a0 S0) {r : Int32} (hF : X9_later S0 x1 x2 = some r) : aOk l 0 0 0 yX9_later cX9_later 5 (some .int) [.ref a0, .int x1, .int x2] h nx (aRd (.int r) h nx) := by
  refine aOk.of (by decide +kernel) (Nat.le_of_ble_eq_true rfl) (fun X G hX C R0 _ => ?_)
  subst hX
  show aV X G 5 0 [(0, .ref a0), (1, .int x1), (2, .int x2)] [] h nx 0 0
  rw [X9_later] at hF
  refine ab_iload_n C 1 rfl rfl dX9_later_0 ?_
  refine ab_istore_n (lv' := [(3, .int x1), (0, .ref a0), (1, .int x1), (2, .int x2)]) C dX9_later_1 rfl (by decide) rfl ?_
  refine ab_iconst (v := (0 : Int32)) C dX9_later_2 (by decide) ?_
  refine ab_istore (lv' := [(4, .int (0 : Int32)), (3, .int x1), (0, .ref a0), (1, .int x1), (2, .int x2)]) C dX9_later_3 (by decide) rfl ?_
  have L5 : ∀ (n5 : Nat) (v1 : Int32) (v2 : Int32), ∀ (res5 : Int32), X9_later_L5 x2 S0 n5 v1 v2 = some res5 → (aV X G 5 27 [(3, .int res5)] [] h nx 0 0) → aV X G 5 5 [(0, .ref a0), (2, .int x2), (3, .int v1), (4, .int v2)] [] h nx 0 0 := by
    intro n5
    induction n5 with
    | zero => intro v1 v2 res5 hF KX5; cases (show (none : Option (Int32)) = some res5 from hF)
    | succ n5 ih5 =>
      intro v1 v2 res5 hF KX5
      rw [X9_later_L5] at hF
      refine ab_iload C 3 rfl dX9_later_5 ?_
      refine ab_iload_n C 1 rfl rfl dX9_later_7 ?_
      refine ab_icmp_ge C 27 dX9_later_8 (by decide) (fun c3 => ?_) (fun c3 => ?_)
      · replace hF := (if_pos c3).symm.trans hF
        obtain rfl := Option.some.inj hF
        refine aV.sub (lv' := [(3, .int v1)]) [2] rfl ?_
        exact KX5
      · replace hF := (if_neg c3).symm.trans hF
        refine ab_aload_n C 0 rfl rfl dX9_later_11 ?_
        refine ab_g9 (v := .ref (a0 + 1)) C lf_X9_7 hB0.1 rfl dX9_later_12 ?_
        refine ab_bipush (v := (11 : Int32)) C dX9_later_15 (by decide) ?_
        refine ab_iload_n C 2 rfl rfl dX9_later_17 ?_
        refine ab_iadd C dX9_later_18 ?_
        obtain ⟨v4, hxv4, hF⟩ := Option.bind_eq_some_iff.mp hF
        refine ab_iald C (X9_r0 hB0) hxv4 dX9_later_19 ?_
        refine ab_istore_n (lv' := [(3, .int v4), (0, .ref a0), (2, .int x2), (4, .int v2)]) C dX9_later_20 rfl (by decide) rfl ?_
        obtain ⟨v5, qv5⟩ : ∃ y : Int32, y = (v2 + (1 : Int32)) := ⟨_, rfl⟩
        replace hF := aLet_e hF v5 qv5
        refine ab_iinc (lv' := [(4, .int v5), (3, .int v4), (0, .ref a0), (2, .int x2)]) C 3 rfl dX9_later_21 (by rw [qv5]; rfl) (by decide) rfl ?_
        refine ab_goto C 5 dX9_later_24 (by decide) ?_
        refine aV.sub (lv' := [(0, .ref a0), (2, .int x2), (3, .int v4), (4, .int v5)]) [2, 3, 1, 0] rfl ?_
        exact ih5 v4 v5 res5 hF KX5
  refine aV.sub (lv' := [(0, .ref a0), (2, .int x2), (3, .int x1), (4, .int (0 : Int32))]) [2, 4, 1, 0] rfl ?_
  obtain ⟨e6, he6, hF⟩ := Option.bind_eq_some_iff.mp hF
  refine L5 aFu x1 (0 : Int32) e6 he6 ?_
  refine ab_iload_n C 0 rfl rfl dX9_later_27 ?_
  obtain rfl := Option.some.inj hF
  exact ab_iret C R0 rfl dX9_later_28 ⟨rfl, rfl, rfl⟩
theorem dX9_areAlike_0 : decode cX9_areAlike 0 = .ok (.iconst 1, 1) := by decide +kernel
theorem dX9_areAlike_1 : decode cX9_areAlike 1 = .ok (.istore_n 3, 1) := by decide +kernel
theorem dX9_areAlike_2 : decode cX9_areAlike 2 = .ok (.iconst 0, 1) := by decide +kernel
theorem dX9_areAlike_3 : decode cX9_areAlike 3 = .ok (.istore 4, 2) := by decide +kernel
theorem dX9_areAlike_5 : decode cX9_areAlike 5 = .ok (.iload 4, 2) := by decide +kernel
theorem dX9_areAlike_7 : decode cX9_areAlike 7 = .ok (.iconst 5, 1) := by decide +kernel
theorem dX9_areAlike_8 : decode cX9_areAlike 8 = .ok (.if_icmp .ge 49, 3) := by decide +kernel
theorem dX9_areAlike_11 : decode cX9_areAlike 11 = .ok (.iload_n 3, 1) := by decide +kernel
theorem dX9_areAlike_12 : decode cX9_areAlike 12 = .ok (.ifCond .eq 37, 3) := by decide +kernel
theorem dX9_areAlike_15 : decode cX9_areAlike 15 = .ok (.aload_n 0, 1) := by decide +kernel
theorem dX9_areAlike_16 : decode cX9_areAlike 16 = .ok (.getfield 7, 3) := by decide +kernel
theorem dX9_areAlike_19 : decode cX9_areAlike 19 = .ok (.iconst (-1), 1) := by decide +kernel
theorem dX9_areAlike_20 : decode cX9_areAlike 20 = .ok (.iload 4, 2) := by decide +kernel
theorem dX9_areAlike_22 : decode cX9_areAlike 22 = .ok (.invokestatic 141, 3) := by decide +kernel
theorem dX9_areAlike_25 : decode cX9_areAlike 25 = .ok (.ifCond .eq 20, 3) := by decide +kernel
theorem dX9_areAlike_28 : decode cX9_areAlike 28 = .ok (.aload_n 0, 1) := by decide +kernel
theorem dX9_areAlike_29 : decode cX9_areAlike 29 = .ok (.iload 4, 2) := by decide +kernel
theorem dX9_areAlike_31 : decode cX9_areAlike 31 = .ok (.iload_n 1, 1) := by decide +kernel
theorem dX9_areAlike_32 : decode cX9_areAlike 32 = .ok (.invokevirtual 198, 3) := by decide +kernel
theorem dX9_areAlike_35 : decode cX9_areAlike 35 = .ok (.aload_n 0, 1) := by decide +kernel
theorem dX9_areAlike_36 : decode cX9_areAlike 36 = .ok (.iload 4, 2) := by decide +kernel
theorem dX9_areAlike_38 : decode cX9_areAlike 38 = .ok (.iload_n 2, 1) := by decide +kernel
theorem dX9_areAlike_39 : decode cX9_areAlike 39 = .ok (.invokevirtual 198, 3) := by decide +kernel
theorem dX9_areAlike_42 : decode cX9_areAlike 42 = .ok (.if_icmp .ne 7, 3) := by decide +kernel
theorem dX9_areAlike_45 : decode cX9_areAlike 45 = .ok (.iconst 1, 1) := by decide +kernel
theorem dX9_areAlike_46 : decode cX9_areAlike 46 = .ok (.goto 4, 3) := by decide +kernel
theorem dX9_areAlike_49 : decode cX9_areAlike 49 = .ok (.iconst 0, 1) := by decide +kernel
theorem dX9_areAlike_50 : decode cX9_areAlike 50 = .ok (.istore_n 3, 1) := by decide +kernel
theorem dX9_areAlike_51 : decode cX9_areAlike 51 = .ok (.iinc 4 1, 3) := by decide +kernel
theorem dX9_areAlike_54 : decode cX9_areAlike 54 = .ok (.goto (-49), 3) := by decide +kernel
theorem dX9_areAlike_57 : decode cX9_areAlike 57 = .ok (.iload_n 3, 1) := by decide +kernel
theorem dX9_areAlike_58 : decode cX9_areAlike 58 = .ok (.ireturn, 1) := by decide +kernel
def X9_areAlike_L5 (S0 : Rec) (x1 : Int32) (x2 : Int32) : Nat → Int32 → Int32 → Option (Int32)
  | 0, _, _ => none
  | n5 + 1, v1, v2 => if (5 : Int32) ≤ v2 then
      some v1
    else
      if v1 = 0 then
        aLet (v2 + (1 : Int32)) fun v5 =>
        X9_areAlike_L5 S0 x1 x2 n5 (0 : Int32) v5
      else
        (X9_cellsOf (S0.2.1 0) (-1 : Int32) v2).bind fun v6 =>
        if v6 = 0 then
          aLet (v2 + (1 : Int32)) fun v8 =>
          X9_areAlike_L5 S0 x1 x2 n5 (1 : Int32) v8
        else
          (X9_later S0 v2 x1).bind fun v9 =>
          (X9_later S0 v2 x2).bind fun v10 =>
          if v9 = v10 then
            aLet (v2 + (1 : Int32)) fun v13 =>
            X9_areAlike_L5 S0 x1 x2 n5 (1 : Int32) v13
          else
            aLet (v2 + (1 : Int32)) fun v12 =>
            X9_areAlike_L5 S0 x1 x2 n5 (0 : Int32) v12
def X9_areAlike (S0 : Rec) (x1 : Int32) (x2 : Int32) : Option (Int32) :=
  (X9_areAlike_L5 S0 x1 x2 aFu (1 : Int32) (0 : Int32)).bind fun e14 =>
  if vp_nar .boolean e14 = e14 then some e14 else none
set_option maxRecDepth 100000 in
set_option maxHeartbeats 4000000 in
theorem X9_areAlike_ok (l : Launch) {h : aH} {nx : Nat} {a0 : Nat} {S0 : Rec} {x1 : Int32} {x2 : Int32} (hB0 : X9_at h a0 S0) {r : Int32} (hF : X9_areAlike S0 x1 x2 = some r) : aOk l 2 0 0 yX9_areAlike cX9_areAlike 5 (some .boolean) [.ref a0, .int x1, .int x2] h nx (aRd (.int r) h nx) := by
  refine aOk.of (by decide +kernel) (Nat.le_of_ble_eq_true rfl) (fun X G hX C R0 _ => ?_)
  subst hX
  show aV X G 5 0 [(0, .ref a0), (1, .int x1), (2, .int x2)] [] h nx 0 0
  rw [X9_areAlike] at hF
  refine ab_iconst (v := (1 : Int32)) C dX9_areAlike_0 (by decide) ?_
  refine ab_istore_n (lv' := [(3, .int (1 : Int32)), (0, .ref a0), (1, .int x1), (2, .int x2)]) C dX9_areAlike_1 rfl (by decide) rfl ?_
  refine ab_iconst (v := (0 : Int32)) C dX9_areAlike_2 (by decide) ?_
  refine ab_istore (lv' := [(4, .int (0 : Int32)), (3, .int (1 : Int32)), (0, .ref a0), (1, .int x1), (2, .int x2)]) C dX9_areAlike_3 (by decide) rfl ?_
  have L5 : ∀ (n5 : Nat) (v1 : Int32) (v2 : Int32), ∀ (res5 : Int32), X9_areAlike_L5 S0 x1 x2 n5 v1 v2 = some res5 → (aV X G 5 57 [(3, .int res5)] [] h nx 0 0) → aV X G 5 5 [(0, .ref a0), (1, .int x1), (2, .int x2), (3, .int v1), (4, .int v2)] [] h nx 0 0 := by
    intro n5
    induction n5 with
    | zero => intro v1 v2 res5 hF KX5; cases (show (none : Option (Int32)) = some res5 from hF)
    | succ n5 ih5 =>
      intro v1 v2 res5 hF KX5
      rw [X9_areAlike_L5] at hF
      refine ab_iload C 4 rfl dX9_areAlike_5 ?_
      refine ab_iconst (v := (5 : Int32)) C dX9_areAlike_7 (by decide) ?_
      refine ab_icmp_ge C 57 dX9_areAlike_8 (by decide) (fun c3 => ?_) (fun c3 => ?_)
      · replace hF := (if_pos c3).symm.trans hF
        obtain rfl := Option.some.inj hF
        refine aV.sub (lv' := [(3, .int v1)]) [3] rfl ?_
        exact KX5
      · replace hF := (if_neg c3).symm.trans hF
        refine ab_iload_n C 3 rfl rfl dX9_areAlike_11 ?_
        refine ab_if_eq C 49 dX9_areAlike_12 (by decide) (fun c4 => ?_) (fun c4 => ?_)
        · replace hF := (if_pos c4).symm.trans hF
          refine ab_iconst (v := (0 : Int32)) C dX9_areAlike_49 (by decide) ?_
          refine ab_istore_n (lv' := [(3, .int (0 : Int32)), (0, .ref a0), (1, .int x1), (2, .int x2), (4, .int v2)]) C dX9_areAlike_50 rfl (by decide) rfl ?_
          obtain ⟨v5, qv5⟩ : ∃ y : Int32, y = (v2 + (1 : Int32)) := ⟨_, rfl⟩
          replace hF := aLet_e hF v5 qv5
          refine ab_iinc (lv' := [(4, .int v5), (3, .int (0 : Int32)), (0, .ref a0), (1, .int x1), (2, .int x2)]) C 4 rfl dX9_areAlike_51 (by rw [qv5]; rfl) (by decide) rfl ?_
          refine ab_goto C 5 dX9_areAlike_54 (by decide) ?_
          refine aV.sub (lv' := [(0, .ref a0), (1, .int x1), (2, .int x2), (3, .int (0 : Int32)), (4, .int v5)]) [2, 3, 4, 1, 0] rfl ?_
          exact ih5 (0 : Int32) v5 res5 hF KX5
        · replace hF := (if_neg c4).symm.trans hF
          refine ab_aload_n C 0 rfl rfl dX9_areAlike_15 ?_
          refine ab_g9 (v := .ref (a0 + 1)) C lf_X9_7 hB0.1 rfl dX9_areAlike_16 ?_
          refine ab_iconst (v := (-1 : Int32)) C dX9_areAlike_19 (by decide) ?_
          refine ab_iload C 4 rfl dX9_areAlike_20 ?_
          obtain ⟨v6, hxv6, hF⟩ := Option.bind_eq_some_iff.mp hF
          refine ab_cSR (v := .int v6) (st := []) C lm_X9_141 (X9_cellsOf_ok (xl X) (X9_r0 hB0) (r := v6) hxv6) rfl rfl (by decide) ⟨Nat.zero_le _, Nat.zero_le _⟩ (Nat.le_of_ble_eq_true rfl) dX9_areAlike_22 ?_
          refine ab_if_eq C 45 dX9_areAlike_25 (by decide) (fun c7 => ?_) (fun c7 => ?_)
          · replace hF := (if_pos c7).symm.trans hF
            refine ab_iconst (v := (1 : Int32)) C dX9_areAlike_45 (by decide) ?_
            refine ab_goto C 50 dX9_areAlike_46 (by decide) ?_
            refine ab_istore_n (lv' := [(3, .int (1 : Int32)), (0, .ref a0), (1, .int x1), (2, .int x2), (4, .int v2)]) C dX9_areAlike_50 rfl (by decide) rfl ?_
            obtain ⟨v8, qv8⟩ : ∃ y : Int32, y = (v2 + (1 : Int32)) := ⟨_, rfl⟩
            replace hF := aLet_e hF v8 qv8
            refine ab_iinc (lv' := [(4, .int v8), (3, .int (1 : Int32)), (0, .ref a0), (1, .int x1), (2, .int x2)]) C 4 rfl dX9_areAlike_51 (by rw [qv8]; rfl) (by decide) rfl ?_
            refine ab_goto C 5 dX9_areAlike_54 (by decide) ?_
            refine aV.sub (lv' := [(0, .ref a0), (1, .int x1), (2, .int x2), (3, .int (1 : Int32)), (4, .int v8)]) [2, 3, 4, 1, 0] rfl ?_
            exact ih5 (1 : Int32) v8 res5 hF KX5
          · replace hF := (if_neg c7).symm.trans hF
            refine ab_aload_n C 0 rfl rfl dX9_areAlike_28 ?_
            refine ab_iload C 4 rfl dX9_areAlike_29 ?_
            refine ab_iload_n C 1 rfl rfl dX9_areAlike_31 ?_
            obtain ⟨v9, hxv9, hF⟩ := Option.bind_eq_some_iff.mp hF
            refine ab_cVR (v := .int v9) (st := []) C lm_X9_198 (X9_later_ok (xl X) hB0 (r := v9) hxv9) [.int v2, .int x1] rfl hB0.1 rfl rfl rfl (by decide) ⟨Nat.zero_le _, Nat.zero_le _⟩ (Nat.le_of_ble_eq_true rfl) dX9_areAlike_32 ?_
            refine ab_aload_n C 0 rfl rfl dX9_areAlike_35 ?_
            refine ab_iload C 4 rfl dX9_areAlike_36 ?_
            refine ab_iload_n C 2 rfl rfl dX9_areAlike_38 ?_
            obtain ⟨v10, hxv10, hF⟩ := Option.bind_eq_some_iff.mp hF
            refine ab_cVR (v := .int v10) (st := [.int v9]) C lm_X9_198 (X9_later_ok (xl X) hB0 (r := v10) hxv10) [.int v2, .int x2] rfl hB0.1 rfl rfl rfl (by decide) ⟨Nat.zero_le _, Nat.zero_le _⟩ (Nat.le_of_ble_eq_true rfl) dX9_areAlike_39 ?_
            refine ab_icmp_ne C 49 dX9_areAlike_42 (by decide) (fun c11 => ?_) (fun c11 => ?_)
            · replace hF := (if_neg c11).symm.trans hF
              refine ab_iconst (v := (0 : Int32)) C dX9_areAlike_49 (by decide) ?_
              refine ab_istore_n (lv' := [(3, .int (0 : Int32)), (0, .ref a0), (1, .int x1), (2, .int x2), (4, .int v2)]) C dX9_areAlike_50 rfl (by decide) rfl ?_
              obtain ⟨v12, qv12⟩ : ∃ y : Int32, y = (v2 + (1 : Int32)) := ⟨_, rfl⟩
              replace hF := aLet_e hF v12 qv12
              refine ab_iinc (lv' := [(4, .int v12), (3, .int (0 : Int32)), (0, .ref a0), (1, .int x1), (2, .int x2)]) C 4 rfl dX9_areAlike_51 (by rw [qv12]; rfl) (by decide) rfl ?_
              refine ab_goto C 5 dX9_areAlike_54 (by decide) ?_
              refine aV.sub (lv' := [(0, .ref a0), (1, .int x1), (2, .int x2), (3, .int (0 : Int32)), (4, .int v12)]) [2, 3, 4, 1, 0] rfl ?_
              exact ih5 (0 : Int32) v12 res5 hF KX5
            · replace hF := (if_pos c11).symm.trans hF
              refine ab_iconst (v := (1 : Int32)) C dX9_areAlike_45 (by decide) ?_
              refine ab_goto C 50 dX9_areAlike_46 (by decide) ?_
              refine ab_istore_n (lv' := [(3, .int (1 : Int32)), (0, .ref a0), (1, .int x1), (2, .int x2), (4, .int v2)]) C dX9_areAlike_50 rfl (by decide) rfl ?_
              obtain ⟨v13, qv13⟩ : ∃ y : Int32, y = (v2 + (1 : Int32)) := ⟨_, rfl⟩
              replace hF := aLet_e hF v13 qv13
              refine ab_iinc (lv' := [(4, .int v13), (3, .int (1 : Int32)), (0, .ref a0), (1, .int x1), (2, .int x2)]) C 4 rfl dX9_areAlike_51 (by rw [qv13]; rfl) (by decide) rfl ?_
              refine ab_goto C 5 dX9_areAlike_54 (by decide) ?_
              refine aV.sub (lv' := [(0, .ref a0), (1, .int x1), (2, .int x2), (3, .int (1 : Int32)), (4, .int v13)]) [2, 3, 4, 1, 0] rfl ?_
              exact ih5 (1 : Int32) v13 res5 hF KX5
  refine aV.sub (lv' := [(0, .ref a0), (1, .int x1), (2, .int x2), (3, .int (1 : Int32)), (4, .int (0 : Int32))]) [2, 3, 4, 1, 0] rfl ?_
  obtain ⟨e14, he14, hF⟩ := Option.bind_eq_some_iff.mp hF
  refine L5 aFu (1 : Int32) (0 : Int32) e14 he14 ?_
  refine ab_iload_n C 0 rfl rfl dX9_areAlike_57 ?_
  have cz : vp_nar .boolean e14 = e14 := by
    rcases Classical.em (vp_nar .boolean e14 = e14) with q | q
    · exact q
    · replace hF := (if_neg q).symm.trans hF
      cases hF
  replace hF := (if_pos cz).symm.trans hF
  obtain rfl := Option.some.inj hF
  exact ab_iret C R0 (vz_nar cz) dX9_areAlike_58 ⟨rfl, rfl, rfl⟩
theorem dX9_round_0 : decode cX9_round 0 = .ok (.iload_n 1, 1) := by decide +kernel
theorem dX9_round_1 : decode cX9_round 1 = .ok (.i2l, 1) := by decide +kernel
theorem dX9_round_2 : decode cX9_round 2 = .ok (.lconst 0, 1) := by decide +kernel
theorem dX9_round_3 : decode cX9_round 3 = .ok (.lconst 1, 1) := by decide +kernel
theorem dX9_round_4 : decode cX9_round 4 = .ok (.invokestatic 69, 3) := by decide +kernel
theorem dX9_round_7 : decode cX9_round 7 = .ok (.ifCond .ne 5, 3) := by decide +kernel
theorem dX9_round_10 : decode cX9_round 10 = .ok (.iconst (-1), 1) := by decide +kernel
theorem dX9_round_11 : decode cX9_round 11 = .ok (.ireturn, 1) := by decide +kernel
theorem dX9_round_12 : decode cX9_round 12 = .ok (.aload_n 0, 1) := by decide +kernel
theorem dX9_round_13 : decode cX9_round 13 = .ok (.invokevirtual 185, 3) := by decide +kernel
theorem dX9_round_16 : decode cX9_round 16 = .ok (.ifCond .ne 6, 3) := by decide +kernel
theorem dX9_round_19 : decode cX9_round 19 = .ok (.bipush (-2), 2) := by decide +kernel
theorem dX9_round_21 : decode cX9_round 21 = .ok (.ireturn, 1) := by decide +kernel
theorem dX9_round_22 : decode cX9_round 22 = .ok (.iconst 0, 1) := by decide +kernel
theorem dX9_round_23 : decode cX9_round 23 = .ok (.istore_n 2, 1) := by decide +kernel
theorem dX9_round_24 : decode cX9_round 24 = .ok (.bipush (-4), 2) := by decide +kernel
theorem dX9_round_26 : decode cX9_round 26 = .ok (.istore_n 3, 1) := by decide +kernel
theorem dX9_round_27 : decode cX9_round 27 = .ok (.iload_n 3, 1) := by decide +kernel
theorem dX9_round_28 : decode cX9_round 28 = .ok (.bipush (-4), 2) := by decide +kernel
theorem dX9_round_30 : decode cX9_round 30 = .ok (.if_icmp .ne 48, 3) := by decide +kernel
theorem dX9_round_33 : decode cX9_round 33 = .ok (.iinc 2 1, 3) := by decide +kernel
theorem dX9_round_36 : decode cX9_round 36 = .ok (.iconst 0, 1) := by decide +kernel
theorem dX9_round_37 : decode cX9_round 37 = .ok (.istore 4, 2) := by decide +kernel
theorem dX9_round_39 : decode cX9_round 39 = .ok (.iload 4, 2) := by decide +kernel
theorem dX9_round_41 : decode cX9_round 41 = .ok (.iload_n 2, 1) := by decide +kernel
theorem dX9_round_42 : decode cX9_round 42 = .ok (.if_icmp .ge 33, 3) := by decide +kernel
theorem dX9_round_45 : decode cX9_round 45 = .ok (.iload_n 3, 1) := by decide +kernel
theorem dX9_round_46 : decode cX9_round 46 = .ok (.bipush (-4), 2) := by decide +kernel
theorem dX9_round_48 : decode cX9_round 48 = .ok (.if_icmp .ne 27, 3) := by decide +kernel
theorem dX9_round_51 : decode cX9_round 51 = .ok (.aload_n 0, 1) := by decide +kernel
theorem dX9_round_52 : decode cX9_round 52 = .ok (.iload 4, 2) := by decide +kernel
theorem dX9_round_54 : decode cX9_round 54 = .ok (.iload_n 2, 1) := by decide +kernel
theorem dX9_round_55 : decode cX9_round 55 = .ok (.invokevirtual 202, 3) := by decide +kernel
theorem dX9_round_58 : decode cX9_round 58 = .ok (.ifCond .eq 8, 3) := by decide +kernel
theorem dX9_round_61 : decode cX9_round 61 = .ok (.iload 4, 2) := by decide +kernel
theorem dX9_round_63 : decode cX9_round 63 = .ok (.goto 5, 3) := by decide +kernel
theorem dX9_round_66 : decode cX9_round 66 = .ok (.bipush (-4), 2) := by decide +kernel
theorem dX9_round_68 : decode cX9_round 68 = .ok (.istore_n 3, 1) := by decide +kernel
theorem dX9_round_69 : decode cX9_round 69 = .ok (.iinc 4 1, 3) := by decide +kernel
theorem dX9_round_72 : decode cX9_round 72 = .ok (.goto (-33), 3) := by decide +kernel
theorem dX9_round_75 : decode cX9_round 75 = .ok (.goto (-48), 3) := by decide +kernel
theorem dX9_round_78 : decode cX9_round 78 = .ok (.iload_n 1, 1) := by decide +kernel
theorem dX9_round_79 : decode cX9_round 79 = .ok (.ifCond .ne 7, 3) := by decide +kernel
theorem dX9_round_82 : decode cX9_round 82 = .ok (.iload_n 2, 1) := by decide +kernel
theorem dX9_round_83 : decode cX9_round 83 = .ok (.goto 6, 3) := by decide +kernel
theorem dX9_round_86 : decode cX9_round 86 = .ok (.iload_n 2, 1) := by decide +kernel
theorem dX9_round_87 : decode cX9_round 87 = .ok (.iload_n 3, 1) := by decide +kernel
theorem dX9_round_88 : decode cX9_round 88 = .ok (.isub, 1) := by decide +kernel
theorem dX9_round_89 : decode cX9_round 89 = .ok (.ireturn, 1) := by decide +kernel
def X9_round_L39 (v7 : Int32) (S0 : Rec) : Nat → Int32 → Int32 → Option (Int32)
  | 0, _, _ => none
  | n39 + 1, v8, v9 => if v7 ≤ v9 then
      some v8
    else
      if v8 = (-4 : Int32) then
        (X9_areAlike S0 v9 v7).bind fun v12 =>
        if v12 = 0 then
          aLet (v9 + (1 : Int32)) fun v14 =>
          X9_round_L39 v7 S0 n39 (-4 : Int32) v14
        else
          aLet (v9 + (1 : Int32)) fun v15 =>
          X9_round_L39 v7 S0 n39 v9 v15
      else
        some v8
def X9_round_L27 (S0 : Rec) : Nat → Int32 → Int32 → Option (Int32 × Int32)
  | 0, _, _ => none
  | n27 + 1, v4, v5 => if v5 = (-4 : Int32) then
      aLet (v4 + (1 : Int32)) fun v7 =>
      (X9_round_L39 v7 S0 aFu v5 (0 : Int32)).bind fun e16 =>
      X9_round_L27 S0 n27 v7 e16
    else
      some (v4, v5)
def X9_round (S0 : Rec) (x1 : Int32) : Option (Int32) :=
  if (X9_in (x1.toInt64) (0 : Int64) (1 : Int64)) = 0 then
    some (-1 : Int32)
  else
    (X9_isThere S0).bind fun v2 =>
    if v2 = 0 then
      some (-2 : Int32)
    else
      (X9_round_L27 S0 aFu (0 : Int32) (-4 : Int32)).bind fun e17 =>
      if x1 = 0 then
        some e17.1
      else
        some (e17.1 - e17.2)
set_option maxRecDepth 100000 in
set_option maxHeartbeats 4000000 in
theorem X9_round_ok (l : Launch) {h : aH} {nx : Nat} {a0 : Nat} {S0 : Rec} {x1 : Int32} (hB0 : X9_at h a0 S0) {r : Int32} (hF : X9_round S0 x1 = some r) : aOk l 3 0 0 yX9_round cX9_round 5 (some .int) [.ref a0, .int x1] h nx (aRd (.int r) h nx) := by
  refine aOk.of (by decide +kernel) (Nat.le_of_ble_eq_true rfl) (fun X G hX C R0 _ => ?_)
  subst hX
  show aV X G 5 0 [(0, .ref a0), (1, .int x1)] [] h nx 0 0
  rw [X9_round] at hF
  refine ab_iload_n C 1 rfl rfl dX9_round_0 ?_
  refine ab_i2l C dX9_round_1 ?_
  refine ab_lconst (v := (0 : Int64)) C dX9_round_2 (by decide) ?_
  refine ab_lconst (v := (1 : Int64)) C dX9_round_3 (by decide) ?_
  refine ab_cSR (v := .int (X9_in (x1.toInt64) (0 : Int64) (1 : Int64))) (st := []) C lm_X9_69 (X9_in_ok (xl X) (r := (X9_in (x1.toInt64) (0 : Int64) (1 : Int64))) rfl) rfl rfl (by decide) ⟨Nat.zero_le _, Nat.zero_le _⟩ (Nat.le_of_ble_eq_true rfl) dX9_round_4 ?_
  refine ab_if_ne C 12 dX9_round_7 (by decide) (fun c1 => ?_) (fun c1 => ?_)
  · replace hF := (if_neg c1).symm.trans hF
    refine ab_aload_n C 0 rfl rfl dX9_round_12 ?_
    obtain ⟨v2, hxv2, hF⟩ := Option.bind_eq_some_iff.mp hF
    refine ab_cVR (v := .int v2) (st := []) C lm_X9_185 (X9_isThere_ok (xl X) hB0 (r := v2) hxv2) [] rfl hB0.1 rfl rfl rfl (by decide) ⟨Nat.zero_le _, Nat.zero_le _⟩ (Nat.le_of_ble_eq_true rfl) dX9_round_13 ?_
    refine ab_if_ne C 22 dX9_round_16 (by decide) (fun c3 => ?_) (fun c3 => ?_)
    · replace hF := (if_neg c3).symm.trans hF
      refine ab_iconst (v := (0 : Int32)) C dX9_round_22 (by decide) ?_
      refine ab_istore_n (lv' := [(2, .int (0 : Int32)), (0, .ref a0), (1, .int x1)]) C dX9_round_23 rfl (by decide) rfl ?_
      refine ab_bipush (v := (-4 : Int32)) C dX9_round_24 (by decide) ?_
      refine ab_istore_n (lv' := [(3, .int (-4 : Int32)), (2, .int (0 : Int32)), (0, .ref a0), (1, .int x1)]) C dX9_round_26 rfl (by decide) rfl ?_
      have L27 : ∀ (n27 : Nat) (v4 : Int32) (v5 : Int32), ∀ (res27 : Int32 × Int32), X9_round_L27 S0 n27 v4 v5 = some res27 → (aV X G 5 78 [(1, .int x1), (2, .int res27.1), (3, .int res27.2)] [] h nx 0 0) → aV X G 5 27 [(0, .ref a0), (1, .int x1), (2, .int v4), (3, .int v5)] [] h nx 0 0 := by
        intro n27
        induction n27 with
        | zero => intro v4 v5 res27 hF KX27; cases (show (none : Option (Int32 × Int32)) = some res27 from hF)
        | succ n27 ih27 =>
          intro v4 v5 res27 hF KX27
          rw [X9_round_L27] at hF
          refine ab_iload_n C 3 rfl rfl dX9_round_27 ?_
          refine ab_bipush (v := (-4 : Int32)) C dX9_round_28 (by decide) ?_
          refine ab_icmp_ne C 78 dX9_round_30 (by decide) (fun c6 => ?_) (fun c6 => ?_)
          · replace hF := (if_neg c6).symm.trans hF
            obtain rfl := Option.some.inj hF
            refine aV.sub (lv' := [(1, .int x1), (2, .int v4), (3, .int v5)]) [1, 2, 3] rfl ?_
            exact KX27
          · replace hF := (if_pos c6).symm.trans hF
            obtain ⟨v7, qv7⟩ : ∃ y : Int32, y = (v4 + (1 : Int32)) := ⟨_, rfl⟩
            replace hF := aLet_e hF v7 qv7
            refine ab_iinc (lv' := [(2, .int v7), (0, .ref a0), (1, .int x1), (3, .int v5)]) C 2 rfl dX9_round_33 (by rw [qv7]; rfl) (by decide) rfl ?_
            refine ab_iconst (v := (0 : Int32)) C dX9_round_36 (by decide) ?_
            refine ab_istore (lv' := [(4, .int (0 : Int32)), (2, .int v7), (0, .ref a0), (1, .int x1), (3, .int v5)]) C dX9_round_37 (by decide) rfl ?_
            have L39 : ∀ (n39 : Nat) (v8 : Int32) (v9 : Int32), ∀ (res39 : Int32), X9_round_L39 v7 S0 n39 v8 v9 = some res39 → (aV X G 5 75 [(0, .ref a0), (1, .int x1), (2, .int v7), (3, .int res39)] [] h nx 0 0) → aV X G 5 39 [(0, .ref a0), (1, .int x1), (2, .int v7), (3, .int v8), (4, .int v9)] [] h nx 0 0 := by
              intro n39
              induction n39 with
              | zero => intro v8 v9 res39 hF KX39; cases (show (none : Option (Int32)) = some res39 from hF)
              | succ n39 ih39 =>
                intro v8 v9 res39 hF KX39
                rw [X9_round_L39] at hF
                refine ab_iload C 4 rfl dX9_round_39 ?_
                refine ab_iload_n C 2 rfl rfl dX9_round_41 ?_
                refine ab_icmp_ge C 75 dX9_round_42 (by decide) (fun c10 => ?_) (fun c10 => ?_)
                · replace hF := (if_pos c10).symm.trans hF
                  obtain rfl := Option.some.inj hF
                  refine aV.sub (lv' := [(0, .ref a0), (1, .int x1), (2, .int v7), (3, .int v8)]) [0, 1, 2, 3] rfl ?_
                  exact KX39
                · replace hF := (if_neg c10).symm.trans hF
                  refine ab_iload_n C 3 rfl rfl dX9_round_45 ?_
                  refine ab_bipush (v := (-4 : Int32)) C dX9_round_46 (by decide) ?_
                  refine ab_icmp_ne C 75 dX9_round_48 (by decide) (fun c11 => ?_) (fun c11 => ?_)
                  · replace hF := (if_neg c11).symm.trans hF
                    obtain rfl := Option.some.inj hF
                    refine aV.sub (lv' := [(0, .ref a0), (1, .int x1), (2, .int v7), (3, .int v8)]) [0, 1, 2, 3] rfl ?_
                    exact KX39
                  · replace hF := (if_pos c11).symm.trans hF
                    refine ab_aload_n C 0 rfl rfl dX9_round_51 ?_
                    refine ab_iload C 4 rfl dX9_round_52 ?_
                    refine ab_iload_n C 2 rfl rfl dX9_round_54 ?_
                    obtain ⟨v12, hxv12, hF⟩ := Option.bind_eq_some_iff.mp hF
                    refine ab_cVR (v := .int v12) (st := []) C lm_X9_202 (X9_areAlike_ok (xl X) hB0 (r := v12) hxv12) [.int v9, .int v7] rfl hB0.1 rfl rfl rfl (by decide) ⟨Nat.zero_le _, Nat.zero_le _⟩ (Nat.le_of_ble_eq_true rfl) dX9_round_55 ?_
                    refine ab_if_eq C 66 dX9_round_58 (by decide) (fun c13 => ?_) (fun c13 => ?_)
                    · replace hF := (if_pos c13).symm.trans hF
                      refine ab_bipush (v := (-4 : Int32)) C dX9_round_66 (by decide) ?_
                      refine ab_istore_n (lv' := [(3, .int (-4 : Int32)), (0, .ref a0), (1, .int x1), (2, .int v7), (4, .int v9)]) C dX9_round_68 rfl (by decide) rfl ?_
                      obtain ⟨v14, qv14⟩ : ∃ y : Int32, y = (v9 + (1 : Int32)) := ⟨_, rfl⟩
                      replace hF := aLet_e hF v14 qv14
                      refine ab_iinc (lv' := [(4, .int v14), (3, .int (-4 : Int32)), (0, .ref a0), (1, .int x1), (2, .int v7)]) C 4 rfl dX9_round_69 (by rw [qv14]; rfl) (by decide) rfl ?_
                      refine ab_goto C 39 dX9_round_72 (by decide) ?_
                      refine aV.sub (lv' := [(0, .ref a0), (1, .int x1), (2, .int v7), (3, .int (-4 : Int32)), (4, .int v14)]) [2, 3, 4, 1, 0] rfl ?_
                      exact ih39 (-4 : Int32) v14 res39 hF KX39
                    · replace hF := (if_neg c13).symm.trans hF
                      refine ab_iload C 4 rfl dX9_round_61 ?_
                      refine ab_goto C 68 dX9_round_63 (by decide) ?_
                      refine ab_istore_n (lv' := [(3, .int v9), (0, .ref a0), (1, .int x1), (2, .int v7), (4, .int v9)]) C dX9_round_68 rfl (by decide) rfl ?_
                      obtain ⟨v15, qv15⟩ : ∃ y : Int32, y = (v9 + (1 : Int32)) := ⟨_, rfl⟩
                      replace hF := aLet_e hF v15 qv15
                      refine ab_iinc (lv' := [(4, .int v15), (3, .int v9), (0, .ref a0), (1, .int x1), (2, .int v7)]) C 4 rfl dX9_round_69 (by rw [qv15]; rfl) (by decide) rfl ?_
                      refine ab_goto C 39 dX9_round_72 (by decide) ?_
                      refine aV.sub (lv' := [(0, .ref a0), (1, .int x1), (2, .int v7), (3, .int v9), (4, .int v15)]) [2, 3, 4, 1, 0] rfl ?_
                      exact ih39 v9 v15 res39 hF KX39
            refine aV.sub (lv' := [(0, .ref a0), (1, .int x1), (2, .int v7), (3, .int v5), (4, .int (0 : Int32))]) [2, 3, 1, 4, 0] rfl ?_
            obtain ⟨e16, he16, hF⟩ := Option.bind_eq_some_iff.mp hF
            refine L39 aFu v5 (0 : Int32) e16 he16 ?_
            refine ab_goto C 27 dX9_round_75 (by decide) ?_
            exact ih27 v7 e16 res27 hF KX27
      refine aV.sub (lv' := [(0, .ref a0), (1, .int x1), (2, .int (0 : Int32)), (3, .int (-4 : Int32))]) [2, 3, 1, 0] rfl ?_
      obtain ⟨e17, he17, hF⟩ := Option.bind_eq_some_iff.mp hF
      refine L27 aFu (0 : Int32) (-4 : Int32) e17 he17 ?_
      refine ab_iload_n C 0 rfl rfl dX9_round_78 ?_
      refine ab_if_ne C 86 dX9_round_79 (by decide) (fun c18 => ?_) (fun c18 => ?_)
      · replace hF := (if_neg c18).symm.trans hF
        refine ab_iload_n C 1 rfl rfl dX9_round_86 ?_
        refine ab_iload_n C 2 rfl rfl dX9_round_87 ?_
        refine ab_isub C dX9_round_88 ?_
        obtain rfl := Option.some.inj hF
        exact ab_iret C R0 rfl dX9_round_89 ⟨rfl, rfl, rfl⟩
      · replace hF := (if_pos c18).symm.trans hF
        refine ab_iload_n C 1 rfl rfl dX9_round_82 ?_
        refine ab_goto C 89 dX9_round_83 (by decide) ?_
        obtain rfl := Option.some.inj hF
        exact ab_iret C R0 rfl dX9_round_89 ⟨rfl, rfl, rfl⟩
    · replace hF := (if_pos c3).symm.trans hF
      refine ab_bipush (v := (-2 : Int32)) C dX9_round_19 (by decide) ?_
      obtain rfl := Option.some.inj hF
      exact ab_iret C R0 rfl dX9_round_21 ⟨rfl, rfl, rfl⟩
  · replace hF := (if_pos c1).symm.trans hF
    refine ab_iconst (v := (-1 : Int32)) C dX9_round_10 (by decide) ?_
    obtain rfl := Option.some.inj hF
    exact ab_iret C R0 rfl dX9_round_11 ⟨rfl, rfl, rfl⟩
theorem dX9_tryBuying_0 : decode cX9_tryBuying 0 = .ok (.aload_n 0, 1) := by decide +kernel
theorem dX9_tryBuying_1 : decode cX9_tryBuying 1 = .ok (.invokevirtual 195, 3) := by decide +kernel
theorem dX9_tryBuying_4 : decode cX9_tryBuying 4 = .ok (.iconst 0, 1) := by decide +kernel
theorem dX9_tryBuying_5 : decode cX9_tryBuying 5 = .ok (.istore 4, 2) := by decide +kernel
theorem dX9_tryBuying_7 : decode cX9_tryBuying 7 = .ok (.iconst 0, 1) := by decide +kernel
theorem dX9_tryBuying_8 : decode cX9_tryBuying 8 = .ok (.istore 5, 2) := by decide +kernel
theorem dX9_tryBuying_10 : decode cX9_tryBuying 10 = .ok (.iload 5, 2) := by decide +kernel
theorem dX9_tryBuying_12 : decode cX9_tryBuying 12 = .ok (.iload_n 3, 1) := by decide +kernel
theorem dX9_tryBuying_13 : decode cX9_tryBuying 13 = .ok (.if_icmp .ge 42, 3) := by decide +kernel
theorem dX9_tryBuying_16 : decode cX9_tryBuying 16 = .ok (.aload_n 0, 1) := by decide +kernel
theorem dX9_tryBuying_17 : decode cX9_tryBuying 17 = .ok (.getfield 16, 3) := by decide +kernel
theorem dX9_tryBuying_20 : decode cX9_tryBuying 20 = .ok (.bipush 52, 2) := by decide +kernel
theorem dX9_tryBuying_22 : decode cX9_tryBuying 22 = .ok (.aload_n 0, 1) := by decide +kernel
theorem dX9_tryBuying_23 : decode cX9_tryBuying 23 = .ok (.getfield 32, 3) := by decide +kernel
theorem dX9_tryBuying_26 : decode cX9_tryBuying 26 = .ok (.iload 5, 2) := by decide +kernel
theorem dX9_tryBuying_28 : decode cX9_tryBuying 28 = .ok (.iaload, 1) := by decide +kernel
theorem dX9_tryBuying_29 : decode cX9_tryBuying 29 = .ok (.iadd, 1) := by decide +kernel
theorem dX9_tryBuying_30 : decode cX9_tryBuying 30 = .ok (.iload_n 1, 1) := by decide +kernel
theorem dX9_tryBuying_31 : decode cX9_tryBuying 31 = .ok (.iconst 1, 1) := by decide +kernel
theorem dX9_tryBuying_32 : decode cX9_tryBuying 32 = .ok (.iadd, 1) := by decide +kernel
theorem dX9_tryBuying_33 : decode cX9_tryBuying 33 = .ok (.iastore, 1) := by decide +kernel
theorem dX9_tryBuying_34 : decode cX9_tryBuying 34 = .ok (.iload 4, 2) := by decide +kernel
theorem dX9_tryBuying_36 : decode cX9_tryBuying 36 = .ok (.aload_n 0, 1) := by decide +kernel
theorem dX9_tryBuying_37 : decode cX9_tryBuying 37 = .ok (.getfield 32, 3) := by decide +kernel
theorem dX9_tryBuying_40 : decode cX9_tryBuying 40 = .ok (.iload 5, 2) := by decide +kernel
theorem dX9_tryBuying_42 : decode cX9_tryBuying 42 = .ok (.iaload, 1) := by decide +kernel
theorem dX9_tryBuying_43 : decode cX9_tryBuying 43 = .ok (.invokestatic 159, 3) := by decide +kernel
theorem dX9_tryBuying_46 : decode cX9_tryBuying 46 = .ok (.iadd, 1) := by decide +kernel
theorem dX9_tryBuying_47 : decode cX9_tryBuying 47 = .ok (.istore 4, 2) := by decide +kernel
theorem dX9_tryBuying_49 : decode cX9_tryBuying 49 = .ok (.iinc 5 1, 3) := by decide +kernel
theorem dX9_tryBuying_52 : decode cX9_tryBuying 52 = .ok (.goto (-42), 3) := by decide +kernel
theorem dX9_tryBuying_55 : decode cX9_tryBuying 55 = .ok (.aload_n 0, 1) := by decide +kernel
theorem dX9_tryBuying_56 : decode cX9_tryBuying 56 = .ok (.getfield 206, 3) := by decide +kernel
theorem dX9_tryBuying_59 : decode cX9_tryBuying 59 = .ok (.bipush (-4), 2) := by decide +kernel
theorem dX9_tryBuying_61 : decode cX9_tryBuying 61 = .ok (.if_icmp .eq 29, 3) := by decide +kernel
theorem dX9_tryBuying_64 : decode cX9_tryBuying 64 = .ok (.iload 4, 2) := by decide +kernel
theorem dX9_tryBuying_66 : decode cX9_tryBuying 66 = .ok (.aload_n 0, 1) := by decide +kernel
theorem dX9_tryBuying_67 : decode cX9_tryBuying 67 = .ok (.getfield 206, 3) := by decide +kernel
theorem dX9_tryBuying_70 : decode cX9_tryBuying 70 = .ok (.if_icmp .lt 20, 3) := by decide +kernel
theorem dX9_tryBuying_73 : decode cX9_tryBuying 73 = .ok (.iload 4, 2) := by decide +kernel
theorem dX9_tryBuying_75 : decode cX9_tryBuying 75 = .ok (.aload_n 0, 1) := by decide +kernel
theorem dX9_tryBuying_76 : decode cX9_tryBuying 76 = .ok (.getfield 206, 3) := by decide +kernel
theorem dX9_tryBuying_79 : decode cX9_tryBuying 79 = .ok (.if_icmp .ne 15, 3) := by decide +kernel
theorem dX9_tryBuying_82 : decode cX9_tryBuying 82 = .ok (.iload_n 3, 1) := by decide +kernel
theorem dX9_tryBuying_83 : decode cX9_tryBuying 83 = .ok (.aload_n 0, 1) := by decide +kernel
theorem dX9_tryBuying_84 : decode cX9_tryBuying 84 = .ok (.getfield 209, 3) := by decide +kernel
theorem dX9_tryBuying_87 : decode cX9_tryBuying 87 = .ok (.if_icmp .ge 7, 3) := by decide +kernel
theorem dX9_tryBuying_90 : decode cX9_tryBuying 90 = .ok (.iconst 1, 1) := by decide +kernel
theorem dX9_tryBuying_91 : decode cX9_tryBuying 91 = .ok (.goto 4, 3) := by decide +kernel
theorem dX9_tryBuying_94 : decode cX9_tryBuying 94 = .ok (.iconst 0, 1) := by decide +kernel
theorem dX9_tryBuying_95 : decode cX9_tryBuying 95 = .ok (.istore 5, 2) := by decide +kernel
theorem dX9_tryBuying_97 : decode cX9_tryBuying 97 = .ok (.iload 5, 2) := by decide +kernel
theorem dX9_tryBuying_99 : decode cX9_tryBuying 99 = .ok (.ifCond .eq 55, 3) := by decide +kernel
theorem dX9_tryBuying_102 : decode cX9_tryBuying 102 = .ok (.aload_n 0, 1) := by decide +kernel
theorem dX9_tryBuying_103 : decode cX9_tryBuying 103 = .ok (.getfield 16, 3) := by decide +kernel
theorem dX9_tryBuying_106 : decode cX9_tryBuying 106 = .ok (.iload_n 1, 1) := by decide +kernel
theorem dX9_tryBuying_107 : decode cX9_tryBuying 107 = .ok (.iload_n 2, 1) := by decide +kernel
theorem dX9_tryBuying_108 : decode cX9_tryBuying 108 = .ok (.invokestatic 162, 3) := by decide +kernel
theorem dX9_tryBuying_111 : decode cX9_tryBuying 111 = .ok (.ifCond .eq 43, 3) := by decide +kernel
theorem dX9_tryBuying_114 : decode cX9_tryBuying 114 = .ok (.aload_n 0, 1) := by decide +kernel
theorem dX9_tryBuying_115 : decode cX9_tryBuying 115 = .ok (.iload 4, 2) := by decide +kernel
theorem dX9_tryBuying_117 : decode cX9_tryBuying 117 = .ok (.putfield 206, 3) := by decide +kernel
theorem dX9_tryBuying_120 : decode cX9_tryBuying 120 = .ok (.aload_n 0, 1) := by decide +kernel
theorem dX9_tryBuying_121 : decode cX9_tryBuying 121 = .ok (.iload_n 3, 1) := by decide +kernel
theorem dX9_tryBuying_122 : decode cX9_tryBuying 122 = .ok (.putfield 209, 3) := by decide +kernel
theorem dX9_tryBuying_125 : decode cX9_tryBuying 125 = .ok (.iconst 0, 1) := by decide +kernel
theorem dX9_tryBuying_126 : decode cX9_tryBuying 126 = .ok (.istore 6, 2) := by decide +kernel
theorem dX9_tryBuying_128 : decode cX9_tryBuying 128 = .ok (.iload 6, 2) := by decide +kernel
theorem dX9_tryBuying_130 : decode cX9_tryBuying 130 = .ok (.iload_n 3, 1) := by decide +kernel
theorem dX9_tryBuying_131 : decode cX9_tryBuying 131 = .ok (.if_icmp .ge 23, 3) := by decide +kernel
theorem dX9_tryBuying_134 : decode cX9_tryBuying 134 = .ok (.aload_n 0, 1) := by decide +kernel
theorem dX9_tryBuying_135 : decode cX9_tryBuying 135 = .ok (.getfield 35, 3) := by decide +kernel
theorem dX9_tryBuying_138 : decode cX9_tryBuying 138 = .ok (.iload 6, 2) := by decide +kernel
theorem dX9_tryBuying_140 : decode cX9_tryBuying 140 = .ok (.aload_n 0, 1) := by decide +kernel
theorem dX9_tryBuying_141 : decode cX9_tryBuying 141 = .ok (.getfield 32, 3) := by decide +kernel
theorem dX9_tryBuying_144 : decode cX9_tryBuying 144 = .ok (.iload 6, 2) := by decide +kernel
theorem dX9_tryBuying_146 : decode cX9_tryBuying 146 = .ok (.iaload, 1) := by decide +kernel
theorem dX9_tryBuying_147 : decode cX9_tryBuying 147 = .ok (.iastore, 1) := by decide +kernel
theorem dX9_tryBuying_148 : decode cX9_tryBuying 148 = .ok (.iinc 6 1, 3) := by decide +kernel
theorem dX9_tryBuying_151 : decode cX9_tryBuying 151 = .ok (.goto (-23), 3) := by decide +kernel
theorem dX9_tryBuying_154 : decode cX9_tryBuying 154 = .ok (.return_, 1) := by decide +kernel
def X9_tryBuying_L10 (x3 : Int32) (x1 : Int32) : Nat → Int32 → Int32 → Rec → Option (Int32 × Rec)
  | 0, _, _, _ => none
  | n10 + 1, v3, v4, Z5 => if x3 ≤ v4 then
      some (v3, Z5)
    else
      (rdI (Z5.2.1 11) 3 v4).bind fun v8 =>
      (wrI (Z5.2.1 2) 96 ((52 : Int32) + v8) (x1 + (1 : Int32))).bind fun w9 =>
      (rdI ((sA Z5 2 w9).2.1 11) 3 v4).bind fun v11 =>
      aLet (v3 + (X9_priceOf v11)) fun v12 =>
      aLet (v4 + (1 : Int32)) fun v13 =>
      X9_tryBuying_L10 x3 x1 n10 v12 v13 (sA Z5 2 w9)
def X9_tryBuying_L128 (x3 : Int32) : Nat → Int32 → Rec → Option (Rec)
  | 0, _, _ => none
  | n128 + 1, v22, Z23 => if x3 ≤ v22 then
      some Z23
    else
      (rdI (Z23.2.1 11) 3 v22).bind fun v26 =>
      (wrI (Z23.2.1 12) 3 v22 v26).bind fun w27 =>
      aLet (v22 + (1 : Int32)) fun v29 =>
      X9_tryBuying_L128 x3 n128 v29 (sA Z23 12 w27)
def X9_tryBuying_J95 (e14 : (Int32 × Rec)) (x1 : Int32) (x2 : Int32) (x3 : Int32) (v16 : Int32) : Option (Rec) :=
  if v16 = 0 then
    some e14.2
  else
    (X9_can (e14.2.2.1 2) x1 x2).bind fun v18 =>
    if v18 = 0 then
      some e14.2
    else
      (X9_tryBuying_L128 x3 aFu (0 : Int32) (sI (sI e14.2 13 e14.1) 14 x3)).bind fun e30 =>
      some e30
def X9_tryBuying_J90 (e14 : (Int32 × Rec)) (x1 : Int32) (x2 : Int32) (x3 : Int32) : Option (Rec) :=
  X9_tryBuying_J95 e14 x1 x2 x3 (1 : Int32)
def X9_tryBuying_J94 (e14 : (Int32 × Rec)) (x1 : Int32) (x2 : Int32) (x3 : Int32) : Option (Rec) :=
  X9_tryBuying_J95 e14 x1 x2 x3 (0 : Int32)
def X9_tryBuying (S0 : Rec) (x1 : Int32) (x2 : Int32) (x3 : Int32) : Option (Rec) :=
  (X9_layThen S0).bind fun v1 =>
  (X9_tryBuying_L10 x3 x1 aFu (0 : Int32) (0 : Int32) v1).bind fun e14 =>
  if (e14.2.1 13) = (-4 : Int32) then
    X9_tryBuying_J90 e14 x1 x2 x3
  else
    if e14.1 < (e14.2.1 13) then
      X9_tryBuying_J90 e14 x1 x2 x3
    else
      if e14.1 = (e14.2.1 13) then
        if (e14.2.1 14) ≤ x3 then
          X9_tryBuying_J94 e14 x1 x2 x3
        else
          X9_tryBuying_J90 e14 x1 x2 x3
      else
        X9_tryBuying_J94 e14 x1 x2 x3
set_option maxRecDepth 100000 in
set_option maxHeartbeats 4000000 in
theorem X9_tryBuying_ok (l : Launch) {h : aH} {nx : Nat} {a0 : Nat} {S0 : Rec} {x1 : Int32} {x2 : Int32} {x3 : Int32} (hB0 : X9_at h a0 S0) {r : Rec} (hF : X9_tryBuying S0 x1 x2 x3 = some r) : aOk l 5 0 0 yX9_tryBuying cX9_tryBuying 7 none [.ref a0, .int x1, .int x2, .int x3] h nx (aMt none nx (fun h1 => X9_at h1 a0 r ∧ (∀ q, (q < a0 ∨ a0 + 20 ≤ q) → h1 q = h q))) := by
  refine aOk.of (by decide +kernel) (Nat.le_of_ble_eq_true rfl) (fun X G hX C R0 _ => ?_)
  subst hX
  show aV X G 7 0 [(0, .ref a0), (1, .int x1), (2, .int x2), (3, .int x3)] [] h nx 0 0
  have hFr : ∀ q, (q < a0 ∨ a0 + 20 ≤ q) → h q = h q := fun _ _ => rfl
  rw [X9_tryBuying] at hF
  refine ab_aload_n C 0 rfl rfl dX9_tryBuying_0 ?_
  obtain ⟨v1, hxv1, hF⟩ := Option.bind_eq_some_iff.mp hF
  refine ab_cVN (st := []) C lm_X9_195 (X9_layThen_ok (xl X) hB0 (r := v1) hxv1) [] rfl hB0.1 rfl rfl rfl (by decide) ⟨Nat.zero_le _, Nat.zero_le _⟩ (Nat.le_of_ble_eq_true rfl) dX9_tryBuying_1 (fun g2 pg2 => ?_)
  obtain ⟨k0, Og2⟩ := pg2
  have hB0 : X9_at g2 a0 v1 := k0
  have hFr : ∀ q, (q < a0 ∨ a0 + 20 ≤ q) → g2 q = h q := fun q u0 => (Og2 q (by omega)).trans (hFr q u0)
  refine ab_iconst (v := (0 : Int32)) C dX9_tryBuying_4 (by decide) ?_
  refine ab_istore (lv' := [(4, .int (0 : Int32)), (0, .ref a0), (1, .int x1), (2, .int x2), (3, .int x3)]) C dX9_tryBuying_5 (by decide) rfl ?_
  refine ab_iconst (v := (0 : Int32)) C dX9_tryBuying_7 (by decide) ?_
  refine ab_istore (lv' := [(5, .int (0 : Int32)), (4, .int (0 : Int32)), (0, .ref a0), (1, .int x1), (2, .int x2), (3, .int x3)]) C dX9_tryBuying_8 (by decide) rfl ?_
  have L10 : ∀ (n10 : Nat) (v3 : Int32) (v4 : Int32) (Z5 : Rec) (g6 : aH), (X9_at g6 a0 Z5) → (∀ q, (q < a0 ∨ a0 + 20 ≤ q) → g6 q = h q) → ∀ (res10 : Int32 × Rec), X9_tryBuying_L10 x3 x1 n10 v3 v4 Z5 = some res10 → (∀ (q9 : aH), (X9_at q9 a0 res10.2) → (∀ q, (q < a0 ∨ a0 + 20 ≤ q) → q9 q = h q) → aV X G 7 55 [(0, .ref a0), (1, .int x1), (2, .int x2), (3, .int x3), (4, .int res10.1)] [] q9 nx 0 0) → aV X G 7 10 [(0, .ref a0), (1, .int x1), (2, .int x2), (3, .int x3), (4, .int v3), (5, .int v4)] [] g6 nx 0 0 := by
    intro n10
    induction n10 with
    | zero => intro v3 v4 Z5 g6 hB0 hFr res10 hF KX10; cases (show (none : Option (Int32 × Rec)) = some res10 from hF)
    | succ n10 ih10 =>
      intro v3 v4 Z5 g6 hB0 hFr res10 hF KX10
      rw [X9_tryBuying_L10] at hF
      refine ab_iload C 5 rfl dX9_tryBuying_10 ?_
      refine ab_iload_n C 3 rfl rfl dX9_tryBuying_12 ?_
      refine ab_icmp_ge C 55 dX9_tryBuying_13 (by decide) (fun c7 => ?_) (fun c7 => ?_)
      · replace hF := (if_pos c7).symm.trans hF
        obtain rfl := Option.some.inj hF
        refine aV.sub (lv' := [(0, .ref a0), (1, .int x1), (2, .int x2), (3, .int x3), (4, .int v3)]) [0, 1, 2, 3, 4] rfl ?_
        exact KX10 g6 hB0 hFr
      · replace hF := (if_neg c7).symm.trans hF
        refine ab_aload_n C 0 rfl rfl dX9_tryBuying_16 ?_
        refine ab_g9 (v := .ref (a0 + 3)) C lf_X9_16 hB0.1 rfl dX9_tryBuying_17 ?_
        refine ab_bipush (v := (52 : Int32)) C dX9_tryBuying_20 (by decide) ?_
        refine ab_aload_n C 0 rfl rfl dX9_tryBuying_22 ?_
        refine ab_g9 (v := .ref (a0 + 8)) C lf_X9_32 hB0.1 rfl dX9_tryBuying_23 ?_
        refine ab_iload C 5 rfl dX9_tryBuying_26 ?_
        obtain ⟨v8, hxv8, hF⟩ := Option.bind_eq_some_iff.mp hF
        refine ab_iald C (X9_r11 hB0) hxv8 dX9_tryBuying_28 ?_
        refine ab_iadd C dX9_tryBuying_29 ?_
        refine ab_iload_n C 1 rfl rfl dX9_tryBuying_30 ?_
        refine ab_iconst (v := (1 : Int32)) C dX9_tryBuying_31 (by decide) ?_
        refine ab_iadd C dX9_tryBuying_32 ?_
        obtain ⟨w9, hxw9, hF⟩ := Option.bind_eq_some_iff.mp hF
        refine ab_iast C (X9_r2 hB0) hxw9 dX9_tryBuying_33 (fun g10 eg10 og10 => ?_)
        have hB0 : X9_at g10 a0 (sA Z5 2 w9) := X9_w2 hB0 eg10 og10
        have hFr : ∀ q, (q < a0 ∨ a0 + 20 ≤ q) → g10 q = h q := fun q u0 => (og10 q (by omega)).trans (hFr q u0)
        refine ab_iload C 4 rfl dX9_tryBuying_34 ?_
        refine ab_aload_n C 0 rfl rfl dX9_tryBuying_36 ?_
        refine ab_g9 (v := .ref (a0 + 8)) C lf_X9_32 hB0.1 rfl dX9_tryBuying_37 ?_
        refine ab_iload C 5 rfl dX9_tryBuying_40 ?_
        obtain ⟨v11, hxv11, hF⟩ := Option.bind_eq_some_iff.mp hF
        refine ab_iald C (X9_r11 hB0) hxv11 dX9_tryBuying_42 ?_
        refine ab_cSR (v := .int (X9_priceOf v11)) (st := [.int v3]) C lm_X9_159 (X9_priceOf_ok (xl X) (r := (X9_priceOf v11)) rfl) rfl rfl (by decide) ⟨Nat.zero_le _, Nat.zero_le _⟩ (Nat.le_of_ble_eq_true rfl) dX9_tryBuying_43 ?_
        refine ab_iadd C dX9_tryBuying_46 ?_
        refine ab_topi (fun v12 qv12 => ?_)
        replace hF := aLet_e hF v12 qv12
        refine ab_istore (lv' := [(4, .int v12), (0, .ref a0), (1, .int x1), (2, .int x2), (3, .int x3), (5, .int v4)]) C dX9_tryBuying_47 (by decide) rfl ?_
        obtain ⟨v13, qv13⟩ : ∃ y : Int32, y = (v4 + (1 : Int32)) := ⟨_, rfl⟩
        replace hF := aLet_e hF v13 qv13
        refine ab_iinc (lv' := [(5, .int v13), (4, .int v12), (0, .ref a0), (1, .int x1), (2, .int x2), (3, .int x3)]) C 5 rfl dX9_tryBuying_49 (by rw [qv13]; rfl) (by decide) rfl ?_
        refine ab_goto C 10 dX9_tryBuying_52 (by decide) ?_
        refine aV.sub (lv' := [(0, .ref a0), (1, .int x1), (2, .int x2), (3, .int x3), (4, .int v12), (5, .int v13)]) [2, 3, 4, 5, 1, 0] rfl ?_
        exact ih10 v12 v13 (sA Z5 2 w9) g10 hB0 hFr res10 hF KX10
  refine aV.sub (lv' := [(0, .ref a0), (1, .int x1), (2, .int x2), (3, .int x3), (4, .int (0 : Int32)), (5, .int (0 : Int32))]) [2, 3, 4, 5, 1, 0] rfl ?_
  obtain ⟨e14, he14, hF⟩ := Option.bind_eq_some_iff.mp hF
  refine L10 aFu (0 : Int32) (0 : Int32) v1 g2 hB0 hFr e14 he14 (fun g15 hB0 hFr => ?_)
  refine ab_aload_n C 0 rfl rfl dX9_tryBuying_55 ?_
  refine ab_g9 (v := .int (e14.2.1 13)) C lf_X9_206 hB0.1 rfl dX9_tryBuying_56 ?_
  refine ab_bipush (v := (-4 : Int32)) C dX9_tryBuying_59 (by decide) ?_
  have J95 : ∀ (v16 : Int32), X9_tryBuying_J95 e14 x1 x2 x3 v16 = some r → aV X G 7 95 [(0, .ref a0), (1, .int x1), (2, .int x2), (3, .int x3), (4, .int e14.1)] [.int v16] g15 nx 0 0 := by
    intro v16 hF
    rw [X9_tryBuying_J95] at hF
    refine ab_istore (lv' := [(5, .int v16), (0, .ref a0), (1, .int x1), (2, .int x2), (3, .int x3), (4, .int e14.1)]) C dX9_tryBuying_95 (by decide) rfl ?_
    refine ab_iload C 0 rfl dX9_tryBuying_97 ?_
    refine ab_if_eq C 154 dX9_tryBuying_99 (by decide) (fun c17 => ?_) (fun c17 => ?_)
    · replace hF := (if_pos c17).symm.trans hF
      obtain rfl := Option.some.inj hF
      exact ab_vret C R0 dX9_tryBuying_154 ⟨rfl, rfl, hB0, hFr⟩
    · replace hF := (if_neg c17).symm.trans hF
      refine ab_aload_n C 1 rfl rfl dX9_tryBuying_102 ?_
      refine ab_g9 (v := .ref (a0 + 3)) C lf_X9_16 hB0.1 rfl dX9_tryBuying_103 ?_
      refine ab_iload_n C 2 rfl rfl dX9_tryBuying_106 ?_
      refine ab_iload_n C 3 rfl rfl dX9_tryBuying_107 ?_
      obtain ⟨v18, hxv18, hF⟩ := Option.bind_eq_some_iff.mp hF
      refine ab_cSR (v := .int v18) (st := []) C lm_X9_162 (X9_can_ok (xl X) (X9_r2 hB0) (r := v18) hxv18) rfl rfl (by decide) ⟨Nat.zero_le _, Nat.zero_le _⟩ (Nat.le_of_ble_eq_true rfl) dX9_tryBuying_108 ?_
      refine ab_if_eq C 154 dX9_tryBuying_111 (by decide) (fun c19 => ?_) (fun c19 => ?_)
      · replace hF := (if_pos c19).symm.trans hF
        obtain rfl := Option.some.inj hF
        exact ab_vret C R0 dX9_tryBuying_154 ⟨rfl, rfl, hB0, hFr⟩
      · replace hF := (if_neg c19).symm.trans hF
        refine ab_aload_n C 1 rfl rfl dX9_tryBuying_114 ?_
        refine ab_iload C 5 rfl dX9_tryBuying_115 ?_
        refine ab_p9 (ty := .int) C lf_X9_206 rfl (by decide +kernel) rfl rfl (Nat.le_of_ble_eq_true rfl) hB0.1 dX9_tryBuying_117 (fun g20 eg20 og20 => ?_)
        have hB0 : X9_at g20 a0 (sI e14.2 13 e14.1) := X9_p13 hB0 eg20 og20
        have hFr : ∀ q, (q < a0 ∨ a0 + 20 ≤ q) → g20 q = h q := fun q u0 => (og20 q (by omega)).trans (hFr q u0)
        refine ab_aload_n C 1 rfl rfl dX9_tryBuying_120 ?_
        refine ab_iload_n C 4 rfl rfl dX9_tryBuying_121 ?_
        refine ab_p9 (ty := .int) C lf_X9_209 rfl (by decide +kernel) rfl rfl (Nat.le_of_ble_eq_true rfl) hB0.1 dX9_tryBuying_122 (fun g21 eg21 og21 => ?_)
        have hB0 : X9_at g21 a0 (sI (sI e14.2 13 e14.1) 14 x3) := X9_p14 hB0 eg21 og21
        have hFr : ∀ q, (q < a0 ∨ a0 + 20 ≤ q) → g21 q = h q := fun q u0 => (og21 q (by omega)).trans (hFr q u0)
        refine ab_iconst (v := (0 : Int32)) C dX9_tryBuying_125 (by decide) ?_
        refine ab_istore (lv' := [(6, .int (0 : Int32)), (5, .int v16), (0, .ref a0), (1, .int x1), (2, .int x2), (3, .int x3), (4, .int e14.1)]) C dX9_tryBuying_126 (by decide) rfl ?_
        have L128 : ∀ (n128 : Nat) (v22 : Int32) (Z23 : Rec) (g24 : aH), (X9_at g24 a0 Z23) → (∀ q, (q < a0 ∨ a0 + 20 ≤ q) → g24 q = h q) → ∀ (res128 : Rec), X9_tryBuying_L128 x3 n128 v22 Z23 = some res128 → (∀ (q9 : aH), (X9_at q9 a0 res128) → (∀ q, (q < a0 ∨ a0 + 20 ≤ q) → q9 q = h q) → aV X G 7 154 [] [] q9 nx 0 0) → aV X G 7 128 [(0, .ref a0), (3, .int x3), (6, .int v22)] [] g24 nx 0 0 := by
          intro n128
          induction n128 with
          | zero => intro v22 Z23 g24 hB0 hFr res128 hF KX128; cases (show (none : Option (Rec)) = some res128 from hF)
          | succ n128 ih128 =>
            intro v22 Z23 g24 hB0 hFr res128 hF KX128
            rw [X9_tryBuying_L128] at hF
            refine ab_iload C 2 rfl dX9_tryBuying_128 ?_
            refine ab_iload_n C 1 rfl rfl dX9_tryBuying_130 ?_
            refine ab_icmp_ge C 154 dX9_tryBuying_131 (by decide) (fun c25 => ?_) (fun c25 => ?_)
            · replace hF := (if_pos c25).symm.trans hF
              obtain rfl := Option.some.inj hF
              refine aV.sub (lv' := []) [] rfl ?_
              exact KX128 g24 hB0 hFr
            · replace hF := (if_neg c25).symm.trans hF
              refine ab_aload_n C 0 rfl rfl dX9_tryBuying_134 ?_
              refine ab_g9 (v := .ref (a0 + 9)) C lf_X9_35 hB0.1 rfl dX9_tryBuying_135 ?_
              refine ab_iload C 2 rfl dX9_tryBuying_138 ?_
              refine ab_aload_n C 0 rfl rfl dX9_tryBuying_140 ?_
              refine ab_g9 (v := .ref (a0 + 8)) C lf_X9_32 hB0.1 rfl dX9_tryBuying_141 ?_
              refine ab_iload C 2 rfl dX9_tryBuying_144 ?_
              obtain ⟨v26, hxv26, hF⟩ := Option.bind_eq_some_iff.mp hF
              refine ab_iald C (X9_r11 hB0) hxv26 dX9_tryBuying_146 ?_
              obtain ⟨w27, hxw27, hF⟩ := Option.bind_eq_some_iff.mp hF
              refine ab_iast C (X9_r12 hB0) hxw27 dX9_tryBuying_147 (fun g28 eg28 og28 => ?_)
              have hB0 : X9_at g28 a0 (sA Z23 12 w27) := X9_w12 hB0 eg28 og28
              have hFr : ∀ q, (q < a0 ∨ a0 + 20 ≤ q) → g28 q = h q := fun q u0 => (og28 q (by omega)).trans (hFr q u0)
              obtain ⟨v29, qv29⟩ : ∃ y : Int32, y = (v22 + (1 : Int32)) := ⟨_, rfl⟩
              replace hF := aLet_e hF v29 qv29
              refine ab_iinc (lv' := [(6, .int v29), (0, .ref a0), (3, .int x3)]) C 2 rfl dX9_tryBuying_148 (by rw [qv29]; rfl) (by decide) rfl ?_
              refine ab_goto C 128 dX9_tryBuying_151 (by decide) ?_
              refine aV.sub (lv' := [(0, .ref a0), (3, .int x3), (6, .int v29)]) [1, 2, 0] rfl ?_
              exact ih128 v29 (sA Z23 12 w27) g28 hB0 hFr res128 hF KX128
        refine aV.sub (lv' := [(0, .ref a0), (3, .int x3), (6, .int (0 : Int32))]) [2, 5, 0] rfl ?_
        obtain ⟨e30, he30, hF⟩ := Option.bind_eq_some_iff.mp hF
        refine L128 aFu (0 : Int32) (sI (sI e14.2 13 e14.1) 14 x3) g21 hB0 hFr e30 he30 (fun g31 hB0 hFr => ?_)
        obtain rfl := Option.some.inj hF
        exact ab_vret C R0 dX9_tryBuying_154 ⟨rfl, rfl, hB0, hFr⟩
  have J90 : X9_tryBuying_J90 e14 x1 x2 x3 = some r → aV X G 7 90 [(0, .ref a0), (1, .int x1), (2, .int x2), (3, .int x3), (4, .int e14.1)] [] g15 nx 0 0 := by
    intro  hF
    rw [X9_tryBuying_J90] at hF
    refine ab_iconst (v := (1 : Int32)) C dX9_tryBuying_90 (by decide) ?_
    refine ab_goto C 95 dX9_tryBuying_91 (by decide) ?_
    exact J95 (1 : Int32) hF
  refine ab_icmp_eq C 90 dX9_tryBuying_61 (by decide) (fun c32 => ?_) (fun c32 => ?_)
  · replace hF := (if_pos c32).symm.trans hF
    exact J90 hF
  · replace hF := (if_neg c32).symm.trans hF
    refine ab_iload C 4 rfl dX9_tryBuying_64 ?_
    refine ab_aload_n C 0 rfl rfl dX9_tryBuying_66 ?_
    refine ab_g9 (v := .int (e14.2.1 13)) C lf_X9_206 hB0.1 rfl dX9_tryBuying_67 ?_
    refine ab_icmp_lt C 90 dX9_tryBuying_70 (by decide) (fun c33 => ?_) (fun c33 => ?_)
    · replace hF := (if_pos c33).symm.trans hF
      exact J90 hF
    · replace hF := (if_neg c33).symm.trans hF
      refine ab_iload C 4 rfl dX9_tryBuying_73 ?_
      refine ab_aload_n C 0 rfl rfl dX9_tryBuying_75 ?_
      refine ab_g9 (v := .int (e14.2.1 13)) C lf_X9_206 hB0.1 rfl dX9_tryBuying_76 ?_
      have J94 : X9_tryBuying_J94 e14 x1 x2 x3 = some r → aV X G 7 94 [(0, .ref a0), (1, .int x1), (2, .int x2), (3, .int x3), (4, .int e14.1)] [] g15 nx 0 0 := by
        intro  hF
        rw [X9_tryBuying_J94] at hF
        refine ab_iconst (v := (0 : Int32)) C dX9_tryBuying_94 (by decide) ?_
        exact J95 (0 : Int32) hF
      refine ab_icmp_ne C 94 dX9_tryBuying_79 (by decide) (fun c34 => ?_) (fun c34 => ?_)
      · replace hF := (if_neg c34).symm.trans hF
        exact J94 hF
      · replace hF := (if_pos c34).symm.trans hF
        refine ab_iload_n C 3 rfl rfl dX9_tryBuying_82 ?_
        refine ab_aload_n C 0 rfl rfl dX9_tryBuying_83 ?_
        refine ab_g9 (v := .int (e14.2.1 14)) C lf_X9_209 hB0.1 rfl dX9_tryBuying_84 ?_
        refine ab_icmp_ge C 94 dX9_tryBuying_87 (by decide) (fun c35 => ?_) (fun c35 => ?_)
        · replace hF := (if_pos c35).symm.trans hF
          exact J94 hF
        · replace hF := (if_neg c35).symm.trans hF
          exact J90 hF
theorem dX9_isToBuy_0 : decode cX9_isToBuy 0 = .ok (.aload_n 0, 1) := by decide +kernel
theorem dX9_isToBuy_1 : decode cX9_isToBuy 1 = .ok (.getfield 7, 3) := by decide +kernel
theorem dX9_isToBuy_4 : decode cX9_isToBuy 4 = .ok (.iload_n 1, 1) := by decide +kernel
theorem dX9_isToBuy_5 : decode cX9_isToBuy 5 = .ok (.invokestatic 133, 3) := by decide +kernel
theorem dX9_isToBuy_8 : decode cX9_isToBuy 8 = .ok (.ifCond .eq 22, 3) := by decide +kernel
theorem dX9_isToBuy_11 : decode cX9_isToBuy 11 = .ok (.aload_n 0, 1) := by decide +kernel
theorem dX9_isToBuy_12 : decode cX9_isToBuy 12 = .ok (.getfield 7, 3) := by decide +kernel
theorem dX9_isToBuy_15 : decode cX9_isToBuy 15 = .ok (.bipush 52, 2) := by decide +kernel
theorem dX9_isToBuy_17 : decode cX9_isToBuy 17 = .ok (.iload_n 1, 1) := by decide +kernel
theorem dX9_isToBuy_18 : decode cX9_isToBuy 18 = .ok (.iadd, 1) := by decide +kernel
theorem dX9_isToBuy_19 : decode cX9_isToBuy 19 = .ok (.iaload, 1) := by decide +kernel
theorem dX9_isToBuy_20 : decode cX9_isToBuy 20 = .ok (.iload_n 2, 1) := by decide +kernel
theorem dX9_isToBuy_21 : decode cX9_isToBuy 21 = .ok (.iconst 1, 1) := by decide +kernel
theorem dX9_isToBuy_22 : decode cX9_isToBuy 22 = .ok (.iadd, 1) := by decide +kernel
theorem dX9_isToBuy_23 : decode cX9_isToBuy 23 = .ok (.if_icmp .eq 7, 3) := by decide +kernel
theorem dX9_isToBuy_26 : decode cX9_isToBuy 26 = .ok (.iconst 1, 1) := by decide +kernel
theorem dX9_isToBuy_27 : decode cX9_isToBuy 27 = .ok (.goto 4, 3) := by decide +kernel
theorem dX9_isToBuy_30 : decode cX9_isToBuy 30 = .ok (.iconst 0, 1) := by decide +kernel
theorem dX9_isToBuy_31 : decode cX9_isToBuy 31 = .ok (.ireturn, 1) := by decide +kernel
def X9_isToBuy (S0 : Rec) (x1 : Int32) (x2 : Int32) : Option (Int32) :=
  (X9_isIn (S0.2.1 0) x1).bind fun v1 =>
  if v1 = 0 then
    some (0 : Int32)
  else
    (rdI (S0.2.1 0) 96 ((52 : Int32) + x1)).bind fun v3 =>
    if v3 = (x2 + (1 : Int32)) then
      some (0 : Int32)
    else
      some (1 : Int32)
set_option maxRecDepth 100000 in
set_option maxHeartbeats 4000000 in
theorem X9_isToBuy_ok (l : Launch) {h : aH} {nx : Nat} {a0 : Nat} {S0 : Rec} {x1 : Int32} {x2 : Int32} (hB0 : X9_at h a0 S0) {r : Int32} (hF : X9_isToBuy S0 x1 x2 = some r) : aOk l 1 0 0 yX9_isToBuy cX9_isToBuy 3 (some .boolean) [.ref a0, .int x1, .int x2] h nx (aRd (.int r) h nx) := by
  refine aOk.of (by decide +kernel) (Nat.le_of_ble_eq_true rfl) (fun X G hX C R0 _ => ?_)
  subst hX
  show aV X G 3 0 [(0, .ref a0), (1, .int x1), (2, .int x2)] [] h nx 0 0
  rw [X9_isToBuy] at hF
  refine ab_aload_n C 0 rfl rfl dX9_isToBuy_0 ?_
  refine ab_g9 (v := .ref (a0 + 1)) C lf_X9_7 hB0.1 rfl dX9_isToBuy_1 ?_
  refine ab_iload_n C 1 rfl rfl dX9_isToBuy_4 ?_
  obtain ⟨v1, hxv1, hF⟩ := Option.bind_eq_some_iff.mp hF
  refine ab_cSR (v := .int v1) (st := []) C lm_X9_133 (X9_isIn_ok (xl X) (X9_r0 hB0) (r := v1) hxv1) rfl rfl (by decide) ⟨Nat.zero_le _, Nat.zero_le _⟩ (Nat.le_of_ble_eq_true rfl) dX9_isToBuy_5 ?_
  refine ab_if_eq C 30 dX9_isToBuy_8 (by decide) (fun c2 => ?_) (fun c2 => ?_)
  · replace hF := (if_pos c2).symm.trans hF
    refine ab_iconst (v := (0 : Int32)) C dX9_isToBuy_30 (by decide) ?_
    obtain rfl := Option.some.inj hF
    exact ab_iret C R0 rfl dX9_isToBuy_31 ⟨rfl, rfl, rfl⟩
  · replace hF := (if_neg c2).symm.trans hF
    refine ab_aload_n C 0 rfl rfl dX9_isToBuy_11 ?_
    refine ab_g9 (v := .ref (a0 + 1)) C lf_X9_7 hB0.1 rfl dX9_isToBuy_12 ?_
    refine ab_bipush (v := (52 : Int32)) C dX9_isToBuy_15 (by decide) ?_
    refine ab_iload_n C 1 rfl rfl dX9_isToBuy_17 ?_
    refine ab_iadd C dX9_isToBuy_18 ?_
    obtain ⟨v3, hxv3, hF⟩ := Option.bind_eq_some_iff.mp hF
    refine ab_iald C (X9_r0 hB0) hxv3 dX9_isToBuy_19 ?_
    refine ab_iload_n C 2 rfl rfl dX9_isToBuy_20 ?_
    refine ab_iconst (v := (1 : Int32)) C dX9_isToBuy_21 (by decide) ?_
    refine ab_iadd C dX9_isToBuy_22 ?_
    refine ab_icmp_eq C 30 dX9_isToBuy_23 (by decide) (fun c4 => ?_) (fun c4 => ?_)
    · replace hF := (if_pos c4).symm.trans hF
      refine ab_iconst (v := (0 : Int32)) C dX9_isToBuy_30 (by decide) ?_
      obtain rfl := Option.some.inj hF
      exact ab_iret C R0 rfl dX9_isToBuy_31 ⟨rfl, rfl, rfl⟩
    · replace hF := (if_neg c4).symm.trans hF
      refine ab_iconst (v := (1 : Int32)) C dX9_isToBuy_26 (by decide) ?_
      refine ab_goto C 31 dX9_isToBuy_27 (by decide) ?_
      obtain rfl := Option.some.inj hF
      exact ab_iret C R0 rfl dX9_isToBuy_31 ⟨rfl, rfl, rfl⟩
theorem dX9_buys_0 : decode cX9_buys 0 = .ok (.aload_n 0, 1) := by decide +kernel
theorem dX9_buys_1 : decode cX9_buys 1 = .ok (.iload_n 1, 1) := by decide +kernel
theorem dX9_buys_2 : decode cX9_buys 2 = .ok (.invokevirtual 153, 3) := by decide +kernel
theorem dX9_buys_5 : decode cX9_buys 5 = .ok (.ifCond .eq 16, 3) := by decide +kernel
theorem dX9_buys_8 : decode cX9_buys 8 = .ok (.aload_n 0, 1) := by decide +kernel
theorem dX9_buys_9 : decode cX9_buys 9 = .ok (.iload_n 2, 1) := by decide +kernel
theorem dX9_buys_10 : decode cX9_buys 10 = .ok (.invokevirtual 179, 3) := by decide +kernel
theorem dX9_buys_13 : decode cX9_buys 13 = .ok (.ifCond .eq 8, 3) := by decide +kernel
theorem dX9_buys_16 : decode cX9_buys 16 = .ok (.iload_n 3, 1) := by decide +kernel
theorem dX9_buys_17 : decode cX9_buys 17 = .ok (.iconst (-1), 1) := by decide +kernel
theorem dX9_buys_18 : decode cX9_buys 18 = .ok (.if_icmp .ge 5, 3) := by decide +kernel
theorem dX9_buys_21 : decode cX9_buys 21 = .ok (.iconst (-1), 1) := by decide +kernel
theorem dX9_buys_22 : decode cX9_buys 22 = .ok (.ireturn, 1) := by decide +kernel
theorem dX9_buys_23 : decode cX9_buys 23 = .ok (.aload_n 0, 1) := by decide +kernel
theorem dX9_buys_24 : decode cX9_buys 24 = .ok (.bipush (-4), 2) := by decide +kernel
theorem dX9_buys_26 : decode cX9_buys 26 = .ok (.putfield 206, 3) := by decide +kernel
theorem dX9_buys_29 : decode cX9_buys 29 = .ok (.aload_n 0, 1) := by decide +kernel
theorem dX9_buys_30 : decode cX9_buys 30 = .ok (.iload_n 1, 1) := by decide +kernel
theorem dX9_buys_31 : decode cX9_buys 31 = .ok (.iload_n 2, 1) := by decide +kernel
theorem dX9_buys_32 : decode cX9_buys 32 = .ok (.iconst 0, 1) := by decide +kernel
theorem dX9_buys_33 : decode cX9_buys 33 = .ok (.invokevirtual 212, 3) := by decide +kernel
theorem dX9_buys_36 : decode cX9_buys 36 = .ok (.iconst 0, 1) := by decide +kernel
theorem dX9_buys_37 : decode cX9_buys 37 = .ok (.istore 4, 2) := by decide +kernel
theorem dX9_buys_39 : decode cX9_buys 39 = .ok (.iload 4, 2) := by decide +kernel
theorem dX9_buys_41 : decode cX9_buys 41 = .ok (.bipush 36, 2) := by decide +kernel
theorem dX9_buys_43 : decode cX9_buys 43 = .ok (.if_icmp .ge 34, 3) := by decide +kernel
theorem dX9_buys_46 : decode cX9_buys 46 = .ok (.aload_n 0, 1) := by decide +kernel
theorem dX9_buys_47 : decode cX9_buys 47 = .ok (.iload 4, 2) := by decide +kernel
theorem dX9_buys_49 : decode cX9_buys 49 = .ok (.iload_n 1, 1) := by decide +kernel
theorem dX9_buys_50 : decode cX9_buys 50 = .ok (.invokevirtual 216, 3) := by decide +kernel
theorem dX9_buys_53 : decode cX9_buys 53 = .ok (.ifCond .eq 18, 3) := by decide +kernel
theorem dX9_buys_56 : decode cX9_buys 56 = .ok (.aload_n 0, 1) := by decide +kernel
theorem dX9_buys_57 : decode cX9_buys 57 = .ok (.getfield 32, 3) := by decide +kernel
theorem dX9_buys_60 : decode cX9_buys 60 = .ok (.iconst 0, 1) := by decide +kernel
theorem dX9_buys_61 : decode cX9_buys 61 = .ok (.iload 4, 2) := by decide +kernel
theorem dX9_buys_63 : decode cX9_buys 63 = .ok (.iastore, 1) := by decide +kernel
theorem dX9_buys_64 : decode cX9_buys 64 = .ok (.aload_n 0, 1) := by decide +kernel
theorem dX9_buys_65 : decode cX9_buys 65 = .ok (.iload_n 1, 1) := by decide +kernel
theorem dX9_buys_66 : decode cX9_buys 66 = .ok (.iload_n 2, 1) := by decide +kernel
theorem dX9_buys_67 : decode cX9_buys 67 = .ok (.iconst 1, 1) := by decide +kernel
theorem dX9_buys_68 : decode cX9_buys 68 = .ok (.invokevirtual 212, 3) := by decide +kernel
theorem dX9_buys_71 : decode cX9_buys 71 = .ok (.iinc 4 1, 3) := by decide +kernel
theorem dX9_buys_74 : decode cX9_buys 74 = .ok (.goto (-35), 3) := by decide +kernel
theorem dX9_buys_77 : decode cX9_buys 77 = .ok (.iconst 0, 1) := by decide +kernel
theorem dX9_buys_78 : decode cX9_buys 78 = .ok (.istore 4, 2) := by decide +kernel
theorem dX9_buys_80 : decode cX9_buys 80 = .ok (.iload 4, 2) := by decide +kernel
theorem dX9_buys_82 : decode cX9_buys 82 = .ok (.bipush 36, 2) := by decide +kernel
theorem dX9_buys_84 : decode cX9_buys 84 = .ok (.if_icmp .ge 71, 3) := by decide +kernel
theorem dX9_buys_87 : decode cX9_buys 87 = .ok (.iload 4, 2) := by decide +kernel
theorem dX9_buys_89 : decode cX9_buys 89 = .ok (.iconst 1, 1) := by decide +kernel
theorem dX9_buys_90 : decode cX9_buys 90 = .ok (.iadd, 1) := by decide +kernel
theorem dX9_buys_91 : decode cX9_buys 91 = .ok (.istore 5, 2) := by decide +kernel
theorem dX9_buys_93 : decode cX9_buys 93 = .ok (.iload 5, 2) := by decide +kernel
theorem dX9_buys_95 : decode cX9_buys 95 = .ok (.bipush 36, 2) := by decide +kernel
theorem dX9_buys_97 : decode cX9_buys 97 = .ok (.if_icmp .ge 52, 3) := by decide +kernel
theorem dX9_buys_100 : decode cX9_buys 100 = .ok (.aload_n 0, 1) := by decide +kernel
theorem dX9_buys_101 : decode cX9_buys 101 = .ok (.iload 4, 2) := by decide +kernel
theorem dX9_buys_103 : decode cX9_buys 103 = .ok (.iload_n 1, 1) := by decide +kernel
theorem dX9_buys_104 : decode cX9_buys 104 = .ok (.invokevirtual 216, 3) := by decide +kernel
theorem dX9_buys_107 : decode cX9_buys 107 = .ok (.ifCond .eq 36, 3) := by decide +kernel
theorem dX9_buys_110 : decode cX9_buys 110 = .ok (.aload_n 0, 1) := by decide +kernel
theorem dX9_buys_111 : decode cX9_buys 111 = .ok (.iload 5, 2) := by decide +kernel
theorem dX9_buys_113 : decode cX9_buys 113 = .ok (.iload_n 1, 1) := by decide +kernel
theorem dX9_buys_114 : decode cX9_buys 114 = .ok (.invokevirtual 216, 3) := by decide +kernel
theorem dX9_buys_117 : decode cX9_buys 117 = .ok (.ifCond .eq 26, 3) := by decide +kernel
theorem dX9_buys_120 : decode cX9_buys 120 = .ok (.aload_n 0, 1) := by decide +kernel
theorem dX9_buys_121 : decode cX9_buys 121 = .ok (.getfield 32, 3) := by decide +kernel
theorem dX9_buys_124 : decode cX9_buys 124 = .ok (.iconst 0, 1) := by decide +kernel
theorem dX9_buys_125 : decode cX9_buys 125 = .ok (.iload 4, 2) := by decide +kernel
theorem dX9_buys_127 : decode cX9_buys 127 = .ok (.iastore, 1) := by decide +kernel
theorem dX9_buys_128 : decode cX9_buys 128 = .ok (.aload_n 0, 1) := by decide +kernel
theorem dX9_buys_129 : decode cX9_buys 129 = .ok (.getfield 32, 3) := by decide +kernel
theorem dX9_buys_132 : decode cX9_buys 132 = .ok (.iconst 1, 1) := by decide +kernel
theorem dX9_buys_133 : decode cX9_buys 133 = .ok (.iload 5, 2) := by decide +kernel
theorem dX9_buys_135 : decode cX9_buys 135 = .ok (.iastore, 1) := by decide +kernel
theorem dX9_buys_136 : decode cX9_buys 136 = .ok (.aload_n 0, 1) := by decide +kernel
theorem dX9_buys_137 : decode cX9_buys 137 = .ok (.iload_n 1, 1) := by decide +kernel
theorem dX9_buys_138 : decode cX9_buys 138 = .ok (.iload_n 2, 1) := by decide +kernel
theorem dX9_buys_139 : decode cX9_buys 139 = .ok (.iconst 2, 1) := by decide +kernel
theorem dX9_buys_140 : decode cX9_buys 140 = .ok (.invokevirtual 212, 3) := by decide +kernel
theorem dX9_buys_143 : decode cX9_buys 143 = .ok (.iinc 5 1, 3) := by decide +kernel
theorem dX9_buys_146 : decode cX9_buys 146 = .ok (.goto (-53), 3) := by decide +kernel
theorem dX9_buys_149 : decode cX9_buys 149 = .ok (.iinc 4 1, 3) := by decide +kernel
theorem dX9_buys_152 : decode cX9_buys 152 = .ok (.goto (-72), 3) := by decide +kernel
theorem dX9_buys_155 : decode cX9_buys 155 = .ok (.iconst 0, 1) := by decide +kernel
theorem dX9_buys_156 : decode cX9_buys 156 = .ok (.istore 4, 2) := by decide +kernel
theorem dX9_buys_158 : decode cX9_buys 158 = .ok (.iload 4, 2) := by decide +kernel
theorem dX9_buys_160 : decode cX9_buys 160 = .ok (.bipush 36, 2) := by decide +kernel
theorem dX9_buys_162 : decode cX9_buys 162 = .ok (.if_icmp .ge 108, 3) := by decide +kernel
theorem dX9_buys_165 : decode cX9_buys 165 = .ok (.iload 4, 2) := by decide +kernel
theorem dX9_buys_167 : decode cX9_buys 167 = .ok (.iconst 1, 1) := by decide +kernel
theorem dX9_buys_168 : decode cX9_buys 168 = .ok (.iadd, 1) := by decide +kernel
theorem dX9_buys_169 : decode cX9_buys 169 = .ok (.istore 5, 2) := by decide +kernel
theorem dX9_buys_171 : decode cX9_buys 171 = .ok (.iload 5, 2) := by decide +kernel
theorem dX9_buys_173 : decode cX9_buys 173 = .ok (.bipush 36, 2) := by decide +kernel
theorem dX9_buys_175 : decode cX9_buys 175 = .ok (.if_icmp .ge 89, 3) := by decide +kernel
theorem dX9_buys_178 : decode cX9_buys 178 = .ok (.iload 5, 2) := by decide +kernel
theorem dX9_buys_180 : decode cX9_buys 180 = .ok (.iconst 1, 1) := by decide +kernel
theorem dX9_buys_181 : decode cX9_buys 181 = .ok (.iadd, 1) := by decide +kernel
theorem dX9_buys_182 : decode cX9_buys 182 = .ok (.istore 6, 2) := by decide +kernel
theorem dX9_buys_184 : decode cX9_buys 184 = .ok (.iload 6, 2) := by decide +kernel
theorem dX9_buys_186 : decode cX9_buys 186 = .ok (.bipush 36, 2) := by decide +kernel
theorem dX9_buys_188 : decode cX9_buys 188 = .ok (.if_icmp .ge 70, 3) := by decide +kernel
theorem dX9_buys_191 : decode cX9_buys 191 = .ok (.aload_n 0, 1) := by decide +kernel
theorem dX9_buys_192 : decode cX9_buys 192 = .ok (.iload 4, 2) := by decide +kernel
theorem dX9_buys_194 : decode cX9_buys 194 = .ok (.iload_n 1, 1) := by decide +kernel
theorem dX9_buys_195 : decode cX9_buys 195 = .ok (.invokevirtual 216, 3) := by decide +kernel
theorem dX9_buys_198 : decode cX9_buys 198 = .ok (.ifCond .eq 60, 3) := by decide +kernel
theorem dX9_buys_201 : decode cX9_buys 201 = .ok (.aload_n 0, 1) := by decide +kernel
theorem dX9_buys_202 : decode cX9_buys 202 = .ok (.iload 5, 2) := by decide +kernel
theorem dX9_buys_204 : decode cX9_buys 204 = .ok (.iload_n 1, 1) := by decide +kernel
theorem dX9_buys_205 : decode cX9_buys 205 = .ok (.invokevirtual 216, 3) := by decide +kernel
theorem dX9_buys_208 : decode cX9_buys 208 = .ok (.ifCond .eq 50, 3) := by decide +kernel
theorem dX9_buys_211 : decode cX9_buys 211 = .ok (.aload_n 0, 1) := by decide +kernel
theorem dX9_buys_212 : decode cX9_buys 212 = .ok (.iload 6, 2) := by decide +kernel
theorem dX9_buys_214 : decode cX9_buys 214 = .ok (.iload_n 1, 1) := by decide +kernel
theorem dX9_buys_215 : decode cX9_buys 215 = .ok (.invokevirtual 216, 3) := by decide +kernel
theorem dX9_buys_218 : decode cX9_buys 218 = .ok (.ifCond .eq 34, 3) := by decide +kernel
theorem dX9_buys_221 : decode cX9_buys 221 = .ok (.aload_n 0, 1) := by decide +kernel
theorem dX9_buys_222 : decode cX9_buys 222 = .ok (.getfield 32, 3) := by decide +kernel
theorem dX9_buys_225 : decode cX9_buys 225 = .ok (.iconst 0, 1) := by decide +kernel
theorem dX9_buys_226 : decode cX9_buys 226 = .ok (.iload 4, 2) := by decide +kernel
theorem dX9_buys_228 : decode cX9_buys 228 = .ok (.iastore, 1) := by decide +kernel
theorem dX9_buys_229 : decode cX9_buys 229 = .ok (.aload_n 0, 1) := by decide +kernel
theorem dX9_buys_230 : decode cX9_buys 230 = .ok (.getfield 32, 3) := by decide +kernel
theorem dX9_buys_233 : decode cX9_buys 233 = .ok (.iconst 1, 1) := by decide +kernel
theorem dX9_buys_234 : decode cX9_buys 234 = .ok (.iload 5, 2) := by decide +kernel
theorem dX9_buys_236 : decode cX9_buys 236 = .ok (.iastore, 1) := by decide +kernel
theorem dX9_buys_237 : decode cX9_buys 237 = .ok (.aload_n 0, 1) := by decide +kernel
theorem dX9_buys_238 : decode cX9_buys 238 = .ok (.getfield 32, 3) := by decide +kernel
theorem dX9_buys_241 : decode cX9_buys 241 = .ok (.iconst 2, 1) := by decide +kernel
theorem dX9_buys_242 : decode cX9_buys 242 = .ok (.iload 6, 2) := by decide +kernel
theorem dX9_buys_244 : decode cX9_buys 244 = .ok (.iastore, 1) := by decide +kernel
theorem dX9_buys_245 : decode cX9_buys 245 = .ok (.aload_n 0, 1) := by decide +kernel
theorem dX9_buys_246 : decode cX9_buys 246 = .ok (.iload_n 1, 1) := by decide +kernel
theorem dX9_buys_247 : decode cX9_buys 247 = .ok (.iload_n 2, 1) := by decide +kernel
theorem dX9_buys_248 : decode cX9_buys 248 = .ok (.iconst 3, 1) := by decide +kernel
theorem dX9_buys_249 : decode cX9_buys 249 = .ok (.invokevirtual 212, 3) := by decide +kernel
theorem dX9_buys_252 : decode cX9_buys 252 = .ok (.iinc 6 1, 3) := by decide +kernel
theorem dX9_buys_255 : decode cX9_buys 255 = .ok (.goto (-71), 3) := by decide +kernel
theorem dX9_buys_258 : decode cX9_buys 258 = .ok (.iinc 5 1, 3) := by decide +kernel
theorem dX9_buys_261 : decode cX9_buys 261 = .ok (.goto (-90), 3) := by decide +kernel
theorem dX9_buys_264 : decode cX9_buys 264 = .ok (.iinc 4 1, 3) := by decide +kernel
theorem dX9_buys_267 : decode cX9_buys 267 = .ok (.goto (-109), 3) := by decide +kernel
theorem dX9_buys_270 : decode cX9_buys 270 = .ok (.aload_n 0, 1) := by decide +kernel
theorem dX9_buys_271 : decode cX9_buys 271 = .ok (.getfield 206, 3) := by decide +kernel
theorem dX9_buys_274 : decode cX9_buys 274 = .ok (.bipush (-4), 2) := by decide +kernel
theorem dX9_buys_276 : decode cX9_buys 276 = .ok (.if_icmp .eq 8, 3) := by decide +kernel
theorem dX9_buys_279 : decode cX9_buys 279 = .ok (.iload_n 3, 1) := by decide +kernel
theorem dX9_buys_280 : decode cX9_buys 280 = .ok (.iconst (-1), 1) := by decide +kernel
theorem dX9_buys_281 : decode cX9_buys 281 = .ok (.if_icmp .ne 10, 3) := by decide +kernel
theorem dX9_buys_284 : decode cX9_buys 284 = .ok (.aload_n 0, 1) := by decide +kernel
theorem dX9_buys_285 : decode cX9_buys 285 = .ok (.getfield 206, 3) := by decide +kernel
theorem dX9_buys_288 : decode cX9_buys 288 = .ok (.goto 25, 3) := by decide +kernel
theorem dX9_buys_291 : decode cX9_buys 291 = .ok (.iload_n 3, 1) := by decide +kernel
theorem dX9_buys_292 : decode cX9_buys 292 = .ok (.aload_n 0, 1) := by decide +kernel
theorem dX9_buys_293 : decode cX9_buys 293 = .ok (.getfield 209, 3) := by decide +kernel
theorem dX9_buys_296 : decode cX9_buys 296 = .ok (.if_icmp .ge 15, 3) := by decide +kernel
theorem dX9_buys_299 : decode cX9_buys 299 = .ok (.aload_n 0, 1) := by decide +kernel
theorem dX9_buys_300 : decode cX9_buys 300 = .ok (.getfield 35, 3) := by decide +kernel
theorem dX9_buys_303 : decode cX9_buys 303 = .ok (.iload_n 3, 1) := by decide +kernel
theorem dX9_buys_304 : decode cX9_buys 304 = .ok (.iaload, 1) := by decide +kernel
theorem dX9_buys_305 : decode cX9_buys 305 = .ok (.invokestatic 219, 3) := by decide +kernel
theorem dX9_buys_308 : decode cX9_buys 308 = .ok (.goto 5, 3) := by decide +kernel
theorem dX9_buys_311 : decode cX9_buys 311 = .ok (.bipush (-4), 2) := by decide +kernel
theorem dX9_buys_313 : decode cX9_buys 313 = .ok (.ireturn, 1) := by decide +kernel
def X9_buys_L39 (x1 : Int32) (x2 : Int32) : Nat → Int32 → Rec → Option (Rec)
  | 0, _, _ => none
  | n39 + 1, v9, Z10 => if (36 : Int32) ≤ v9 then
      some Z10
    else
      (X9_isToBuy Z10 v9 x1).bind fun v13 =>
      if v13 = 0 then
        aLet (v9 + (1 : Int32)) fun v15 =>
        X9_buys_L39 x1 x2 n39 v15 Z10
      else
        (wrI (Z10.2.1 11) 3 (0 : Int32) v9).bind fun w16 =>
        (X9_tryBuying (sA Z10 11 w16) x1 x2 (1 : Int32)).bind fun v18 =>
        aLet (v9 + (1 : Int32)) fun v20 =>
        X9_buys_L39 x1 x2 n39 v20 v18
def X9_buys_L93 (v23 : Int32) (x1 : Int32) (x2 : Int32) : Nat → Int32 → Rec → Option (Rec)
  | 0, _, _ => none
  | n93 + 1, v28, Z29 => if (36 : Int32) ≤ v28 then
      some Z29
    else
      (X9_isToBuy Z29 v23 x1).bind fun v32 =>
      if v32 = 0 then
        aLet (v28 + (1 : Int32)) fun v34 =>
        X9_buys_L93 v23 x1 x2 n93 v34 Z29
      else
        (X9_isToBuy Z29 v28 x1).bind fun v35 =>
        if v35 = 0 then
          aLet (v28 + (1 : Int32)) fun v37 =>
          X9_buys_L93 v23 x1 x2 n93 v37 Z29
        else
          (wrI (Z29.2.1 11) 3 (0 : Int32) v23).bind fun w38 =>
          (wrI ((sA Z29 11 w38).2.1 11) 3 (1 : Int32) v28).bind fun w40 =>
          (X9_tryBuying (sA (sA Z29 11 w38) 11 w40) x1 x2 (2 : Int32)).bind fun v42 =>
          aLet (v28 + (1 : Int32)) fun v44 =>
          X9_buys_L93 v23 x1 x2 n93 v44 v42
def X9_buys_L80 (x1 : Int32) (x2 : Int32) : Nat → Int32 → Rec → Option (Rec)
  | 0, _, _ => none
  | n80 + 1, v23, Z24 => if (36 : Int32) ≤ v23 then
      some Z24
    else
      aLet (v23 + (1 : Int32)) fun v27 =>
      (X9_buys_L93 v23 x1 x2 aFu v27 Z24).bind fun e45 =>
      aLet (v23 + (1 : Int32)) fun v47 =>
      X9_buys_L80 x1 x2 n80 v47 e45
def X9_buys_L184 (v50 : Int32) (x1 : Int32) (v55 : Int32) (x2 : Int32) : Nat → Int32 → Rec → Option (Rec)
  | 0, _, _ => none
  | n184 + 1, v60, Z61 => if (36 : Int32) ≤ v60 then
      some Z61
    else
      (X9_isToBuy Z61 v50 x1).bind fun v64 =>
      if v64 = 0 then
        some Z61
      else
        (X9_isToBuy Z61 v55 x1).bind fun v66 =>
        if v66 = 0 then
          some Z61
        else
          (X9_isToBuy Z61 v60 x1).bind fun v68 =>
          if v68 = 0 then
            aLet (v60 + (1 : Int32)) fun v70 =>
            X9_buys_L184 v50 x1 v55 x2 n184 v70 Z61
          else
            (wrI (Z61.2.1 11) 3 (0 : Int32) v50).bind fun w71 =>
            (wrI ((sA Z61 11 w71).2.1 11) 3 (1 : Int32) v55).bind fun w73 =>
            (wrI ((sA (sA Z61 11 w71) 11 w73).2.1 11) 3 (2 : Int32) v60).bind fun w75 =>
            (X9_tryBuying (sA (sA (sA Z61 11 w71) 11 w73) 11 w75) x1 x2 (3 : Int32)).bind fun v77 =>
            aLet (v60 + (1 : Int32)) fun v79 =>
            X9_buys_L184 v50 x1 v55 x2 n184 v79 v77
def X9_buys_L171 (v50 : Int32) (x1 : Int32) (x2 : Int32) : Nat → Int32 → Rec → Option (Rec)
  | 0, _, _ => none
  | n171 + 1, v55, Z56 => if (36 : Int32) ≤ v55 then
      some Z56
    else
      aLet (v55 + (1 : Int32)) fun v59 =>
      (X9_buys_L184 v50 x1 v55 x2 aFu v59 Z56).bind fun e80 =>
      aLet (v55 + (1 : Int32)) fun v82 =>
      X9_buys_L171 v50 x1 x2 n171 v82 e80
def X9_buys_L158 (x1 : Int32) (x2 : Int32) : Nat → Int32 → Rec → Option (Rec)
  | 0, _, _ => none
  | n158 + 1, v50, Z51 => if (36 : Int32) ≤ v50 then
      some Z51
    else
      aLet (v50 + (1 : Int32)) fun v54 =>
      (X9_buys_L171 v50 x1 x2 aFu v54 Z51).bind fun e83 =>
      aLet (v50 + (1 : Int32)) fun v85 =>
      X9_buys_L158 x1 x2 n158 v85 e83
def X9_buys (S0 : Rec) (x1 : Int32) (x2 : Int32) (x3 : Int32) : Option (Int32 × Rec) :=
  (X9_isHolder S0 x1).bind fun v1 =>
  if v1 = 0 then
    some ((-1 : Int32), S0)
  else
    (X9_isWord S0 x2).bind fun v3 =>
    if v3 = 0 then
      some ((-1 : Int32), S0)
    else
      if (-1 : Int32) ≤ x3 then
        (X9_tryBuying (sI S0 13 (-4 : Int32)) x1 x2 (0 : Int32)).bind fun v7 =>
        (X9_buys_L39 x1 x2 aFu (0 : Int32) v7).bind fun e21 =>
        (X9_buys_L80 x1 x2 aFu (0 : Int32) e21).bind fun e48 =>
        (X9_buys_L158 x1 x2 aFu (0 : Int32) e48).bind fun e86 =>
        if (e86.1 13) = (-4 : Int32) then
          some ((e86.1 13), e86)
        else
          if x3 = (-1 : Int32) then
            some ((e86.1 13), e86)
          else
            if (e86.1 14) ≤ x3 then
              some ((-4 : Int32), e86)
            else
              (rdI (e86.2.1 12) 3 x3).bind fun v91 =>
              some ((X9_numberOf v91), e86)
      else
        some ((-1 : Int32), S0)
set_option maxRecDepth 100000 in
set_option maxHeartbeats 4000000 in
theorem X9_buys_ok (l : Launch) {h : aH} {nx : Nat} {a0 : Nat} {S0 : Rec} {x1 : Int32} {x2 : Int32} {x3 : Int32} (hB0 : X9_at h a0 S0) {r : Int32 × Rec} (hF : X9_buys S0 x1 x2 x3 = some r) : aOk l 6 0 0 yX9_buys cX9_buys 7 (some .int) [.ref a0, .int x1, .int x2, .int x3] h nx (aMt (some (.int r.1)) nx (fun h1 => X9_at h1 a0 r.2 ∧ (∀ q, (q < a0 ∨ a0 + 20 ≤ q) → h1 q = h q))) := by
  refine aOk.of (by decide +kernel) (Nat.le_of_ble_eq_true rfl) (fun X G hX C R0 _ => ?_)
  subst hX
  show aV X G 7 0 [(0, .ref a0), (1, .int x1), (2, .int x2), (3, .int x3)] [] h nx 0 0
  have hFr : ∀ q, (q < a0 ∨ a0 + 20 ≤ q) → h q = h q := fun _ _ => rfl
  rw [X9_buys] at hF
  refine ab_aload_n C 0 rfl rfl dX9_buys_0 ?_
  refine ab_iload_n C 1 rfl rfl dX9_buys_1 ?_
  obtain ⟨v1, hxv1, hF⟩ := Option.bind_eq_some_iff.mp hF
  refine ab_cVR (v := .int v1) (st := []) C lm_X9_153 (X9_isHolder_ok (xl X) hB0 (r := v1) hxv1) [.int x1] rfl hB0.1 rfl rfl rfl (by decide) ⟨Nat.zero_le _, Nat.zero_le _⟩ (Nat.le_of_ble_eq_true rfl) dX9_buys_2 ?_
  refine ab_if_eq C 21 dX9_buys_5 (by decide) (fun c2 => ?_) (fun c2 => ?_)
  · replace hF := (if_pos c2).symm.trans hF
    refine ab_iconst (v := (-1 : Int32)) C dX9_buys_21 (by decide) ?_
    obtain rfl := Option.some.inj hF
    exact ab_iret C R0 rfl dX9_buys_22 ⟨rfl, rfl, hB0, hFr⟩
  · replace hF := (if_neg c2).symm.trans hF
    refine ab_aload_n C 0 rfl rfl dX9_buys_8 ?_
    refine ab_iload_n C 2 rfl rfl dX9_buys_9 ?_
    obtain ⟨v3, hxv3, hF⟩ := Option.bind_eq_some_iff.mp hF
    refine ab_cVR (v := .int v3) (st := []) C lm_X9_179 (X9_isWord_ok (xl X) hB0 (r := v3) hxv3) [.int x2] rfl hB0.1 rfl rfl rfl (by decide) ⟨Nat.zero_le _, Nat.zero_le _⟩ (Nat.le_of_ble_eq_true rfl) dX9_buys_10 ?_
    refine ab_if_eq C 21 dX9_buys_13 (by decide) (fun c4 => ?_) (fun c4 => ?_)
    · replace hF := (if_pos c4).symm.trans hF
      refine ab_iconst (v := (-1 : Int32)) C dX9_buys_21 (by decide) ?_
      obtain rfl := Option.some.inj hF
      exact ab_iret C R0 rfl dX9_buys_22 ⟨rfl, rfl, hB0, hFr⟩
    · replace hF := (if_neg c4).symm.trans hF
      refine ab_iload_n C 3 rfl rfl dX9_buys_16 ?_
      refine ab_iconst (v := (-1 : Int32)) C dX9_buys_17 (by decide) ?_
      refine ab_icmp_ge C 23 dX9_buys_18 (by decide) (fun c5 => ?_) (fun c5 => ?_)
      · replace hF := (if_pos c5).symm.trans hF
        refine ab_aload_n C 0 rfl rfl dX9_buys_23 ?_
        refine ab_bipush (v := (-4 : Int32)) C dX9_buys_24 (by decide) ?_
        refine ab_p9 (ty := .int) C lf_X9_206 rfl (by decide +kernel) rfl rfl (Nat.le_of_ble_eq_true rfl) hB0.1 dX9_buys_26 (fun g6 eg6 og6 => ?_)
        have hB0 : X9_at g6 a0 (sI S0 13 (-4 : Int32)) := X9_p13 hB0 eg6 og6
        have hFr : ∀ q, (q < a0 ∨ a0 + 20 ≤ q) → g6 q = h q := fun q u0 => (og6 q (by omega)).trans (hFr q u0)
        refine ab_aload_n C 0 rfl rfl dX9_buys_29 ?_
        refine ab_iload_n C 1 rfl rfl dX9_buys_30 ?_
        refine ab_iload_n C 2 rfl rfl dX9_buys_31 ?_
        refine ab_iconst (v := (0 : Int32)) C dX9_buys_32 (by decide) ?_
        obtain ⟨v7, hxv7, hF⟩ := Option.bind_eq_some_iff.mp hF
        refine ab_cVN (st := []) C lm_X9_212 (X9_tryBuying_ok (xl X) hB0 (r := v7) hxv7) [.int x1, .int x2, .int (0 : Int32)] rfl hB0.1 rfl rfl rfl (by decide) ⟨Nat.zero_le _, Nat.zero_le _⟩ (Nat.le_of_ble_eq_true rfl) dX9_buys_33 (fun g8 pg8 => ?_)
        obtain ⟨k0, Og8⟩ := pg8
        have hB0 : X9_at g8 a0 v7 := k0
        have hFr : ∀ q, (q < a0 ∨ a0 + 20 ≤ q) → g8 q = h q := fun q u0 => (Og8 q (by omega)).trans (hFr q u0)
        refine ab_iconst (v := (0 : Int32)) C dX9_buys_36 (by decide) ?_
        refine ab_istore (lv' := [(4, .int (0 : Int32)), (0, .ref a0), (1, .int x1), (2, .int x2), (3, .int x3)]) C dX9_buys_37 (by decide) rfl ?_
        have L39 : ∀ (n39 : Nat) (v9 : Int32) (Z10 : Rec) (g11 : aH), (X9_at g11 a0 Z10) → (∀ q, (q < a0 ∨ a0 + 20 ≤ q) → g11 q = h q) → ∀ (res39 : Rec), X9_buys_L39 x1 x2 n39 v9 Z10 = some res39 → (∀ (q9 : aH), (X9_at q9 a0 res39) → (∀ q, (q < a0 ∨ a0 + 20 ≤ q) → q9 q = h q) → aV X G 7 77 [(0, .ref a0), (1, .int x1), (2, .int x2), (3, .int x3)] [] q9 nx 0 0) → aV X G 7 39 [(0, .ref a0), (1, .int x1), (2, .int x2), (3, .int x3), (4, .int v9)] [] g11 nx 0 0 := by
          intro n39
          induction n39 with
          | zero => intro v9 Z10 g11 hB0 hFr res39 hF KX39; cases (show (none : Option (Rec)) = some res39 from hF)
          | succ n39 ih39 =>
            intro v9 Z10 g11 hB0 hFr res39 hF KX39
            rw [X9_buys_L39] at hF
            refine ab_iload C 4 rfl dX9_buys_39 ?_
            refine ab_bipush (v := (36 : Int32)) C dX9_buys_41 (by decide) ?_
            refine ab_icmp_ge C 77 dX9_buys_43 (by decide) (fun c12 => ?_) (fun c12 => ?_)
            · replace hF := (if_pos c12).symm.trans hF
              obtain rfl := Option.some.inj hF
              refine aV.sub (lv' := [(0, .ref a0), (1, .int x1), (2, .int x2), (3, .int x3)]) [0, 1, 2, 3] rfl ?_
              exact KX39 g11 hB0 hFr
            · replace hF := (if_neg c12).symm.trans hF
              refine ab_aload_n C 0 rfl rfl dX9_buys_46 ?_
              refine ab_iload C 4 rfl dX9_buys_47 ?_
              refine ab_iload_n C 1 rfl rfl dX9_buys_49 ?_
              obtain ⟨v13, hxv13, hF⟩ := Option.bind_eq_some_iff.mp hF
              refine ab_cVR (v := .int v13) (st := []) C lm_X9_216 (X9_isToBuy_ok (xl X) hB0 (r := v13) hxv13) [.int v9, .int x1] rfl hB0.1 rfl rfl rfl (by decide) ⟨Nat.zero_le _, Nat.zero_le _⟩ (Nat.le_of_ble_eq_true rfl) dX9_buys_50 ?_
              refine ab_if_eq C 71 dX9_buys_53 (by decide) (fun c14 => ?_) (fun c14 => ?_)
              · replace hF := (if_pos c14).symm.trans hF
                obtain ⟨v15, qv15⟩ : ∃ y : Int32, y = (v9 + (1 : Int32)) := ⟨_, rfl⟩
                replace hF := aLet_e hF v15 qv15
                refine ab_iinc (lv' := [(4, .int v15), (0, .ref a0), (1, .int x1), (2, .int x2), (3, .int x3)]) C 4 rfl dX9_buys_71 (by rw [qv15]; rfl) (by decide) rfl ?_
                refine ab_goto C 39 dX9_buys_74 (by decide) ?_
                refine aV.sub (lv' := [(0, .ref a0), (1, .int x1), (2, .int x2), (3, .int x3), (4, .int v15)]) [1, 2, 3, 4, 0] rfl ?_
                exact ih39 v15 Z10 g11 hB0 hFr res39 hF KX39
              · replace hF := (if_neg c14).symm.trans hF
                refine ab_aload_n C 0 rfl rfl dX9_buys_56 ?_
                refine ab_g9 (v := .ref (a0 + 8)) C lf_X9_32 hB0.1 rfl dX9_buys_57 ?_
                refine ab_iconst (v := (0 : Int32)) C dX9_buys_60 (by decide) ?_
                refine ab_iload C 4 rfl dX9_buys_61 ?_
                obtain ⟨w16, hxw16, hF⟩ := Option.bind_eq_some_iff.mp hF
                refine ab_iast C (X9_r11 hB0) hxw16 dX9_buys_63 (fun g17 eg17 og17 => ?_)
                have hB0 : X9_at g17 a0 (sA Z10 11 w16) := X9_w11 hB0 eg17 og17
                have hFr : ∀ q, (q < a0 ∨ a0 + 20 ≤ q) → g17 q = h q := fun q u0 => (og17 q (by omega)).trans (hFr q u0)
                refine ab_aload_n C 0 rfl rfl dX9_buys_64 ?_
                refine ab_iload_n C 1 rfl rfl dX9_buys_65 ?_
                refine ab_iload_n C 2 rfl rfl dX9_buys_66 ?_
                refine ab_iconst (v := (1 : Int32)) C dX9_buys_67 (by decide) ?_
                obtain ⟨v18, hxv18, hF⟩ := Option.bind_eq_some_iff.mp hF
                refine ab_cVN (st := []) C lm_X9_212 (X9_tryBuying_ok (xl X) hB0 (r := v18) hxv18) [.int x1, .int x2, .int (1 : Int32)] rfl hB0.1 rfl rfl rfl (by decide) ⟨Nat.zero_le _, Nat.zero_le _⟩ (Nat.le_of_ble_eq_true rfl) dX9_buys_68 (fun g19 pg19 => ?_)
                obtain ⟨k0, Og19⟩ := pg19
                have hB0 : X9_at g19 a0 v18 := k0
                have hFr : ∀ q, (q < a0 ∨ a0 + 20 ≤ q) → g19 q = h q := fun q u0 => (Og19 q (by omega)).trans (hFr q u0)
                obtain ⟨v20, qv20⟩ : ∃ y : Int32, y = (v9 + (1 : Int32)) := ⟨_, rfl⟩
                replace hF := aLet_e hF v20 qv20
                refine ab_iinc (lv' := [(4, .int v20), (0, .ref a0), (1, .int x1), (2, .int x2), (3, .int x3)]) C 4 rfl dX9_buys_71 (by rw [qv20]; rfl) (by decide) rfl ?_
                refine ab_goto C 39 dX9_buys_74 (by decide) ?_
                refine aV.sub (lv' := [(0, .ref a0), (1, .int x1), (2, .int x2), (3, .int x3), (4, .int v20)]) [1, 2, 3, 4, 0] rfl ?_
                exact ih39 v20 v18 g19 hB0 hFr res39 hF KX39
        refine aV.sub (lv' := [(0, .ref a0), (1, .int x1), (2, .int x2), (3, .int x3), (4, .int (0 : Int32))]) [1, 2, 3, 4, 0] rfl ?_
        obtain ⟨e21, he21, hF⟩ := Option.bind_eq_some_iff.mp hF
        refine L39 aFu (0 : Int32) v7 g8 hB0 hFr e21 he21 (fun g22 hB0 hFr => ?_)
        refine ab_iconst (v := (0 : Int32)) C dX9_buys_77 (by decide) ?_
        refine ab_istore (lv' := [(4, .int (0 : Int32)), (0, .ref a0), (1, .int x1), (2, .int x2), (3, .int x3)]) C dX9_buys_78 (by decide) rfl ?_
        have L80 : ∀ (n80 : Nat) (v23 : Int32) (Z24 : Rec) (g25 : aH), (X9_at g25 a0 Z24) → (∀ q, (q < a0 ∨ a0 + 20 ≤ q) → g25 q = h q) → ∀ (res80 : Rec), X9_buys_L80 x1 x2 n80 v23 Z24 = some res80 → (∀ (q9 : aH), (X9_at q9 a0 res80) → (∀ q, (q < a0 ∨ a0 + 20 ≤ q) → q9 q = h q) → aV X G 7 155 [(0, .ref a0), (1, .int x1), (2, .int x2), (3, .int x3)] [] q9 nx 0 0) → aV X G 7 80 [(0, .ref a0), (1, .int x1), (2, .int x2), (3, .int x3), (4, .int v23)] [] g25 nx 0 0 := by
          intro n80
          induction n80 with
          | zero => intro v23 Z24 g25 hB0 hFr res80 hF KX80; cases (show (none : Option (Rec)) = some res80 from hF)
          | succ n80 ih80 =>
            intro v23 Z24 g25 hB0 hFr res80 hF KX80
            rw [X9_buys_L80] at hF
            refine ab_iload C 4 rfl dX9_buys_80 ?_
            refine ab_bipush (v := (36 : Int32)) C dX9_buys_82 (by decide) ?_
            refine ab_icmp_ge C 155 dX9_buys_84 (by decide) (fun c26 => ?_) (fun c26 => ?_)
            · replace hF := (if_pos c26).symm.trans hF
              obtain rfl := Option.some.inj hF
              refine aV.sub (lv' := [(0, .ref a0), (1, .int x1), (2, .int x2), (3, .int x3)]) [0, 1, 2, 3] rfl ?_
              exact KX80 g25 hB0 hFr
            · replace hF := (if_neg c26).symm.trans hF
              refine ab_iload C 4 rfl dX9_buys_87 ?_
              refine ab_iconst (v := (1 : Int32)) C dX9_buys_89 (by decide) ?_
              refine ab_iadd C dX9_buys_90 ?_
              refine ab_topi (fun v27 qv27 => ?_)
              replace hF := aLet_e hF v27 qv27
              refine ab_istore (lv' := [(5, .int v27), (0, .ref a0), (1, .int x1), (2, .int x2), (3, .int x3), (4, .int v23)]) C dX9_buys_91 (by decide) rfl ?_
              have L93 : ∀ (n93 : Nat) (v28 : Int32) (Z29 : Rec) (g30 : aH), (X9_at g30 a0 Z29) → (∀ q, (q < a0 ∨ a0 + 20 ≤ q) → g30 q = h q) → ∀ (res93 : Rec), X9_buys_L93 v23 x1 x2 n93 v28 Z29 = some res93 → (∀ (q9 : aH), (X9_at q9 a0 res93) → (∀ q, (q < a0 ∨ a0 + 20 ≤ q) → q9 q = h q) → aV X G 7 149 [(0, .ref a0), (1, .int x1), (2, .int x2), (3, .int x3), (4, .int v23)] [] q9 nx 0 0) → aV X G 7 93 [(0, .ref a0), (1, .int x1), (2, .int x2), (3, .int x3), (4, .int v23), (5, .int v28)] [] g30 nx 0 0 := by
                intro n93
                induction n93 with
                | zero => intro v28 Z29 g30 hB0 hFr res93 hF KX93; cases (show (none : Option (Rec)) = some res93 from hF)
                | succ n93 ih93 =>
                  intro v28 Z29 g30 hB0 hFr res93 hF KX93
                  rw [X9_buys_L93] at hF
                  refine ab_iload C 5 rfl dX9_buys_93 ?_
                  refine ab_bipush (v := (36 : Int32)) C dX9_buys_95 (by decide) ?_
                  refine ab_icmp_ge C 149 dX9_buys_97 (by decide) (fun c31 => ?_) (fun c31 => ?_)
                  · replace hF := (if_pos c31).symm.trans hF
                    obtain rfl := Option.some.inj hF
                    refine aV.sub (lv' := [(0, .ref a0), (1, .int x1), (2, .int x2), (3, .int x3), (4, .int v23)]) [0, 1, 2, 3, 4] rfl ?_
                    exact KX93 g30 hB0 hFr
                  · replace hF := (if_neg c31).symm.trans hF
                    refine ab_aload_n C 0 rfl rfl dX9_buys_100 ?_
                    refine ab_iload C 4 rfl dX9_buys_101 ?_
                    refine ab_iload_n C 1 rfl rfl dX9_buys_103 ?_
                    obtain ⟨v32, hxv32, hF⟩ := Option.bind_eq_some_iff.mp hF
                    refine ab_cVR (v := .int v32) (st := []) C lm_X9_216 (X9_isToBuy_ok (xl X) hB0 (r := v32) hxv32) [.int v23, .int x1] rfl hB0.1 rfl rfl rfl (by decide) ⟨Nat.zero_le _, Nat.zero_le _⟩ (Nat.le_of_ble_eq_true rfl) dX9_buys_104 ?_
                    refine ab_if_eq C 143 dX9_buys_107 (by decide) (fun c33 => ?_) (fun c33 => ?_)
                    · replace hF := (if_pos c33).symm.trans hF
                      obtain ⟨v34, qv34⟩ : ∃ y : Int32, y = (v28 + (1 : Int32)) := ⟨_, rfl⟩
                      replace hF := aLet_e hF v34 qv34
                      refine ab_iinc (lv' := [(5, .int v34), (0, .ref a0), (1, .int x1), (2, .int x2), (3, .int x3), (4, .int v23)]) C 5 rfl dX9_buys_143 (by rw [qv34]; rfl) (by decide) rfl ?_
                      refine ab_goto C 93 dX9_buys_146 (by decide) ?_
                      refine aV.sub (lv' := [(0, .ref a0), (1, .int x1), (2, .int x2), (3, .int x3), (4, .int v23), (5, .int v34)]) [1, 2, 3, 4, 5, 0] rfl ?_
                      exact ih93 v34 Z29 g30 hB0 hFr res93 hF KX93
                    · replace hF := (if_neg c33).symm.trans hF
                      refine ab_aload_n C 0 rfl rfl dX9_buys_110 ?_
                      refine ab_iload C 5 rfl dX9_buys_111 ?_
                      refine ab_iload_n C 1 rfl rfl dX9_buys_113 ?_
                      obtain ⟨v35, hxv35, hF⟩ := Option.bind_eq_some_iff.mp hF
                      refine ab_cVR (v := .int v35) (st := []) C lm_X9_216 (X9_isToBuy_ok (xl X) hB0 (r := v35) hxv35) [.int v28, .int x1] rfl hB0.1 rfl rfl rfl (by decide) ⟨Nat.zero_le _, Nat.zero_le _⟩ (Nat.le_of_ble_eq_true rfl) dX9_buys_114 ?_
                      refine ab_if_eq C 143 dX9_buys_117 (by decide) (fun c36 => ?_) (fun c36 => ?_)
                      · replace hF := (if_pos c36).symm.trans hF
                        obtain ⟨v37, qv37⟩ : ∃ y : Int32, y = (v28 + (1 : Int32)) := ⟨_, rfl⟩
                        replace hF := aLet_e hF v37 qv37
                        refine ab_iinc (lv' := [(5, .int v37), (0, .ref a0), (1, .int x1), (2, .int x2), (3, .int x3), (4, .int v23)]) C 5 rfl dX9_buys_143 (by rw [qv37]; rfl) (by decide) rfl ?_
                        refine ab_goto C 93 dX9_buys_146 (by decide) ?_
                        refine aV.sub (lv' := [(0, .ref a0), (1, .int x1), (2, .int x2), (3, .int x3), (4, .int v23), (5, .int v37)]) [1, 2, 3, 4, 5, 0] rfl ?_
                        exact ih93 v37 Z29 g30 hB0 hFr res93 hF KX93
                      · replace hF := (if_neg c36).symm.trans hF
                        refine ab_aload_n C 0 rfl rfl dX9_buys_120 ?_
                        refine ab_g9 (v := .ref (a0 + 8)) C lf_X9_32 hB0.1 rfl dX9_buys_121 ?_
                        refine ab_iconst (v := (0 : Int32)) C dX9_buys_124 (by decide) ?_
                        refine ab_iload C 4 rfl dX9_buys_125 ?_
                        obtain ⟨w38, hxw38, hF⟩ := Option.bind_eq_some_iff.mp hF
                        refine ab_iast C (X9_r11 hB0) hxw38 dX9_buys_127 (fun g39 eg39 og39 => ?_)
                        have hB0 : X9_at g39 a0 (sA Z29 11 w38) := X9_w11 hB0 eg39 og39
                        have hFr : ∀ q, (q < a0 ∨ a0 + 20 ≤ q) → g39 q = h q := fun q u0 => (og39 q (by omega)).trans (hFr q u0)
                        refine ab_aload_n C 0 rfl rfl dX9_buys_128 ?_
                        refine ab_g9 (v := .ref (a0 + 8)) C lf_X9_32 hB0.1 rfl dX9_buys_129 ?_
                        refine ab_iconst (v := (1 : Int32)) C dX9_buys_132 (by decide) ?_
                        refine ab_iload C 5 rfl dX9_buys_133 ?_
                        obtain ⟨w40, hxw40, hF⟩ := Option.bind_eq_some_iff.mp hF
                        refine ab_iast C (X9_r11 hB0) hxw40 dX9_buys_135 (fun g41 eg41 og41 => ?_)
                        have hB0 : X9_at g41 a0 (sA (sA Z29 11 w38) 11 w40) := X9_w11 hB0 eg41 og41
                        have hFr : ∀ q, (q < a0 ∨ a0 + 20 ≤ q) → g41 q = h q := fun q u0 => (og41 q (by omega)).trans (hFr q u0)
                        refine ab_aload_n C 0 rfl rfl dX9_buys_136 ?_
                        refine ab_iload_n C 1 rfl rfl dX9_buys_137 ?_
                        refine ab_iload_n C 2 rfl rfl dX9_buys_138 ?_
                        refine ab_iconst (v := (2 : Int32)) C dX9_buys_139 (by decide) ?_
                        obtain ⟨v42, hxv42, hF⟩ := Option.bind_eq_some_iff.mp hF
                        refine ab_cVN (st := []) C lm_X9_212 (X9_tryBuying_ok (xl X) hB0 (r := v42) hxv42) [.int x1, .int x2, .int (2 : Int32)] rfl hB0.1 rfl rfl rfl (by decide) ⟨Nat.zero_le _, Nat.zero_le _⟩ (Nat.le_of_ble_eq_true rfl) dX9_buys_140 (fun g43 pg43 => ?_)
                        obtain ⟨k0, Og43⟩ := pg43
                        have hB0 : X9_at g43 a0 v42 := k0
                        have hFr : ∀ q, (q < a0 ∨ a0 + 20 ≤ q) → g43 q = h q := fun q u0 => (Og43 q (by omega)).trans (hFr q u0)
                        obtain ⟨v44, qv44⟩ : ∃ y : Int32, y = (v28 + (1 : Int32)) := ⟨_, rfl⟩
                        replace hF := aLet_e hF v44 qv44
                        refine ab_iinc (lv' := [(5, .int v44), (0, .ref a0), (1, .int x1), (2, .int x2), (3, .int x3), (4, .int v23)]) C 5 rfl dX9_buys_143 (by rw [qv44]; rfl) (by decide) rfl ?_
                        refine ab_goto C 93 dX9_buys_146 (by decide) ?_
                        refine aV.sub (lv' := [(0, .ref a0), (1, .int x1), (2, .int x2), (3, .int x3), (4, .int v23), (5, .int v44)]) [1, 2, 3, 4, 5, 0] rfl ?_
                        exact ih93 v44 v42 g43 hB0 hFr res93 hF KX93
              refine aV.sub (lv' := [(0, .ref a0), (1, .int x1), (2, .int x2), (3, .int x3), (4, .int v23), (5, .int v27)]) [1, 2, 3, 4, 5, 0] rfl ?_
              obtain ⟨e45, he45, hF⟩ := Option.bind_eq_some_iff.mp hF
              refine L93 aFu v27 Z24 g25 hB0 hFr e45 he45 (fun g46 hB0 hFr => ?_)
              obtain ⟨v47, qv47⟩ : ∃ y : Int32, y = (v23 + (1 : Int32)) := ⟨_, rfl⟩
              replace hF := aLet_e hF v47 qv47
              refine ab_iinc (lv' := [(4, .int v47), (0, .ref a0), (1, .int x1), (2, .int x2), (3, .int x3)]) C 4 rfl dX9_buys_149 (by rw [qv47]; rfl) (by decide) rfl ?_
              refine ab_goto C 80 dX9_buys_152 (by decide) ?_
              refine aV.sub (lv' := [(0, .ref a0), (1, .int x1), (2, .int x2), (3, .int x3), (4, .int v47)]) [1, 2, 3, 4, 0] rfl ?_
              exact ih80 v47 e45 g46 hB0 hFr res80 hF KX80
        refine aV.sub (lv' := [(0, .ref a0), (1, .int x1), (2, .int x2), (3, .int x3), (4, .int (0 : Int32))]) [1, 2, 3, 4, 0] rfl ?_
        obtain ⟨e48, he48, hF⟩ := Option.bind_eq_some_iff.mp hF
        refine L80 aFu (0 : Int32) e21 g22 hB0 hFr e48 he48 (fun g49 hB0 hFr => ?_)
        refine ab_iconst (v := (0 : Int32)) C dX9_buys_155 (by decide) ?_
        refine ab_istore (lv' := [(4, .int (0 : Int32)), (0, .ref a0), (1, .int x1), (2, .int x2), (3, .int x3)]) C dX9_buys_156 (by decide) rfl ?_
        have L158 : ∀ (n158 : Nat) (v50 : Int32) (Z51 : Rec) (g52 : aH), (X9_at g52 a0 Z51) → (∀ q, (q < a0 ∨ a0 + 20 ≤ q) → g52 q = h q) → ∀ (res158 : Rec), X9_buys_L158 x1 x2 n158 v50 Z51 = some res158 → (∀ (q9 : aH), (X9_at q9 a0 res158) → (∀ q, (q < a0 ∨ a0 + 20 ≤ q) → q9 q = h q) → aV X G 7 270 [(0, .ref a0), (3, .int x3)] [] q9 nx 0 0) → aV X G 7 158 [(0, .ref a0), (1, .int x1), (2, .int x2), (3, .int x3), (4, .int v50)] [] g52 nx 0 0 := by
          intro n158
          induction n158 with
          | zero => intro v50 Z51 g52 hB0 hFr res158 hF KX158; cases (show (none : Option (Rec)) = some res158 from hF)
          | succ n158 ih158 =>
            intro v50 Z51 g52 hB0 hFr res158 hF KX158
            rw [X9_buys_L158] at hF
            refine ab_iload C 4 rfl dX9_buys_158 ?_
            refine ab_bipush (v := (36 : Int32)) C dX9_buys_160 (by decide) ?_
            refine ab_icmp_ge C 270 dX9_buys_162 (by decide) (fun c53 => ?_) (fun c53 => ?_)
            · replace hF := (if_pos c53).symm.trans hF
              obtain rfl := Option.some.inj hF
              refine aV.sub (lv' := [(0, .ref a0), (3, .int x3)]) [0, 3] rfl ?_
              exact KX158 g52 hB0 hFr
            · replace hF := (if_neg c53).symm.trans hF
              refine ab_iload C 4 rfl dX9_buys_165 ?_
              refine ab_iconst (v := (1 : Int32)) C dX9_buys_167 (by decide) ?_
              refine ab_iadd C dX9_buys_168 ?_
              refine ab_topi (fun v54 qv54 => ?_)
              replace hF := aLet_e hF v54 qv54
              refine ab_istore (lv' := [(5, .int v54), (0, .ref a0), (1, .int x1), (2, .int x2), (3, .int x3), (4, .int v50)]) C dX9_buys_169 (by decide) rfl ?_
              have L171 : ∀ (n171 : Nat) (v55 : Int32) (Z56 : Rec) (g57 : aH), (X9_at g57 a0 Z56) → (∀ q, (q < a0 ∨ a0 + 20 ≤ q) → g57 q = h q) → ∀ (res171 : Rec), X9_buys_L171 v50 x1 x2 n171 v55 Z56 = some res171 → (∀ (q9 : aH), (X9_at q9 a0 res171) → (∀ q, (q < a0 ∨ a0 + 20 ≤ q) → q9 q = h q) → aV X G 7 264 [(0, .ref a0), (1, .int x1), (2, .int x2), (3, .int x3), (4, .int v50)] [] q9 nx 0 0) → aV X G 7 171 [(0, .ref a0), (1, .int x1), (2, .int x2), (3, .int x3), (4, .int v50), (5, .int v55)] [] g57 nx 0 0 := by
                intro n171
                induction n171 with
                | zero => intro v55 Z56 g57 hB0 hFr res171 hF KX171; cases (show (none : Option (Rec)) = some res171 from hF)
                | succ n171 ih171 =>
                  intro v55 Z56 g57 hB0 hFr res171 hF KX171
                  rw [X9_buys_L171] at hF
                  refine ab_iload C 5 rfl dX9_buys_171 ?_
                  refine ab_bipush (v := (36 : Int32)) C dX9_buys_173 (by decide) ?_
                  refine ab_icmp_ge C 264 dX9_buys_175 (by decide) (fun c58 => ?_) (fun c58 => ?_)
                  · replace hF := (if_pos c58).symm.trans hF
                    obtain rfl := Option.some.inj hF
                    refine aV.sub (lv' := [(0, .ref a0), (1, .int x1), (2, .int x2), (3, .int x3), (4, .int v50)]) [0, 1, 2, 3, 4] rfl ?_
                    exact KX171 g57 hB0 hFr
                  · replace hF := (if_neg c58).symm.trans hF
                    refine ab_iload C 5 rfl dX9_buys_178 ?_
                    refine ab_iconst (v := (1 : Int32)) C dX9_buys_180 (by decide) ?_
                    refine ab_iadd C dX9_buys_181 ?_
                    refine ab_topi (fun v59 qv59 => ?_)
                    replace hF := aLet_e hF v59 qv59
                    refine ab_istore (lv' := [(6, .int v59), (0, .ref a0), (1, .int x1), (2, .int x2), (3, .int x3), (4, .int v50), (5, .int v55)]) C dX9_buys_182 (by decide) rfl ?_
                    have L184 : ∀ (n184 : Nat) (v60 : Int32) (Z61 : Rec) (g62 : aH), (X9_at g62 a0 Z61) → (∀ q, (q < a0 ∨ a0 + 20 ≤ q) → g62 q = h q) → ∀ (res184 : Rec), X9_buys_L184 v50 x1 v55 x2 n184 v60 Z61 = some res184 → (∀ (q9 : aH), (X9_at q9 a0 res184) → (∀ q, (q < a0 ∨ a0 + 20 ≤ q) → q9 q = h q) → aV X G 7 258 [(0, .ref a0), (1, .int x1), (2, .int x2), (3, .int x3), (4, .int v50), (5, .int v55)] [] q9 nx 0 0) → aV X G 7 184 [(0, .ref a0), (1, .int x1), (2, .int x2), (3, .int x3), (4, .int v50), (5, .int v55), (6, .int v60)] [] g62 nx 0 0 := by
                      intro n184
                      induction n184 with
                      | zero => intro v60 Z61 g62 hB0 hFr res184 hF KX184; cases (show (none : Option (Rec)) = some res184 from hF)
                      | succ n184 ih184 =>
                        intro v60 Z61 g62 hB0 hFr res184 hF KX184
                        rw [X9_buys_L184] at hF
                        refine ab_iload C 6 rfl dX9_buys_184 ?_
                        refine ab_bipush (v := (36 : Int32)) C dX9_buys_186 (by decide) ?_
                        refine ab_icmp_ge C 258 dX9_buys_188 (by decide) (fun c63 => ?_) (fun c63 => ?_)
                        · replace hF := (if_pos c63).symm.trans hF
                          obtain rfl := Option.some.inj hF
                          refine aV.sub (lv' := [(0, .ref a0), (1, .int x1), (2, .int x2), (3, .int x3), (4, .int v50), (5, .int v55)]) [0, 1, 2, 3, 4, 5] rfl ?_
                          exact KX184 g62 hB0 hFr
                        · replace hF := (if_neg c63).symm.trans hF
                          refine ab_aload_n C 0 rfl rfl dX9_buys_191 ?_
                          refine ab_iload C 4 rfl dX9_buys_192 ?_
                          refine ab_iload_n C 1 rfl rfl dX9_buys_194 ?_
                          obtain ⟨v64, hxv64, hF⟩ := Option.bind_eq_some_iff.mp hF
                          refine ab_cVR (v := .int v64) (st := []) C lm_X9_216 (X9_isToBuy_ok (xl X) hB0 (r := v64) hxv64) [.int v50, .int x1] rfl hB0.1 rfl rfl rfl (by decide) ⟨Nat.zero_le _, Nat.zero_le _⟩ (Nat.le_of_ble_eq_true rfl) dX9_buys_195 ?_
                          refine ab_if_eq C 258 dX9_buys_198 (by decide) (fun c65 => ?_) (fun c65 => ?_)
                          · replace hF := (if_pos c65).symm.trans hF
                            obtain rfl := Option.some.inj hF
                            refine aV.sub (lv' := [(0, .ref a0), (1, .int x1), (2, .int x2), (3, .int x3), (4, .int v50), (5, .int v55)]) [0, 1, 2, 3, 4, 5] rfl ?_
                            exact KX184 g62 hB0 hFr
                          · replace hF := (if_neg c65).symm.trans hF
                            refine ab_aload_n C 0 rfl rfl dX9_buys_201 ?_
                            refine ab_iload C 5 rfl dX9_buys_202 ?_
                            refine ab_iload_n C 1 rfl rfl dX9_buys_204 ?_
                            obtain ⟨v66, hxv66, hF⟩ := Option.bind_eq_some_iff.mp hF
                            refine ab_cVR (v := .int v66) (st := []) C lm_X9_216 (X9_isToBuy_ok (xl X) hB0 (r := v66) hxv66) [.int v55, .int x1] rfl hB0.1 rfl rfl rfl (by decide) ⟨Nat.zero_le _, Nat.zero_le _⟩ (Nat.le_of_ble_eq_true rfl) dX9_buys_205 ?_
                            refine ab_if_eq C 258 dX9_buys_208 (by decide) (fun c67 => ?_) (fun c67 => ?_)
                            · replace hF := (if_pos c67).symm.trans hF
                              obtain rfl := Option.some.inj hF
                              refine aV.sub (lv' := [(0, .ref a0), (1, .int x1), (2, .int x2), (3, .int x3), (4, .int v50), (5, .int v55)]) [0, 1, 2, 3, 4, 5] rfl ?_
                              exact KX184 g62 hB0 hFr
                            · replace hF := (if_neg c67).symm.trans hF
                              refine ab_aload_n C 0 rfl rfl dX9_buys_211 ?_
                              refine ab_iload C 6 rfl dX9_buys_212 ?_
                              refine ab_iload_n C 1 rfl rfl dX9_buys_214 ?_
                              obtain ⟨v68, hxv68, hF⟩ := Option.bind_eq_some_iff.mp hF
                              refine ab_cVR (v := .int v68) (st := []) C lm_X9_216 (X9_isToBuy_ok (xl X) hB0 (r := v68) hxv68) [.int v60, .int x1] rfl hB0.1 rfl rfl rfl (by decide) ⟨Nat.zero_le _, Nat.zero_le _⟩ (Nat.le_of_ble_eq_true rfl) dX9_buys_215 ?_
                              refine ab_if_eq C 252 dX9_buys_218 (by decide) (fun c69 => ?_) (fun c69 => ?_)
                              · replace hF := (if_pos c69).symm.trans hF
                                obtain ⟨v70, qv70⟩ : ∃ y : Int32, y = (v60 + (1 : Int32)) := ⟨_, rfl⟩
                                replace hF := aLet_e hF v70 qv70
                                refine ab_iinc (lv' := [(6, .int v70), (0, .ref a0), (1, .int x1), (2, .int x2), (3, .int x3), (4, .int v50), (5, .int v55)]) C 6 rfl dX9_buys_252 (by rw [qv70]; rfl) (by decide) rfl ?_
                                refine ab_goto C 184 dX9_buys_255 (by decide) ?_
                                refine aV.sub (lv' := [(0, .ref a0), (1, .int x1), (2, .int x2), (3, .int x3), (4, .int v50), (5, .int v55), (6, .int v70)]) [1, 2, 3, 4, 5, 6, 0] rfl ?_
                                exact ih184 v70 Z61 g62 hB0 hFr res184 hF KX184
                              · replace hF := (if_neg c69).symm.trans hF
                                refine ab_aload_n C 0 rfl rfl dX9_buys_221 ?_
                                refine ab_g9 (v := .ref (a0 + 8)) C lf_X9_32 hB0.1 rfl dX9_buys_222 ?_
                                refine ab_iconst (v := (0 : Int32)) C dX9_buys_225 (by decide) ?_
                                refine ab_iload C 4 rfl dX9_buys_226 ?_
                                obtain ⟨w71, hxw71, hF⟩ := Option.bind_eq_some_iff.mp hF
                                refine ab_iast C (X9_r11 hB0) hxw71 dX9_buys_228 (fun g72 eg72 og72 => ?_)
                                have hB0 : X9_at g72 a0 (sA Z61 11 w71) := X9_w11 hB0 eg72 og72
                                have hFr : ∀ q, (q < a0 ∨ a0 + 20 ≤ q) → g72 q = h q := fun q u0 => (og72 q (by omega)).trans (hFr q u0)
                                refine ab_aload_n C 0 rfl rfl dX9_buys_229 ?_
                                refine ab_g9 (v := .ref (a0 + 8)) C lf_X9_32 hB0.1 rfl dX9_buys_230 ?_
                                refine ab_iconst (v := (1 : Int32)) C dX9_buys_233 (by decide) ?_
                                refine ab_iload C 5 rfl dX9_buys_234 ?_
                                obtain ⟨w73, hxw73, hF⟩ := Option.bind_eq_some_iff.mp hF
                                refine ab_iast C (X9_r11 hB0) hxw73 dX9_buys_236 (fun g74 eg74 og74 => ?_)
                                have hB0 : X9_at g74 a0 (sA (sA Z61 11 w71) 11 w73) := X9_w11 hB0 eg74 og74
                                have hFr : ∀ q, (q < a0 ∨ a0 + 20 ≤ q) → g74 q = h q := fun q u0 => (og74 q (by omega)).trans (hFr q u0)
                                refine ab_aload_n C 0 rfl rfl dX9_buys_237 ?_
                                refine ab_g9 (v := .ref (a0 + 8)) C lf_X9_32 hB0.1 rfl dX9_buys_238 ?_
                                refine ab_iconst (v := (2 : Int32)) C dX9_buys_241 (by decide) ?_
                                refine ab_iload C 6 rfl dX9_buys_242 ?_
                                obtain ⟨w75, hxw75, hF⟩ := Option.bind_eq_some_iff.mp hF
                                refine ab_iast C (X9_r11 hB0) hxw75 dX9_buys_244 (fun g76 eg76 og76 => ?_)
                                have hB0 : X9_at g76 a0 (sA (sA (sA Z61 11 w71) 11 w73) 11 w75) := X9_w11 hB0 eg76 og76
                                have hFr : ∀ q, (q < a0 ∨ a0 + 20 ≤ q) → g76 q = h q := fun q u0 => (og76 q (by omega)).trans (hFr q u0)
                                refine ab_aload_n C 0 rfl rfl dX9_buys_245 ?_
                                refine ab_iload_n C 1 rfl rfl dX9_buys_246 ?_
                                refine ab_iload_n C 2 rfl rfl dX9_buys_247 ?_
                                refine ab_iconst (v := (3 : Int32)) C dX9_buys_248 (by decide) ?_
                                obtain ⟨v77, hxv77, hF⟩ := Option.bind_eq_some_iff.mp hF
                                refine ab_cVN (st := []) C lm_X9_212 (X9_tryBuying_ok (xl X) hB0 (r := v77) hxv77) [.int x1, .int x2, .int (3 : Int32)] rfl hB0.1 rfl rfl rfl (by decide) ⟨Nat.zero_le _, Nat.zero_le _⟩ (Nat.le_of_ble_eq_true rfl) dX9_buys_249 (fun g78 pg78 => ?_)
                                obtain ⟨k0, Og78⟩ := pg78
                                have hB0 : X9_at g78 a0 v77 := k0
                                have hFr : ∀ q, (q < a0 ∨ a0 + 20 ≤ q) → g78 q = h q := fun q u0 => (Og78 q (by omega)).trans (hFr q u0)
                                obtain ⟨v79, qv79⟩ : ∃ y : Int32, y = (v60 + (1 : Int32)) := ⟨_, rfl⟩
                                replace hF := aLet_e hF v79 qv79
                                refine ab_iinc (lv' := [(6, .int v79), (0, .ref a0), (1, .int x1), (2, .int x2), (3, .int x3), (4, .int v50), (5, .int v55)]) C 6 rfl dX9_buys_252 (by rw [qv79]; rfl) (by decide) rfl ?_
                                refine ab_goto C 184 dX9_buys_255 (by decide) ?_
                                refine aV.sub (lv' := [(0, .ref a0), (1, .int x1), (2, .int x2), (3, .int x3), (4, .int v50), (5, .int v55), (6, .int v79)]) [1, 2, 3, 4, 5, 6, 0] rfl ?_
                                exact ih184 v79 v77 g78 hB0 hFr res184 hF KX184
                    refine aV.sub (lv' := [(0, .ref a0), (1, .int x1), (2, .int x2), (3, .int x3), (4, .int v50), (5, .int v55), (6, .int v59)]) [1, 2, 3, 4, 5, 6, 0] rfl ?_
                    obtain ⟨e80, he80, hF⟩ := Option.bind_eq_some_iff.mp hF
                    refine L184 aFu v59 Z56 g57 hB0 hFr e80 he80 (fun g81 hB0 hFr => ?_)
                    obtain ⟨v82, qv82⟩ : ∃ y : Int32, y = (v55 + (1 : Int32)) := ⟨_, rfl⟩
                    replace hF := aLet_e hF v82 qv82
                    refine ab_iinc (lv' := [(5, .int v82), (0, .ref a0), (1, .int x1), (2, .int x2), (3, .int x3), (4, .int v50)]) C 5 rfl dX9_buys_258 (by rw [qv82]; rfl) (by decide) rfl ?_
                    refine ab_goto C 171 dX9_buys_261 (by decide) ?_
                    refine aV.sub (lv' := [(0, .ref a0), (1, .int x1), (2, .int x2), (3, .int x3), (4, .int v50), (5, .int v82)]) [1, 2, 3, 4, 5, 0] rfl ?_
                    exact ih171 v82 e80 g81 hB0 hFr res171 hF KX171
              refine aV.sub (lv' := [(0, .ref a0), (1, .int x1), (2, .int x2), (3, .int x3), (4, .int v50), (5, .int v54)]) [1, 2, 3, 4, 5, 0] rfl ?_
              obtain ⟨e83, he83, hF⟩ := Option.bind_eq_some_iff.mp hF
              refine L171 aFu v54 Z51 g52 hB0 hFr e83 he83 (fun g84 hB0 hFr => ?_)
              obtain ⟨v85, qv85⟩ : ∃ y : Int32, y = (v50 + (1 : Int32)) := ⟨_, rfl⟩
              replace hF := aLet_e hF v85 qv85
              refine ab_iinc (lv' := [(4, .int v85), (0, .ref a0), (1, .int x1), (2, .int x2), (3, .int x3)]) C 4 rfl dX9_buys_264 (by rw [qv85]; rfl) (by decide) rfl ?_
              refine ab_goto C 158 dX9_buys_267 (by decide) ?_
              refine aV.sub (lv' := [(0, .ref a0), (1, .int x1), (2, .int x2), (3, .int x3), (4, .int v85)]) [1, 2, 3, 4, 0] rfl ?_
              exact ih158 v85 e83 g84 hB0 hFr res158 hF KX158
        refine aV.sub (lv' := [(0, .ref a0), (1, .int x1), (2, .int x2), (3, .int x3), (4, .int (0 : Int32))]) [1, 2, 3, 4, 0] rfl ?_
        obtain ⟨e86, he86, hF⟩ := Option.bind_eq_some_iff.mp hF
        refine L158 aFu (0 : Int32) e48 g49 hB0 hFr e86 he86 (fun g87 hB0 hFr => ?_)
        refine ab_aload_n C 0 rfl rfl dX9_buys_270 ?_
        refine ab_g9 (v := .int (e86.1 13)) C lf_X9_206 hB0.1 rfl dX9_buys_271 ?_
        refine ab_bipush (v := (-4 : Int32)) C dX9_buys_274 (by decide) ?_
        refine ab_icmp_eq C 284 dX9_buys_276 (by decide) (fun c88 => ?_) (fun c88 => ?_)
        · replace hF := (if_pos c88).symm.trans hF
          refine ab_aload_n C 0 rfl rfl dX9_buys_284 ?_
          refine ab_g9 (v := .int (e86.1 13)) C lf_X9_206 hB0.1 rfl dX9_buys_285 ?_
          refine ab_goto C 313 dX9_buys_288 (by decide) ?_
          obtain rfl := Option.some.inj hF
          exact ab_iret C R0 rfl dX9_buys_313 ⟨rfl, rfl, hB0, hFr⟩
        · replace hF := (if_neg c88).symm.trans hF
          refine ab_iload_n C 1 rfl rfl dX9_buys_279 ?_
          refine ab_iconst (v := (-1 : Int32)) C dX9_buys_280 (by decide) ?_
          refine ab_icmp_ne C 291 dX9_buys_281 (by decide) (fun c89 => ?_) (fun c89 => ?_)
          · replace hF := (if_neg c89).symm.trans hF
            refine ab_iload_n C 1 rfl rfl dX9_buys_291 ?_
            refine ab_aload_n C 0 rfl rfl dX9_buys_292 ?_
            refine ab_g9 (v := .int (e86.1 14)) C lf_X9_209 hB0.1 rfl dX9_buys_293 ?_
            refine ab_icmp_ge C 311 dX9_buys_296 (by decide) (fun c90 => ?_) (fun c90 => ?_)
            · replace hF := (if_pos c90).symm.trans hF
              refine ab_bipush (v := (-4 : Int32)) C dX9_buys_311 (by decide) ?_
              obtain rfl := Option.some.inj hF
              exact ab_iret C R0 rfl dX9_buys_313 ⟨rfl, rfl, hB0, hFr⟩
            · replace hF := (if_neg c90).symm.trans hF
              refine ab_aload_n C 0 rfl rfl dX9_buys_299 ?_
              refine ab_g9 (v := .ref (a0 + 9)) C lf_X9_35 hB0.1 rfl dX9_buys_300 ?_
              refine ab_iload_n C 1 rfl rfl dX9_buys_303 ?_
              obtain ⟨v91, hxv91, hF⟩ := Option.bind_eq_some_iff.mp hF
              refine ab_iald C (X9_r12 hB0) hxv91 dX9_buys_304 ?_
              refine ab_cSR (v := .int (X9_numberOf v91)) (st := []) C lm_X9_219 (X9_numberOf_ok (xl X) (r := (X9_numberOf v91)) rfl) rfl rfl (by decide) ⟨Nat.zero_le _, Nat.zero_le _⟩ (Nat.le_of_ble_eq_true rfl) dX9_buys_305 ?_
              refine ab_goto C 313 dX9_buys_308 (by decide) ?_
              obtain rfl := Option.some.inj hF
              exact ab_iret C R0 rfl dX9_buys_313 ⟨rfl, rfl, hB0, hFr⟩
          · replace hF := (if_pos c89).symm.trans hF
            refine ab_aload_n C 0 rfl rfl dX9_buys_284 ?_
            refine ab_g9 (v := .int (e86.1 13)) C lf_X9_206 hB0.1 rfl dX9_buys_285 ?_
            refine ab_goto C 313 dX9_buys_288 (by decide) ?_
            obtain rfl := Option.some.inj hF
            exact ab_iret C R0 rfl dX9_buys_313 ⟨rfl, rfl, hB0, hFr⟩
      · replace hF := (if_neg c5).symm.trans hF
        refine ab_iconst (v := (-1 : Int32)) C dX9_buys_21 (by decide) ?_
        obtain rfl := Option.some.inj hF
        exact ab_iret C R0 rfl dX9_buys_22 ⟨rfl, rfl, hB0, hFr⟩
theorem dX9_scattered_0 : decode cX9_scattered 0 = .ok (.aload_n 0, 1) := by decide +kernel
theorem dX9_scattered_1 : decode cX9_scattered 1 = .ok (.iload_n 1, 1) := by decide +kernel
theorem dX9_scattered_2 : decode cX9_scattered 2 = .ok (.invokevirtual 153, 3) := by decide +kernel
theorem dX9_scattered_5 : decode cX9_scattered 5 = .ok (.ifCond .eq 13, 3) := by decide +kernel
theorem dX9_scattered_8 : decode cX9_scattered 8 = .ok (.iload_n 2, 1) := by decide +kernel
theorem dX9_scattered_9 : decode cX9_scattered 9 = .ok (.i2l, 1) := by decide +kernel
theorem dX9_scattered_10 : decode cX9_scattered 10 = .ok (.lconst 0, 1) := by decide +kernel
theorem dX9_scattered_11 : decode cX9_scattered 11 = .ok (.lconst 1, 1) := by decide +kernel
theorem dX9_scattered_12 : decode cX9_scattered 12 = .ok (.invokestatic 69, 3) := by decide +kernel
theorem dX9_scattered_15 : decode cX9_scattered 15 = .ok (.ifCond .ne 5, 3) := by decide +kernel
theorem dX9_scattered_18 : decode cX9_scattered 18 = .ok (.iconst (-1), 1) := by decide +kernel
theorem dX9_scattered_19 : decode cX9_scattered 19 = .ok (.ireturn, 1) := by decide +kernel
theorem dX9_scattered_20 : decode cX9_scattered 20 = .ok (.iconst 0, 1) := by decide +kernel
theorem dX9_scattered_21 : decode cX9_scattered 21 = .ok (.istore_n 3, 1) := by decide +kernel
theorem dX9_scattered_22 : decode cX9_scattered 22 = .ok (.iload_n 3, 1) := by decide +kernel
theorem dX9_scattered_23 : decode cX9_scattered 23 = .ok (.bipush 36, 2) := by decide +kernel
theorem dX9_scattered_25 : decode cX9_scattered 25 = .ok (.if_icmp .ge 47, 3) := by decide +kernel
theorem dX9_scattered_28 : decode cX9_scattered 28 = .ok (.aload_n 0, 1) := by decide +kernel
theorem dX9_scattered_29 : decode cX9_scattered 29 = .ok (.getfield 38, 3) := by decide +kernel
theorem dX9_scattered_32 : decode cX9_scattered 32 = .ok (.iload_n 3, 1) := by decide +kernel
theorem dX9_scattered_33 : decode cX9_scattered 33 = .ok (.aload_n 0, 1) := by decide +kernel
theorem dX9_scattered_34 : decode cX9_scattered 34 = .ok (.getfield 7, 3) := by decide +kernel
theorem dX9_scattered_37 : decode cX9_scattered 37 = .ok (.iload_n 3, 1) := by decide +kernel
theorem dX9_scattered_38 : decode cX9_scattered 38 = .ok (.invokestatic 133, 3) := by decide +kernel
theorem dX9_scattered_41 : decode cX9_scattered 41 = .ok (.ifCond .eq 22, 3) := by decide +kernel
theorem dX9_scattered_44 : decode cX9_scattered 44 = .ok (.aload_n 0, 1) := by decide +kernel
theorem dX9_scattered_45 : decode cX9_scattered 45 = .ok (.getfield 7, 3) := by decide +kernel
theorem dX9_scattered_48 : decode cX9_scattered 48 = .ok (.bipush 52, 2) := by decide +kernel
theorem dX9_scattered_50 : decode cX9_scattered 50 = .ok (.iload_n 3, 1) := by decide +kernel
theorem dX9_scattered_51 : decode cX9_scattered 51 = .ok (.iadd, 1) := by decide +kernel
theorem dX9_scattered_52 : decode cX9_scattered 52 = .ok (.iaload, 1) := by decide +kernel
theorem dX9_scattered_53 : decode cX9_scattered 53 = .ok (.iload_n 1, 1) := by decide +kernel
theorem dX9_scattered_54 : decode cX9_scattered 54 = .ok (.iconst 1, 1) := by decide +kernel
theorem dX9_scattered_55 : decode cX9_scattered 55 = .ok (.iadd, 1) := by decide +kernel
theorem dX9_scattered_56 : decode cX9_scattered 56 = .ok (.if_icmp .ne 7, 3) := by decide +kernel
theorem dX9_scattered_59 : decode cX9_scattered 59 = .ok (.iload_n 3, 1) := by decide +kernel
theorem dX9_scattered_60 : decode cX9_scattered 60 = .ok (.goto 5, 3) := by decide +kernel
theorem dX9_scattered_63 : decode cX9_scattered 63 = .ok (.bipush (-4), 2) := by decide +kernel
theorem dX9_scattered_65 : decode cX9_scattered 65 = .ok (.iastore, 1) := by decide +kernel
theorem dX9_scattered_66 : decode cX9_scattered 66 = .ok (.iinc 3 1, 3) := by decide +kernel
theorem dX9_scattered_69 : decode cX9_scattered 69 = .ok (.goto (-47), 3) := by decide +kernel
theorem dX9_scattered_72 : decode cX9_scattered 72 = .ok (.iconst 1, 1) := by decide +kernel
theorem dX9_scattered_73 : decode cX9_scattered 73 = .ok (.istore_n 3, 1) := by decide +kernel
theorem dX9_scattered_74 : decode cX9_scattered 74 = .ok (.iload_n 3, 1) := by decide +kernel
theorem dX9_scattered_75 : decode cX9_scattered 75 = .ok (.ifCond .eq 234, 3) := by decide +kernel
theorem dX9_scattered_78 : decode cX9_scattered 78 = .ok (.iconst 0, 1) := by decide +kernel
theorem dX9_scattered_79 : decode cX9_scattered 79 = .ok (.istore_n 3, 1) := by decide +kernel
theorem dX9_scattered_80 : decode cX9_scattered 80 = .ok (.iconst 0, 1) := by decide +kernel
theorem dX9_scattered_81 : decode cX9_scattered 81 = .ok (.istore 4, 2) := by decide +kernel
theorem dX9_scattered_83 : decode cX9_scattered 83 = .ok (.iload 4, 2) := by decide +kernel
theorem dX9_scattered_85 : decode cX9_scattered 85 = .ok (.bipush 36, 2) := by decide +kernel
theorem dX9_scattered_87 : decode cX9_scattered 87 = .ok (.if_icmp .ge 219, 3) := by decide +kernel
theorem dX9_scattered_90 : decode cX9_scattered 90 = .ok (.iload 4, 2) := by decide +kernel
theorem dX9_scattered_92 : decode cX9_scattered 92 = .ok (.bipush 6, 2) := by decide +kernel
theorem dX9_scattered_94 : decode cX9_scattered 94 = .ok (.irem, 1) := by decide +kernel
theorem dX9_scattered_95 : decode cX9_scattered 95 = .ok (.iconst 5, 1) := by decide +kernel
theorem dX9_scattered_96 : decode cX9_scattered 96 = .ok (.if_icmp .ge 15, 3) := by decide +kernel
theorem dX9_scattered_99 : decode cX9_scattered 99 = .ok (.aload_n 0, 1) := by decide +kernel
theorem dX9_scattered_100 : decode cX9_scattered 100 = .ok (.getfield 38, 3) := by decide +kernel
theorem dX9_scattered_103 : decode cX9_scattered 103 = .ok (.iload 4, 2) := by decide +kernel
theorem dX9_scattered_105 : decode cX9_scattered 105 = .ok (.iconst 1, 1) := by decide +kernel
theorem dX9_scattered_106 : decode cX9_scattered 106 = .ok (.iadd, 1) := by decide +kernel
theorem dX9_scattered_107 : decode cX9_scattered 107 = .ok (.iaload, 1) := by decide +kernel
theorem dX9_scattered_108 : decode cX9_scattered 108 = .ok (.goto 5, 3) := by decide +kernel
theorem dX9_scattered_111 : decode cX9_scattered 111 = .ok (.bipush (-4), 2) := by decide +kernel
theorem dX9_scattered_113 : decode cX9_scattered 113 = .ok (.istore 5, 2) := by decide +kernel
theorem dX9_scattered_115 : decode cX9_scattered 115 = .ok (.iload 4, 2) := by decide +kernel
theorem dX9_scattered_117 : decode cX9_scattered 117 = .ok (.bipush 30, 2) := by decide +kernel
theorem dX9_scattered_119 : decode cX9_scattered 119 = .ok (.if_icmp .ge 16, 3) := by decide +kernel
theorem dX9_scattered_122 : decode cX9_scattered 122 = .ok (.aload_n 0, 1) := by decide +kernel
theorem dX9_scattered_123 : decode cX9_scattered 123 = .ok (.getfield 38, 3) := by decide +kernel
theorem dX9_scattered_126 : decode cX9_scattered 126 = .ok (.iload 4, 2) := by decide +kernel
theorem dX9_scattered_128 : decode cX9_scattered 128 = .ok (.bipush 6, 2) := by decide +kernel
theorem dX9_scattered_130 : decode cX9_scattered 130 = .ok (.iadd, 1) := by decide +kernel
theorem dX9_scattered_131 : decode cX9_scattered 131 = .ok (.iaload, 1) := by decide +kernel
theorem dX9_scattered_132 : decode cX9_scattered 132 = .ok (.goto 5, 3) := by decide +kernel
theorem dX9_scattered_135 : decode cX9_scattered 135 = .ok (.bipush (-4), 2) := by decide +kernel
theorem dX9_scattered_137 : decode cX9_scattered 137 = .ok (.istore 6, 2) := by decide +kernel
theorem dX9_scattered_139 : decode cX9_scattered 139 = .ok (.aload_n 0, 1) := by decide +kernel
theorem dX9_scattered_140 : decode cX9_scattered 140 = .ok (.getfield 38, 3) := by decide +kernel
theorem dX9_scattered_143 : decode cX9_scattered 143 = .ok (.iload 4, 2) := by decide +kernel
theorem dX9_scattered_145 : decode cX9_scattered 145 = .ok (.iaload, 1) := by decide +kernel
theorem dX9_scattered_146 : decode cX9_scattered 146 = .ok (.bipush (-4), 2) := by decide +kernel
theorem dX9_scattered_148 : decode cX9_scattered 148 = .ok (.if_icmp .eq 71, 3) := by decide +kernel
theorem dX9_scattered_151 : decode cX9_scattered 151 = .ok (.iload 5, 2) := by decide +kernel
theorem dX9_scattered_153 : decode cX9_scattered 153 = .ok (.bipush (-4), 2) := by decide +kernel
theorem dX9_scattered_155 : decode cX9_scattered 155 = .ok (.if_icmp .eq 64, 3) := by decide +kernel
theorem dX9_scattered_158 : decode cX9_scattered 158 = .ok (.iload 5, 2) := by decide +kernel
theorem dX9_scattered_160 : decode cX9_scattered 160 = .ok (.aload_n 0, 1) := by decide +kernel
theorem dX9_scattered_161 : decode cX9_scattered 161 = .ok (.getfield 38, 3) := by decide +kernel
theorem dX9_scattered_164 : decode cX9_scattered 164 = .ok (.iload 4, 2) := by decide +kernel
theorem dX9_scattered_166 : decode cX9_scattered 166 = .ok (.iaload, 1) := by decide +kernel
theorem dX9_scattered_167 : decode cX9_scattered 167 = .ok (.if_icmp .eq 52, 3) := by decide +kernel
theorem dX9_scattered_170 : decode cX9_scattered 170 = .ok (.aload_n 0, 1) := by decide +kernel
theorem dX9_scattered_171 : decode cX9_scattered 171 = .ok (.getfield 38, 3) := by decide +kernel
theorem dX9_scattered_174 : decode cX9_scattered 174 = .ok (.iload 4, 2) := by decide +kernel
theorem dX9_scattered_176 : decode cX9_scattered 176 = .ok (.aload_n 0, 1) := by decide +kernel
theorem dX9_scattered_177 : decode cX9_scattered 177 = .ok (.getfield 38, 3) := by decide +kernel
theorem dX9_scattered_180 : decode cX9_scattered 180 = .ok (.iload 4, 2) := by decide +kernel
theorem dX9_scattered_182 : decode cX9_scattered 182 = .ok (.iaload, 1) := by decide +kernel
theorem dX9_scattered_183 : decode cX9_scattered 183 = .ok (.iload 5, 2) := by decide +kernel
theorem dX9_scattered_185 : decode cX9_scattered 185 = .ok (.if_icmp .ge 13, 3) := by decide +kernel
theorem dX9_scattered_188 : decode cX9_scattered 188 = .ok (.aload_n 0, 1) := by decide +kernel
theorem dX9_scattered_189 : decode cX9_scattered 189 = .ok (.getfield 38, 3) := by decide +kernel
theorem dX9_scattered_192 : decode cX9_scattered 192 = .ok (.iload 4, 2) := by decide +kernel
theorem dX9_scattered_194 : decode cX9_scattered 194 = .ok (.iaload, 1) := by decide +kernel
theorem dX9_scattered_195 : decode cX9_scattered 195 = .ok (.goto 5, 3) := by decide +kernel
theorem dX9_scattered_198 : decode cX9_scattered 198 = .ok (.iload 5, 2) := by decide +kernel
theorem dX9_scattered_200 : decode cX9_scattered 200 = .ok (.iastore, 1) := by decide +kernel
theorem dX9_scattered_201 : decode cX9_scattered 201 = .ok (.aload_n 0, 1) := by decide +kernel
theorem dX9_scattered_202 : decode cX9_scattered 202 = .ok (.getfield 38, 3) := by decide +kernel
theorem dX9_scattered_205 : decode cX9_scattered 205 = .ok (.iload 4, 2) := by decide +kernel
theorem dX9_scattered_207 : decode cX9_scattered 207 = .ok (.iconst 1, 1) := by decide +kernel
theorem dX9_scattered_208 : decode cX9_scattered 208 = .ok (.iadd, 1) := by decide +kernel
theorem dX9_scattered_209 : decode cX9_scattered 209 = .ok (.aload_n 0, 1) := by decide +kernel
theorem dX9_scattered_210 : decode cX9_scattered 210 = .ok (.getfield 38, 3) := by decide +kernel
theorem dX9_scattered_213 : decode cX9_scattered 213 = .ok (.iload 4, 2) := by decide +kernel
theorem dX9_scattered_215 : decode cX9_scattered 215 = .ok (.iaload, 1) := by decide +kernel
theorem dX9_scattered_216 : decode cX9_scattered 216 = .ok (.iastore, 1) := by decide +kernel
theorem dX9_scattered_217 : decode cX9_scattered 217 = .ok (.iconst 1, 1) := by decide +kernel
theorem dX9_scattered_218 : decode cX9_scattered 218 = .ok (.istore_n 3, 1) := by decide +kernel
theorem dX9_scattered_219 : decode cX9_scattered 219 = .ok (.aload_n 0, 1) := by decide +kernel
theorem dX9_scattered_220 : decode cX9_scattered 220 = .ok (.getfield 38, 3) := by decide +kernel
theorem dX9_scattered_223 : decode cX9_scattered 223 = .ok (.iload 4, 2) := by decide +kernel
theorem dX9_scattered_225 : decode cX9_scattered 225 = .ok (.iaload, 1) := by decide +kernel
theorem dX9_scattered_226 : decode cX9_scattered 226 = .ok (.bipush (-4), 2) := by decide +kernel
theorem dX9_scattered_228 : decode cX9_scattered 228 = .ok (.if_icmp .eq 72, 3) := by decide +kernel
theorem dX9_scattered_231 : decode cX9_scattered 231 = .ok (.iload 6, 2) := by decide +kernel
theorem dX9_scattered_233 : decode cX9_scattered 233 = .ok (.bipush (-4), 2) := by decide +kernel
theorem dX9_scattered_235 : decode cX9_scattered 235 = .ok (.if_icmp .eq 65, 3) := by decide +kernel
theorem dX9_scattered_238 : decode cX9_scattered 238 = .ok (.iload 6, 2) := by decide +kernel
theorem dX9_scattered_240 : decode cX9_scattered 240 = .ok (.aload_n 0, 1) := by decide +kernel
theorem dX9_scattered_241 : decode cX9_scattered 241 = .ok (.getfield 38, 3) := by decide +kernel
theorem dX9_scattered_244 : decode cX9_scattered 244 = .ok (.iload 4, 2) := by decide +kernel
theorem dX9_scattered_246 : decode cX9_scattered 246 = .ok (.iaload, 1) := by decide +kernel
theorem dX9_scattered_247 : decode cX9_scattered 247 = .ok (.if_icmp .eq 53, 3) := by decide +kernel
theorem dX9_scattered_250 : decode cX9_scattered 250 = .ok (.aload_n 0, 1) := by decide +kernel
theorem dX9_scattered_251 : decode cX9_scattered 251 = .ok (.getfield 38, 3) := by decide +kernel
theorem dX9_scattered_254 : decode cX9_scattered 254 = .ok (.iload 4, 2) := by decide +kernel
theorem dX9_scattered_256 : decode cX9_scattered 256 = .ok (.aload_n 0, 1) := by decide +kernel
theorem dX9_scattered_257 : decode cX9_scattered 257 = .ok (.getfield 38, 3) := by decide +kernel
theorem dX9_scattered_260 : decode cX9_scattered 260 = .ok (.iload 4, 2) := by decide +kernel
theorem dX9_scattered_262 : decode cX9_scattered 262 = .ok (.iaload, 1) := by decide +kernel
theorem dX9_scattered_263 : decode cX9_scattered 263 = .ok (.iload 6, 2) := by decide +kernel
theorem dX9_scattered_265 : decode cX9_scattered 265 = .ok (.if_icmp .ge 13, 3) := by decide +kernel
theorem dX9_scattered_268 : decode cX9_scattered 268 = .ok (.aload_n 0, 1) := by decide +kernel
theorem dX9_scattered_269 : decode cX9_scattered 269 = .ok (.getfield 38, 3) := by decide +kernel
theorem dX9_scattered_272 : decode cX9_scattered 272 = .ok (.iload 4, 2) := by decide +kernel
theorem dX9_scattered_274 : decode cX9_scattered 274 = .ok (.iaload, 1) := by decide +kernel
theorem dX9_scattered_275 : decode cX9_scattered 275 = .ok (.goto 5, 3) := by decide +kernel
theorem dX9_scattered_278 : decode cX9_scattered 278 = .ok (.iload 6, 2) := by decide +kernel
theorem dX9_scattered_280 : decode cX9_scattered 280 = .ok (.iastore, 1) := by decide +kernel
theorem dX9_scattered_281 : decode cX9_scattered 281 = .ok (.aload_n 0, 1) := by decide +kernel
theorem dX9_scattered_282 : decode cX9_scattered 282 = .ok (.getfield 38, 3) := by decide +kernel
theorem dX9_scattered_285 : decode cX9_scattered 285 = .ok (.iload 4, 2) := by decide +kernel
theorem dX9_scattered_287 : decode cX9_scattered 287 = .ok (.bipush 6, 2) := by decide +kernel
theorem dX9_scattered_289 : decode cX9_scattered 289 = .ok (.iadd, 1) := by decide +kernel
theorem dX9_scattered_290 : decode cX9_scattered 290 = .ok (.aload_n 0, 1) := by decide +kernel
theorem dX9_scattered_291 : decode cX9_scattered 291 = .ok (.getfield 38, 3) := by decide +kernel
theorem dX9_scattered_294 : decode cX9_scattered 294 = .ok (.iload 4, 2) := by decide +kernel
theorem dX9_scattered_296 : decode cX9_scattered 296 = .ok (.iaload, 1) := by decide +kernel
theorem dX9_scattered_297 : decode cX9_scattered 297 = .ok (.iastore, 1) := by decide +kernel
theorem dX9_scattered_298 : decode cX9_scattered 298 = .ok (.iconst 1, 1) := by decide +kernel
theorem dX9_scattered_299 : decode cX9_scattered 299 = .ok (.istore_n 3, 1) := by decide +kernel
theorem dX9_scattered_300 : decode cX9_scattered 300 = .ok (.iinc 4 1, 3) := by decide +kernel
theorem dX9_scattered_303 : decode cX9_scattered 303 = .ok (.goto (-220), 3) := by decide +kernel
theorem dX9_scattered_306 : decode cX9_scattered 306 = .ok (.goto (-232), 3) := by decide +kernel
theorem dX9_scattered_309 : decode cX9_scattered 309 = .ok (.iconst 0, 1) := by decide +kernel
theorem dX9_scattered_310 : decode cX9_scattered 310 = .ok (.istore 4, 2) := by decide +kernel
theorem dX9_scattered_312 : decode cX9_scattered 312 = .ok (.iconst 0, 1) := by decide +kernel
theorem dX9_scattered_313 : decode cX9_scattered 313 = .ok (.istore 5, 2) := by decide +kernel
theorem dX9_scattered_315 : decode cX9_scattered 315 = .ok (.iconst 0, 1) := by decide +kernel
theorem dX9_scattered_316 : decode cX9_scattered 316 = .ok (.istore 6, 2) := by decide +kernel
theorem dX9_scattered_318 : decode cX9_scattered 318 = .ok (.iload 6, 2) := by decide +kernel
theorem dX9_scattered_320 : decode cX9_scattered 320 = .ok (.bipush 36, 2) := by decide +kernel
theorem dX9_scattered_322 : decode cX9_scattered 322 = .ok (.if_icmp .ge 81, 3) := by decide +kernel
theorem dX9_scattered_325 : decode cX9_scattered 325 = .ok (.iconst 0, 1) := by decide +kernel
theorem dX9_scattered_326 : decode cX9_scattered 326 = .ok (.istore 7, 2) := by decide +kernel
theorem dX9_scattered_328 : decode cX9_scattered 328 = .ok (.iconst 0, 1) := by decide +kernel
theorem dX9_scattered_329 : decode cX9_scattered 329 = .ok (.istore 8, 2) := by decide +kernel
theorem dX9_scattered_331 : decode cX9_scattered 331 = .ok (.iload 8, 2) := by decide +kernel
theorem dX9_scattered_333 : decode cX9_scattered 333 = .ok (.bipush 36, 2) := by decide +kernel
theorem dX9_scattered_335 : decode cX9_scattered 335 = .ok (.if_icmp .ge 31, 3) := by decide +kernel
theorem dX9_scattered_338 : decode cX9_scattered 338 = .ok (.iload 7, 2) := by decide +kernel
theorem dX9_scattered_340 : decode cX9_scattered 340 = .ok (.aload_n 0, 1) := by decide +kernel
theorem dX9_scattered_341 : decode cX9_scattered 341 = .ok (.getfield 38, 3) := by decide +kernel
theorem dX9_scattered_344 : decode cX9_scattered 344 = .ok (.iload 8, 2) := by decide +kernel
theorem dX9_scattered_346 : decode cX9_scattered 346 = .ok (.iaload, 1) := by decide +kernel
theorem dX9_scattered_347 : decode cX9_scattered 347 = .ok (.iload 6, 2) := by decide +kernel
theorem dX9_scattered_349 : decode cX9_scattered 349 = .ok (.if_icmp .ne 7, 3) := by decide +kernel
theorem dX9_scattered_352 : decode cX9_scattered 352 = .ok (.iconst 1, 1) := by decide +kernel
theorem dX9_scattered_353 : decode cX9_scattered 353 = .ok (.goto 4, 3) := by decide +kernel
theorem dX9_scattered_356 : decode cX9_scattered 356 = .ok (.iconst 0, 1) := by decide +kernel
theorem dX9_scattered_357 : decode cX9_scattered 357 = .ok (.iadd, 1) := by decide +kernel
theorem dX9_scattered_358 : decode cX9_scattered 358 = .ok (.istore 7, 2) := by decide +kernel
theorem dX9_scattered_360 : decode cX9_scattered 360 = .ok (.iinc 8 1, 3) := by decide +kernel
theorem dX9_scattered_363 : decode cX9_scattered 363 = .ok (.goto (-32), 3) := by decide +kernel
theorem dX9_scattered_366 : decode cX9_scattered 366 = .ok (.iload 4, 2) := by decide +kernel
theorem dX9_scattered_368 : decode cX9_scattered 368 = .ok (.iload 7, 2) := by decide +kernel
theorem dX9_scattered_370 : decode cX9_scattered 370 = .ok (.ifCond .le 7, 3) := by decide +kernel
theorem dX9_scattered_373 : decode cX9_scattered 373 = .ok (.iconst 1, 1) := by decide +kernel
theorem dX9_scattered_374 : decode cX9_scattered 374 = .ok (.goto 4, 3) := by decide +kernel
theorem dX9_scattered_377 : decode cX9_scattered 377 = .ok (.iconst 0, 1) := by decide +kernel
theorem dX9_scattered_378 : decode cX9_scattered 378 = .ok (.iadd, 1) := by decide +kernel
theorem dX9_scattered_379 : decode cX9_scattered 379 = .ok (.istore 4, 2) := by decide +kernel
theorem dX9_scattered_381 : decode cX9_scattered 381 = .ok (.iload 7, 2) := by decide +kernel
theorem dX9_scattered_383 : decode cX9_scattered 383 = .ok (.iload 5, 2) := by decide +kernel
theorem dX9_scattered_385 : decode cX9_scattered 385 = .ok (.if_icmp .le 8, 3) := by decide +kernel
theorem dX9_scattered_388 : decode cX9_scattered 388 = .ok (.iload 7, 2) := by decide +kernel
theorem dX9_scattered_390 : decode cX9_scattered 390 = .ok (.goto 5, 3) := by decide +kernel
theorem dX9_scattered_393 : decode cX9_scattered 393 = .ok (.iload 5, 2) := by decide +kernel
theorem dX9_scattered_395 : decode cX9_scattered 395 = .ok (.istore 5, 2) := by decide +kernel
theorem dX9_scattered_397 : decode cX9_scattered 397 = .ok (.iinc 6 1, 3) := by decide +kernel
theorem dX9_scattered_400 : decode cX9_scattered 400 = .ok (.goto (-82), 3) := by decide +kernel
theorem dX9_scattered_403 : decode cX9_scattered 403 = .ok (.iload_n 2, 1) := by decide +kernel
theorem dX9_scattered_404 : decode cX9_scattered 404 = .ok (.ifCond .ne 8, 3) := by decide +kernel
theorem dX9_scattered_407 : decode cX9_scattered 407 = .ok (.iload 4, 2) := by decide +kernel
theorem dX9_scattered_409 : decode cX9_scattered 409 = .ok (.goto 5, 3) := by decide +kernel
theorem dX9_scattered_412 : decode cX9_scattered 412 = .ok (.iload 5, 2) := by decide +kernel
theorem dX9_scattered_414 : decode cX9_scattered 414 = .ok (.ireturn, 1) := by decide +kernel
def X9_scattered_L22 (x1 : Int32) : Nat → Int32 → Rec → Option (Rec)
  | 0, _, _ => none
  | n22 + 1, v4, Z5 => if (36 : Int32) ≤ v4 then
      some Z5
    else
      (X9_isIn (Z5.2.1 0) v4).bind fun v8 =>
      if v8 = 0 then
        (wrI (Z5.2.1 15) 36 v4 (-4 : Int32)).bind fun w10 =>
        aLet (v4 + (1 : Int32)) fun v12 =>
        X9_scattered_L22 x1 n22 v12 (sA Z5 15 w10)
      else
        (rdI (Z5.2.1 0) 96 ((52 : Int32) + v4)).bind fun v13 =>
        if v13 = (x1 + (1 : Int32)) then
          (wrI (Z5.2.1 15) 36 v4 v4).bind fun w18 =>
          aLet (v4 + (1 : Int32)) fun v20 =>
          X9_scattered_L22 x1 n22 v20 (sA Z5 15 w18)
        else
          (wrI (Z5.2.1 15) 36 v4 (-4 : Int32)).bind fun w15 =>
          aLet (v4 + (1 : Int32)) fun v17 =>
          X9_scattered_L22 x1 n22 v17 (sA Z5 15 w15)
def X9_scattered_J280 (Z36 : Rec) (v28 : Int32) (k83 : Int32 → Int32 → Rec → Option (Int32 × Rec)) (v47 : Int32) : Option (Int32 × Rec) :=
  (wrI (Z36.2.1 15) 36 v28 v47).bind fun w48 =>
  (rdI ((sA Z36 15 w48).2.1 15) 36 v28).bind fun v50 =>
  (wrI ((sA Z36 15 w48).2.1 15) 36 (v28 + (6 : Int32)) v50).bind fun w51 =>
  aLet (v28 + (1 : Int32)) fun v53 =>
  k83 (1 : Int32) v53 (sA (sA Z36 15 w48) 15 w51)
def X9_scattered_J219 (v28 : Int32) (v33 : Int32) (k83 : Int32 → Int32 → Rec → Option (Int32 × Rec)) (v35 : Int32) (Z36 : Rec) : Option (Int32 × Rec) :=
  (rdI (Z36.2.1 15) 36 v28).bind fun v38 =>
  if v38 = (-4 : Int32) then
    aLet (v28 + (1 : Int32)) fun v40 =>
    k83 v35 v40 Z36
  else
    if v33 = (-4 : Int32) then
      aLet (v28 + (1 : Int32)) fun v42 =>
      k83 v35 v42 Z36
    else
      (rdI (Z36.2.1 15) 36 v28).bind fun v43 =>
      if v33 = v43 then
        aLet (v28 + (1 : Int32)) fun v45 =>
        k83 v35 v45 Z36
      else
        (rdI (Z36.2.1 15) 36 v28).bind fun v46 =>
        if v33 ≤ v46 then
          X9_scattered_J280 Z36 v28 (k83) v33
        else
          (rdI (Z36.2.1 15) 36 v28).bind fun v55 =>
          X9_scattered_J280 Z36 v28 (k83) v55
def X9_scattered_J200 (Z29 : Rec) (v28 : Int32) (v33 : Int32) (k83 : Int32 → Int32 → Rec → Option (Int32 × Rec)) (v61 : Int32) : Option (Int32 × Rec) :=
  (wrI (Z29.2.1 15) 36 v28 v61).bind fun w62 =>
  (rdI ((sA Z29 15 w62).2.1 15) 36 v28).bind fun v64 =>
  (wrI ((sA Z29 15 w62).2.1 15) 36 (v28 + (1 : Int32)) v64).bind fun w65 =>
  X9_scattered_J219 v28 v33 (k83) (1 : Int32) (sA (sA Z29 15 w62) 15 w65)
def X9_scattered_J137 (Z29 : Rec) (v28 : Int32) (v27 : Int32) (v32 : Int32) (k83 : Int32 → Int32 → Rec → Option (Int32 × Rec)) (v33 : Int32) : Option (Int32 × Rec) :=
  (rdI (Z29.2.1 15) 36 v28).bind fun v34 =>
  if v34 = (-4 : Int32) then
    X9_scattered_J219 v28 v33 (k83) v27 Z29
  else
    if v32 = (-4 : Int32) then
      X9_scattered_J219 v28 v33 (k83) v27 Z29
    else
      (rdI (Z29.2.1 15) 36 v28).bind fun v58 =>
      if v32 = v58 then
        X9_scattered_J219 v28 v33 (k83) v27 Z29
      else
        (rdI (Z29.2.1 15) 36 v28).bind fun v60 =>
        if v32 ≤ v60 then
          X9_scattered_J200 Z29 v28 v33 (k83) v32
        else
          (rdI (Z29.2.1 15) 36 v28).bind fun v68 =>
          X9_scattered_J200 Z29 v28 v33 (k83) v68
def X9_scattered_J113 (v28 : Int32) (Z29 : Rec) (v27 : Int32) (k83 : Int32 → Int32 → Rec → Option (Int32 × Rec)) (v32 : Int32) : Option (Int32 × Rec) :=
  if (30 : Int32) ≤ v28 then
    X9_scattered_J137 Z29 v28 v27 v32 (k83) (-4 : Int32)
  else
    (rdI (Z29.2.1 15) 36 (v28 + (6 : Int32))).bind fun v70 =>
    X9_scattered_J137 Z29 v28 v27 v32 (k83) v70
def X9_scattered_L83 : Nat → Int32 → Int32 → Rec → Option (Int32 × Rec)
  | 0, _, _, _ => none
  | n83 + 1, v27, v28, Z29 => if (36 : Int32) ≤ v28 then
      some (v27, Z29)
    else
      if (5 : Int32) ≤ (v28 - v28 / (6 : Int32) * (6 : Int32)) then
        X9_scattered_J113 v28 Z29 v27 (X9_scattered_L83 n83) (-4 : Int32)
      else
        (rdI (Z29.2.1 15) 36 (v28 + (1 : Int32))).bind fun v72 =>
        X9_scattered_J113 v28 Z29 v27 (X9_scattered_L83 n83) v72
def X9_scattered_L74 : Nat → Int32 → Rec → Option (Rec)
  | 0, _, _ => none
  | n74 + 1, v23, Z24 => if v23 = 0 then
      some Z24
    else
      (X9_scattered_L83 aFu (0 : Int32) (0 : Int32) Z24).bind fun e73 =>
      X9_scattered_L74 n74 e73.1 e73.2
def X9_scattered_L331 (e75 : (Rec)) (v79 : Int32) : Nat → Int32 → Int32 → Option (Int32)
  | 0, _, _ => none
  | n331 + 1, v81, v82 => if (36 : Int32) ≤ v82 then
      some v81
    else
      (rdI (e75.2.1 15) 36 v82).bind fun v84 =>
      if v84 = v79 then
        aLet (v81 + (1 : Int32)) fun v88 =>
        aLet (v82 + (1 : Int32)) fun v89 =>
        X9_scattered_L331 e75 v79 n331 v88 v89
      else
        aLet (v81 + (0 : Int32)) fun v86 =>
        aLet (v82 + (1 : Int32)) fun v87 =>
        X9_scattered_L331 e75 v79 n331 v86 v87
def X9_scattered_J378 (v77 : Int32) (e90 : (Int32)) (v78 : Int32) (v79 : Int32) (k318 : Int32 → Int32 → Int32 → Option (Int32 × Int32)) (v91 : Int32) : Option (Int32 × Int32) :=
  aLet (v77 + v91) fun v92 =>
  if e90 ≤ v78 then
    aLet (v79 + (1 : Int32)) fun v94 =>
    k318 v92 v78 v94
  else
    aLet (v79 + (1 : Int32)) fun v95 =>
    k318 v92 e90 v95
def X9_scattered_L318 (e75 : (Rec)) : Nat → Int32 → Int32 → Int32 → Option (Int32 × Int32)
  | 0, _, _, _ => none
  | n318 + 1, v77, v78, v79 => if (36 : Int32) ≤ v79 then
      some (v77, v78)
    else
      (X9_scattered_L331 e75 v79 aFu (0 : Int32) (0 : Int32)).bind fun e90 =>
      if e90 ≤ 0 then
        X9_scattered_J378 v77 e90 v78 v79 (X9_scattered_L318 e75 n318) (0 : Int32)
      else
        X9_scattered_J378 v77 e90 v78 v79 (X9_scattered_L318 e75 n318) (1 : Int32)
def X9_scattered (S0 : Rec) (x1 : Int32) (x2 : Int32) : Option (Int32 × Rec) :=
  (X9_isHolder S0 x1).bind fun v1 =>
  if v1 = 0 then
    some ((-1 : Int32), S0)
  else
    if (X9_in (x2.toInt64) (0 : Int64) (1 : Int64)) = 0 then
      some ((-1 : Int32), S0)
    else
      (X9_scattered_L22 x1 aFu (0 : Int32) S0).bind fun e21 =>
      (X9_scattered_L74 aFu (1 : Int32) e21).bind fun e75 =>
      (X9_scattered_L318 e75 aFu (0 : Int32) (0 : Int32) (0 : Int32)).bind fun e97 =>
      if x2 = 0 then
        some (e97.1, e75)
      else
        some (e97.2, e75)
set_option maxRecDepth 100000 in
set_option maxHeartbeats 4000000 in
theorem X9_scattered_ok (l : Launch) {h : aH} {nx : Nat} {a0 : Nat} {S0 : Rec} {x1 : Int32} {x2 : Int32} (hB0 : X9_at h a0 S0) {r : Int32 × Rec} (hF : X9_scattered S0 x1 x2 = some r) : aOk l 2 0 0 yX9_scattered cX9_scattered 9 (some .int) [.ref a0, .int x1, .int x2] h nx (aMt (some (.int r.1)) nx (fun h1 => X9_at h1 a0 r.2 ∧ (∀ q, (q < a0 ∨ a0 + 20 ≤ q) → h1 q = h q))) := by
  refine aOk.of (by decide +kernel) (Nat.le_of_ble_eq_true rfl) (fun X G hX C R0 _ => ?_)
  subst hX
  show aV X G 9 0 [(0, .ref a0), (1, .int x1), (2, .int x2)] [] h nx 0 0
  have hFr : ∀ q, (q < a0 ∨ a0 + 20 ≤ q) → h q = h q := fun _ _ => rfl
  rw [X9_scattered] at hF
  refine ab_aload_n C 0 rfl rfl dX9_scattered_0 ?_
  refine ab_iload_n C 1 rfl rfl dX9_scattered_1 ?_
  obtain ⟨v1, hxv1, hF⟩ := Option.bind_eq_some_iff.mp hF
  refine ab_cVR (v := .int v1) (st := []) C lm_X9_153 (X9_isHolder_ok (xl X) hB0 (r := v1) hxv1) [.int x1] rfl hB0.1 rfl rfl rfl (by decide) ⟨Nat.zero_le _, Nat.zero_le _⟩ (Nat.le_of_ble_eq_true rfl) dX9_scattered_2 ?_
  refine ab_if_eq C 18 dX9_scattered_5 (by decide) (fun c2 => ?_) (fun c2 => ?_)
  · replace hF := (if_pos c2).symm.trans hF
    refine ab_iconst (v := (-1 : Int32)) C dX9_scattered_18 (by decide) ?_
    obtain rfl := Option.some.inj hF
    exact ab_iret C R0 rfl dX9_scattered_19 ⟨rfl, rfl, hB0, hFr⟩
  · replace hF := (if_neg c2).symm.trans hF
    refine ab_iload_n C 2 rfl rfl dX9_scattered_8 ?_
    refine ab_i2l C dX9_scattered_9 ?_
    refine ab_lconst (v := (0 : Int64)) C dX9_scattered_10 (by decide) ?_
    refine ab_lconst (v := (1 : Int64)) C dX9_scattered_11 (by decide) ?_
    refine ab_cSR (v := .int (X9_in (x2.toInt64) (0 : Int64) (1 : Int64))) (st := []) C lm_X9_69 (X9_in_ok (xl X) (r := (X9_in (x2.toInt64) (0 : Int64) (1 : Int64))) rfl) rfl rfl (by decide) ⟨Nat.zero_le _, Nat.zero_le _⟩ (Nat.le_of_ble_eq_true rfl) dX9_scattered_12 ?_
    refine ab_if_ne C 20 dX9_scattered_15 (by decide) (fun c3 => ?_) (fun c3 => ?_)
    · replace hF := (if_neg c3).symm.trans hF
      refine ab_iconst (v := (0 : Int32)) C dX9_scattered_20 (by decide) ?_
      refine ab_istore_n (lv' := [(3, .int (0 : Int32)), (0, .ref a0), (1, .int x1), (2, .int x2)]) C dX9_scattered_21 rfl (by decide) rfl ?_
      have L22 : ∀ (n22 : Nat) (v4 : Int32) (Z5 : Rec) (g6 : aH), (X9_at g6 a0 Z5) → (∀ q, (q < a0 ∨ a0 + 20 ≤ q) → g6 q = h q) → ∀ (res22 : Rec), X9_scattered_L22 x1 n22 v4 Z5 = some res22 → (∀ (q9 : aH), (X9_at q9 a0 res22) → (∀ q, (q < a0 ∨ a0 + 20 ≤ q) → q9 q = h q) → aV X G 9 72 [(0, .ref a0), (2, .int x2)] [] q9 nx 0 0) → aV X G 9 22 [(0, .ref a0), (1, .int x1), (2, .int x2), (3, .int v4)] [] g6 nx 0 0 := by
        intro n22
        induction n22 with
        | zero => intro v4 Z5 g6 hB0 hFr res22 hF KX22; cases (show (none : Option (Rec)) = some res22 from hF)
        | succ n22 ih22 =>
          intro v4 Z5 g6 hB0 hFr res22 hF KX22
          rw [X9_scattered_L22] at hF
          refine ab_iload_n C 3 rfl rfl dX9_scattered_22 ?_
          refine ab_bipush (v := (36 : Int32)) C dX9_scattered_23 (by decide) ?_
          refine ab_icmp_ge C 72 dX9_scattered_25 (by decide) (fun c7 => ?_) (fun c7 => ?_)
          · replace hF := (if_pos c7).symm.trans hF
            obtain rfl := Option.some.inj hF
            refine aV.sub (lv' := [(0, .ref a0), (2, .int x2)]) [0, 2] rfl ?_
            exact KX22 g6 hB0 hFr
          · replace hF := (if_neg c7).symm.trans hF
            refine ab_aload_n C 0 rfl rfl dX9_scattered_28 ?_
            refine ab_g9 (v := .ref (a0 + 10)) C lf_X9_38 hB0.1 rfl dX9_scattered_29 ?_
            refine ab_iload_n C 3 rfl rfl dX9_scattered_32 ?_
            refine ab_aload_n C 0 rfl rfl dX9_scattered_33 ?_
            refine ab_g9 (v := .ref (a0 + 1)) C lf_X9_7 hB0.1 rfl dX9_scattered_34 ?_
            refine ab_iload_n C 3 rfl rfl dX9_scattered_37 ?_
            obtain ⟨v8, hxv8, hF⟩ := Option.bind_eq_some_iff.mp hF
            refine ab_cSR (v := .int v8) (st := [.int v4, .ref (a0 + 10)]) C lm_X9_133 (X9_isIn_ok (xl X) (X9_r0 hB0) (r := v8) hxv8) rfl rfl (by decide) ⟨Nat.zero_le _, Nat.zero_le _⟩ (Nat.le_of_ble_eq_true rfl) dX9_scattered_38 ?_
            refine ab_if_eq C 63 dX9_scattered_41 (by decide) (fun c9 => ?_) (fun c9 => ?_)
            · replace hF := (if_pos c9).symm.trans hF
              refine ab_bipush (v := (-4 : Int32)) C dX9_scattered_63 (by decide) ?_
              obtain ⟨w10, hxw10, hF⟩ := Option.bind_eq_some_iff.mp hF
              refine ab_iast C (X9_r15 hB0) hxw10 dX9_scattered_65 (fun g11 eg11 og11 => ?_)
              have hB0 : X9_at g11 a0 (sA Z5 15 w10) := X9_w15 hB0 eg11 og11
              have hFr : ∀ q, (q < a0 ∨ a0 + 20 ≤ q) → g11 q = h q := fun q u0 => (og11 q (by omega)).trans (hFr q u0)
              obtain ⟨v12, qv12⟩ : ∃ y : Int32, y = (v4 + (1 : Int32)) := ⟨_, rfl⟩
              replace hF := aLet_e hF v12 qv12
              refine ab_iinc (lv' := [(3, .int v12), (0, .ref a0), (1, .int x1), (2, .int x2)]) C 3 rfl dX9_scattered_66 (by rw [qv12]; rfl) (by decide) rfl ?_
              refine ab_goto C 22 dX9_scattered_69 (by decide) ?_
              refine aV.sub (lv' := [(0, .ref a0), (1, .int x1), (2, .int x2), (3, .int v12)]) [1, 2, 3, 0] rfl ?_
              exact ih22 v12 (sA Z5 15 w10) g11 hB0 hFr res22 hF KX22
            · replace hF := (if_neg c9).symm.trans hF
              refine ab_aload_n C 0 rfl rfl dX9_scattered_44 ?_
              refine ab_g9 (v := .ref (a0 + 1)) C lf_X9_7 hB0.1 rfl dX9_scattered_45 ?_
              refine ab_bipush (v := (52 : Int32)) C dX9_scattered_48 (by decide) ?_
              refine ab_iload_n C 3 rfl rfl dX9_scattered_50 ?_
              refine ab_iadd C dX9_scattered_51 ?_
              obtain ⟨v13, hxv13, hF⟩ := Option.bind_eq_some_iff.mp hF
              refine ab_iald C (X9_r0 hB0) hxv13 dX9_scattered_52 ?_
              refine ab_iload_n C 1 rfl rfl dX9_scattered_53 ?_
              refine ab_iconst (v := (1 : Int32)) C dX9_scattered_54 (by decide) ?_
              refine ab_iadd C dX9_scattered_55 ?_
              refine ab_icmp_ne C 63 dX9_scattered_56 (by decide) (fun c14 => ?_) (fun c14 => ?_)
              · replace hF := (if_neg c14).symm.trans hF
                refine ab_bipush (v := (-4 : Int32)) C dX9_scattered_63 (by decide) ?_
                obtain ⟨w15, hxw15, hF⟩ := Option.bind_eq_some_iff.mp hF
                refine ab_iast C (X9_r15 hB0) hxw15 dX9_scattered_65 (fun g16 eg16 og16 => ?_)
                have hB0 : X9_at g16 a0 (sA Z5 15 w15) := X9_w15 hB0 eg16 og16
                have hFr : ∀ q, (q < a0 ∨ a0 + 20 ≤ q) → g16 q = h q := fun q u0 => (og16 q (by omega)).trans (hFr q u0)
                obtain ⟨v17, qv17⟩ : ∃ y : Int32, y = (v4 + (1 : Int32)) := ⟨_, rfl⟩
                replace hF := aLet_e hF v17 qv17
                refine ab_iinc (lv' := [(3, .int v17), (0, .ref a0), (1, .int x1), (2, .int x2)]) C 3 rfl dX9_scattered_66 (by rw [qv17]; rfl) (by decide) rfl ?_
                refine ab_goto C 22 dX9_scattered_69 (by decide) ?_
                refine aV.sub (lv' := [(0, .ref a0), (1, .int x1), (2, .int x2), (3, .int v17)]) [1, 2, 3, 0] rfl ?_
                exact ih22 v17 (sA Z5 15 w15) g16 hB0 hFr res22 hF KX22
              · replace hF := (if_pos c14).symm.trans hF
                refine ab_iload_n C 3 rfl rfl dX9_scattered_59 ?_
                refine ab_goto C 65 dX9_scattered_60 (by decide) ?_
                obtain ⟨w18, hxw18, hF⟩ := Option.bind_eq_some_iff.mp hF
                refine ab_iast C (X9_r15 hB0) hxw18 dX9_scattered_65 (fun g19 eg19 og19 => ?_)
                have hB0 : X9_at g19 a0 (sA Z5 15 w18) := X9_w15 hB0 eg19 og19
                have hFr : ∀ q, (q < a0 ∨ a0 + 20 ≤ q) → g19 q = h q := fun q u0 => (og19 q (by omega)).trans (hFr q u0)
                obtain ⟨v20, qv20⟩ : ∃ y : Int32, y = (v4 + (1 : Int32)) := ⟨_, rfl⟩
                replace hF := aLet_e hF v20 qv20
                refine ab_iinc (lv' := [(3, .int v20), (0, .ref a0), (1, .int x1), (2, .int x2)]) C 3 rfl dX9_scattered_66 (by rw [qv20]; rfl) (by decide) rfl ?_
                refine ab_goto C 22 dX9_scattered_69 (by decide) ?_
                refine aV.sub (lv' := [(0, .ref a0), (1, .int x1), (2, .int x2), (3, .int v20)]) [1, 2, 3, 0] rfl ?_
                exact ih22 v20 (sA Z5 15 w18) g19 hB0 hFr res22 hF KX22
      refine aV.sub (lv' := [(0, .ref a0), (1, .int x1), (2, .int x2), (3, .int (0 : Int32))]) [1, 2, 3, 0] rfl ?_
      obtain ⟨e21, he21, hF⟩ := Option.bind_eq_some_iff.mp hF
      refine L22 aFu (0 : Int32) S0 h hB0 hFr e21 he21 (fun g22 hB0 hFr => ?_)
      refine ab_iconst (v := (1 : Int32)) C dX9_scattered_72 (by decide) ?_
      refine ab_istore_n (lv' := [(3, .int (1 : Int32)), (0, .ref a0), (2, .int x2)]) C dX9_scattered_73 rfl (by decide) rfl ?_
      have L74 : ∀ (n74 : Nat) (v23 : Int32) (Z24 : Rec) (g25 : aH), (X9_at g25 a0 Z24) → (∀ q, (q < a0 ∨ a0 + 20 ≤ q) → g25 q = h q) → ∀ (res74 : Rec), X9_scattered_L74 n74 v23 Z24 = some res74 → (∀ (q9 : aH), (X9_at q9 a0 res74) → (∀ q, (q < a0 ∨ a0 + 20 ≤ q) → q9 q = h q) → aV X G 9 309 [(0, .ref a0), (2, .int x2)] [] q9 nx 0 0) → aV X G 9 74 [(0, .ref a0), (2, .int x2), (3, .int v23)] [] g25 nx 0 0 := by
        intro n74
        induction n74 with
        | zero => intro v23 Z24 g25 hB0 hFr res74 hF KX74; cases (show (none : Option (Rec)) = some res74 from hF)
        | succ n74 ih74 =>
          intro v23 Z24 g25 hB0 hFr res74 hF KX74
          rw [X9_scattered_L74] at hF
          refine ab_iload_n C 2 rfl rfl dX9_scattered_74 ?_
          refine ab_if_eq C 309 dX9_scattered_75 (by decide) (fun c26 => ?_) (fun c26 => ?_)
          · replace hF := (if_pos c26).symm.trans hF
            obtain rfl := Option.some.inj hF
            refine aV.sub (lv' := [(0, .ref a0), (2, .int x2)]) [0, 1] rfl ?_
            exact KX74 g25 hB0 hFr
          · replace hF := (if_neg c26).symm.trans hF
            refine ab_iconst (v := (0 : Int32)) C dX9_scattered_78 (by decide) ?_
            refine ab_istore_n (lv' := [(3, .int (0 : Int32)), (0, .ref a0), (2, .int x2)]) C dX9_scattered_79 rfl (by decide) rfl ?_
            refine ab_iconst (v := (0 : Int32)) C dX9_scattered_80 (by decide) ?_
            refine ab_istore (lv' := [(4, .int (0 : Int32)), (3, .int (0 : Int32)), (0, .ref a0), (2, .int x2)]) C dX9_scattered_81 (by decide) rfl ?_
            have L83 : ∀ (n83 : Nat) (v27 : Int32) (v28 : Int32) (Z29 : Rec) (g30 : aH), (X9_at g30 a0 Z29) → (∀ q, (q < a0 ∨ a0 + 20 ≤ q) → g30 q = h q) → ∀ (res83 : Int32 × Rec), X9_scattered_L83 n83 v27 v28 Z29 = some res83 → (∀ (q9 : aH), (X9_at q9 a0 res83.2) → (∀ q, (q < a0 ∨ a0 + 20 ≤ q) → q9 q = h q) → aV X G 9 306 [(0, .ref a0), (2, .int x2), (3, .int res83.1)] [] q9 nx 0 0) → aV X G 9 83 [(0, .ref a0), (2, .int x2), (3, .int v27), (4, .int v28)] [] g30 nx 0 0 := by
              intro n83
              induction n83 with
              | zero => intro v27 v28 Z29 g30 hB0 hFr res83 hF KX83; cases (show (none : Option (Int32 × Rec)) = some res83 from hF)
              | succ n83 ih83 =>
                intro v27 v28 Z29 g30 hB0 hFr res83 hF KX83
                rw [X9_scattered_L83] at hF
                refine ab_iload C 3 rfl dX9_scattered_83 ?_
                refine ab_bipush (v := (36 : Int32)) C dX9_scattered_85 (by decide) ?_
                refine ab_icmp_ge C 306 dX9_scattered_87 (by decide) (fun c31 => ?_) (fun c31 => ?_)
                · replace hF := (if_pos c31).symm.trans hF
                  obtain rfl := Option.some.inj hF
                  refine aV.sub (lv' := [(0, .ref a0), (2, .int x2), (3, .int v27)]) [0, 1, 2] rfl ?_
                  exact KX83 g30 hB0 hFr
                · replace hF := (if_neg c31).symm.trans hF
                  refine ab_iload C 3 rfl dX9_scattered_90 ?_
                  refine ab_bipush (v := (6 : Int32)) C dX9_scattered_92 (by decide) ?_
                  refine ab_irem C (by decide) dX9_scattered_94 ?_
                  refine ab_iconst (v := (5 : Int32)) C dX9_scattered_95 (by decide) ?_
                  have J113 : ∀ (v32 : Int32), X9_scattered_J113 v28 Z29 v27 (X9_scattered_L83 n83) v32 = some res83 → aV X G 9 113 [(0, .ref a0), (2, .int x2), (3, .int v27), (4, .int v28)] [.int v32] g30 nx 0 0 := by
                    intro v32 hF
                    rw [X9_scattered_J113] at hF
                    refine ab_istore (lv' := [(5, .int v32), (0, .ref a0), (2, .int x2), (3, .int v27), (4, .int v28)]) C dX9_scattered_113 (by decide) rfl ?_
                    refine ab_iload C 4 rfl dX9_scattered_115 ?_
                    refine ab_bipush (v := (30 : Int32)) C dX9_scattered_117 (by decide) ?_
                    have J137 : ∀ (v33 : Int32), X9_scattered_J137 Z29 v28 v27 v32 (X9_scattered_L83 n83) v33 = some res83 → aV X G 9 137 [(0, .ref a0), (2, .int x2), (3, .int v27), (4, .int v28), (5, .int v32)] [.int v33] g30 nx 0 0 := by
                      intro v33 hF
                      rw [X9_scattered_J137] at hF
                      refine ab_istore (lv' := [(6, .int v33), (0, .ref a0), (2, .int x2), (3, .int v27), (4, .int v28), (5, .int v32)]) C dX9_scattered_137 (by decide) rfl ?_
                      refine ab_aload_n C 1 rfl rfl dX9_scattered_139 ?_
                      refine ab_g9 (v := .ref (a0 + 10)) C lf_X9_38 hB0.1 rfl dX9_scattered_140 ?_
                      refine ab_iload C 4 rfl dX9_scattered_143 ?_
                      obtain ⟨v34, hxv34, hF⟩ := Option.bind_eq_some_iff.mp hF
                      refine ab_iald C (X9_r15 hB0) hxv34 dX9_scattered_145 ?_
                      refine ab_bipush (v := (-4 : Int32)) C dX9_scattered_146 (by decide) ?_
                      have J219 : ∀ (v35 : Int32) (Z36 : Rec) (g37 : aH), (X9_at g37 a0 Z36) → (∀ q, (q < a0 ∨ a0 + 20 ≤ q) → g37 q = h q) → X9_scattered_J219 v28 v33 (X9_scattered_L83 n83) v35 Z36 = some res83 → aV X G 9 219 [(0, .ref a0), (2, .int x2), (3, .int v35), (4, .int v28), (6, .int v33)] [] g37 nx 0 0 := by
                        intro v35 Z36 g37 hB0 hFr hF
                        rw [X9_scattered_J219] at hF
                        refine ab_aload_n C 0 rfl rfl dX9_scattered_219 ?_
                        refine ab_g9 (v := .ref (a0 + 10)) C lf_X9_38 hB0.1 rfl dX9_scattered_220 ?_
                        refine ab_iload C 3 rfl dX9_scattered_223 ?_
                        obtain ⟨v38, hxv38, hF⟩ := Option.bind_eq_some_iff.mp hF
                        refine ab_iald C (X9_r15 hB0) hxv38 dX9_scattered_225 ?_
                        refine ab_bipush (v := (-4 : Int32)) C dX9_scattered_226 (by decide) ?_
                        refine ab_icmp_eq C 300 dX9_scattered_228 (by decide) (fun c39 => ?_) (fun c39 => ?_)
                        · replace hF := (if_pos c39).symm.trans hF
                          obtain ⟨v40, qv40⟩ : ∃ y : Int32, y = (v28 + (1 : Int32)) := ⟨_, rfl⟩
                          replace hF := aLet_e hF v40 qv40
                          refine ab_iinc (lv' := [(4, .int v40), (0, .ref a0), (2, .int x2), (3, .int v35), (6, .int v33)]) C 3 rfl dX9_scattered_300 (by rw [qv40]; rfl) (by decide) rfl ?_
                          refine ab_goto C 83 dX9_scattered_303 (by decide) ?_
                          refine aV.sub (lv' := [(0, .ref a0), (2, .int x2), (3, .int v35), (4, .int v40)]) [1, 2, 3, 0] rfl ?_
                          exact ih83 v35 v40 Z36 g37 hB0 hFr res83 hF KX83
                        · replace hF := (if_neg c39).symm.trans hF
                          refine ab_iload C 4 rfl dX9_scattered_231 ?_
                          refine ab_bipush (v := (-4 : Int32)) C dX9_scattered_233 (by decide) ?_
                          refine ab_icmp_eq C 300 dX9_scattered_235 (by decide) (fun c41 => ?_) (fun c41 => ?_)
                          · replace hF := (if_pos c41).symm.trans hF
                            obtain ⟨v42, qv42⟩ : ∃ y : Int32, y = (v28 + (1 : Int32)) := ⟨_, rfl⟩
                            replace hF := aLet_e hF v42 qv42
                            refine ab_iinc (lv' := [(4, .int v42), (0, .ref a0), (2, .int x2), (3, .int v35), (6, .int v33)]) C 3 rfl dX9_scattered_300 (by rw [qv42]; rfl) (by decide) rfl ?_
                            refine ab_goto C 83 dX9_scattered_303 (by decide) ?_
                            refine aV.sub (lv' := [(0, .ref a0), (2, .int x2), (3, .int v35), (4, .int v42)]) [1, 2, 3, 0] rfl ?_
                            exact ih83 v35 v42 Z36 g37 hB0 hFr res83 hF KX83
                          · replace hF := (if_neg c41).symm.trans hF
                            refine ab_iload C 4 rfl dX9_scattered_238 ?_
                            refine ab_aload_n C 0 rfl rfl dX9_scattered_240 ?_
                            refine ab_g9 (v := .ref (a0 + 10)) C lf_X9_38 hB0.1 rfl dX9_scattered_241 ?_
                            refine ab_iload C 3 rfl dX9_scattered_244 ?_
                            obtain ⟨v43, hxv43, hF⟩ := Option.bind_eq_some_iff.mp hF
                            refine ab_iald C (X9_r15 hB0) hxv43 dX9_scattered_246 ?_
                            refine ab_icmp_eq C 300 dX9_scattered_247 (by decide) (fun c44 => ?_) (fun c44 => ?_)
                            · replace hF := (if_pos c44).symm.trans hF
                              obtain ⟨v45, qv45⟩ : ∃ y : Int32, y = (v28 + (1 : Int32)) := ⟨_, rfl⟩
                              replace hF := aLet_e hF v45 qv45
                              refine ab_iinc (lv' := [(4, .int v45), (0, .ref a0), (2, .int x2), (3, .int v35), (6, .int v33)]) C 3 rfl dX9_scattered_300 (by rw [qv45]; rfl) (by decide) rfl ?_
                              refine ab_goto C 83 dX9_scattered_303 (by decide) ?_
                              refine aV.sub (lv' := [(0, .ref a0), (2, .int x2), (3, .int v35), (4, .int v45)]) [1, 2, 3, 0] rfl ?_
                              exact ih83 v35 v45 Z36 g37 hB0 hFr res83 hF KX83
                            · replace hF := (if_neg c44).symm.trans hF
                              refine ab_aload_n C 0 rfl rfl dX9_scattered_250 ?_
                              refine ab_g9 (v := .ref (a0 + 10)) C lf_X9_38 hB0.1 rfl dX9_scattered_251 ?_
                              refine ab_iload C 3 rfl dX9_scattered_254 ?_
                              refine ab_aload_n C 0 rfl rfl dX9_scattered_256 ?_
                              refine ab_g9 (v := .ref (a0 + 10)) C lf_X9_38 hB0.1 rfl dX9_scattered_257 ?_
                              refine ab_iload C 3 rfl dX9_scattered_260 ?_
                              obtain ⟨v46, hxv46, hF⟩ := Option.bind_eq_some_iff.mp hF
                              refine ab_iald C (X9_r15 hB0) hxv46 dX9_scattered_262 ?_
                              refine ab_iload C 4 rfl dX9_scattered_263 ?_
                              have J280 : ∀ (v47 : Int32), X9_scattered_J280 Z36 v28 (X9_scattered_L83 n83) v47 = some res83 → aV X G 9 280 [(0, .ref a0), (2, .int x2), (4, .int v28)] [.int v47, .int v28, .ref (a0 + 10)] g37 nx 0 0 := by
                                intro v47 hF
                                rw [X9_scattered_J280] at hF
                                obtain ⟨w48, hxw48, hF⟩ := Option.bind_eq_some_iff.mp hF
                                refine ab_iast C (X9_r15 hB0) hxw48 dX9_scattered_280 (fun g49 eg49 og49 => ?_)
                                have hB0 : X9_at g49 a0 (sA Z36 15 w48) := X9_w15 hB0 eg49 og49
                                have hFr : ∀ q, (q < a0 ∨ a0 + 20 ≤ q) → g49 q = h q := fun q u0 => (og49 q (by omega)).trans (hFr q u0)
                                refine ab_aload_n C 0 rfl rfl dX9_scattered_281 ?_
                                refine ab_g9 (v := .ref (a0 + 10)) C lf_X9_38 hB0.1 rfl dX9_scattered_282 ?_
                                refine ab_iload C 2 rfl dX9_scattered_285 ?_
                                refine ab_bipush (v := (6 : Int32)) C dX9_scattered_287 (by decide) ?_
                                refine ab_iadd C dX9_scattered_289 ?_
                                refine ab_aload_n C 0 rfl rfl dX9_scattered_290 ?_
                                refine ab_g9 (v := .ref (a0 + 10)) C lf_X9_38 hB0.1 rfl dX9_scattered_291 ?_
                                refine ab_iload C 2 rfl dX9_scattered_294 ?_
                                obtain ⟨v50, hxv50, hF⟩ := Option.bind_eq_some_iff.mp hF
                                refine ab_iald C (X9_r15 hB0) hxv50 dX9_scattered_296 ?_
                                obtain ⟨w51, hxw51, hF⟩ := Option.bind_eq_some_iff.mp hF
                                refine ab_iast C (X9_r15 hB0) hxw51 dX9_scattered_297 (fun g52 eg52 og52 => ?_)
                                have hB0 : X9_at g52 a0 (sA (sA Z36 15 w48) 15 w51) := X9_w15 hB0 eg52 og52
                                have hFr : ∀ q, (q < a0 ∨ a0 + 20 ≤ q) → g52 q = h q := fun q u0 => (og52 q (by omega)).trans (hFr q u0)
                                refine ab_iconst (v := (1 : Int32)) C dX9_scattered_298 (by decide) ?_
                                refine ab_istore_n (lv' := [(3, .int (1 : Int32)), (0, .ref a0), (2, .int x2), (4, .int v28)]) C dX9_scattered_299 rfl (by decide) rfl ?_
                                obtain ⟨v53, qv53⟩ : ∃ y : Int32, y = (v28 + (1 : Int32)) := ⟨_, rfl⟩
                                replace hF := aLet_e hF v53 qv53
                                refine ab_iinc (lv' := [(4, .int v53), (3, .int (1 : Int32)), (0, .ref a0), (2, .int x2)]) C 3 rfl dX9_scattered_300 (by rw [qv53]; rfl) (by decide) rfl ?_
                                refine ab_goto C 83 dX9_scattered_303 (by decide) ?_
                                refine aV.sub (lv' := [(0, .ref a0), (2, .int x2), (3, .int (1 : Int32)), (4, .int v53)]) [2, 3, 1, 0] rfl ?_
                                exact ih83 (1 : Int32) v53 (sA (sA Z36 15 w48) 15 w51) g52 hB0 hFr res83 hF KX83
                              refine ab_icmp_ge C 278 dX9_scattered_265 (by decide) (fun c54 => ?_) (fun c54 => ?_)
                              · replace hF := (if_pos c54).symm.trans hF
                                refine ab_iload C 4 rfl dX9_scattered_278 ?_
                                refine aV.sub (lv' := [(0, .ref a0), (2, .int x2), (4, .int v28)]) [0, 1, 3] rfl ?_
                                exact J280 v33 hF
                              · replace hF := (if_neg c54).symm.trans hF
                                refine ab_aload_n C 0 rfl rfl dX9_scattered_268 ?_
                                refine ab_g9 (v := .ref (a0 + 10)) C lf_X9_38 hB0.1 rfl dX9_scattered_269 ?_
                                refine ab_iload C 3 rfl dX9_scattered_272 ?_
                                obtain ⟨v55, hxv55, hF⟩ := Option.bind_eq_some_iff.mp hF
                                refine ab_iald C (X9_r15 hB0) hxv55 dX9_scattered_274 ?_
                                refine ab_goto C 280 dX9_scattered_275 (by decide) ?_
                                refine aV.sub (lv' := [(0, .ref a0), (2, .int x2), (4, .int v28)]) [0, 1, 3] rfl ?_
                                exact J280 v55 hF
                      refine ab_icmp_eq C 219 dX9_scattered_148 (by decide) (fun c56 => ?_) (fun c56 => ?_)
                      · replace hF := (if_pos c56).symm.trans hF
                        refine aV.sub (lv' := [(0, .ref a0), (2, .int x2), (3, .int v27), (4, .int v28), (6, .int v33)]) [1, 2, 3, 4, 0] rfl ?_
                        exact J219 v27 Z29 g30 hB0 hFr hF
                      · replace hF := (if_neg c56).symm.trans hF
                        refine ab_iload C 5 rfl dX9_scattered_151 ?_
                        refine ab_bipush (v := (-4 : Int32)) C dX9_scattered_153 (by decide) ?_
                        refine ab_icmp_eq C 219 dX9_scattered_155 (by decide) (fun c57 => ?_) (fun c57 => ?_)
                        · replace hF := (if_pos c57).symm.trans hF
                          refine aV.sub (lv' := [(0, .ref a0), (2, .int x2), (3, .int v27), (4, .int v28), (6, .int v33)]) [1, 2, 3, 4, 0] rfl ?_
                          exact J219 v27 Z29 g30 hB0 hFr hF
                        · replace hF := (if_neg c57).symm.trans hF
                          refine ab_iload C 5 rfl dX9_scattered_158 ?_
                          refine ab_aload_n C 1 rfl rfl dX9_scattered_160 ?_
                          refine ab_g9 (v := .ref (a0 + 10)) C lf_X9_38 hB0.1 rfl dX9_scattered_161 ?_
                          refine ab_iload C 4 rfl dX9_scattered_164 ?_
                          obtain ⟨v58, hxv58, hF⟩ := Option.bind_eq_some_iff.mp hF
                          refine ab_iald C (X9_r15 hB0) hxv58 dX9_scattered_166 ?_
                          refine ab_icmp_eq C 219 dX9_scattered_167 (by decide) (fun c59 => ?_) (fun c59 => ?_)
                          · replace hF := (if_pos c59).symm.trans hF
                            refine aV.sub (lv' := [(0, .ref a0), (2, .int x2), (3, .int v27), (4, .int v28), (6, .int v33)]) [1, 2, 3, 4, 0] rfl ?_
                            exact J219 v27 Z29 g30 hB0 hFr hF
                          · replace hF := (if_neg c59).symm.trans hF
                            refine ab_aload_n C 1 rfl rfl dX9_scattered_170 ?_
                            refine ab_g9 (v := .ref (a0 + 10)) C lf_X9_38 hB0.1 rfl dX9_scattered_171 ?_
                            refine ab_iload C 4 rfl dX9_scattered_174 ?_
                            refine ab_aload_n C 1 rfl rfl dX9_scattered_176 ?_
                            refine ab_g9 (v := .ref (a0 + 10)) C lf_X9_38 hB0.1 rfl dX9_scattered_177 ?_
                            refine ab_iload C 4 rfl dX9_scattered_180 ?_
                            obtain ⟨v60, hxv60, hF⟩ := Option.bind_eq_some_iff.mp hF
                            refine ab_iald C (X9_r15 hB0) hxv60 dX9_scattered_182 ?_
                            refine ab_iload C 5 rfl dX9_scattered_183 ?_
                            have J200 : ∀ (v61 : Int32), X9_scattered_J200 Z29 v28 v33 (X9_scattered_L83 n83) v61 = some res83 → aV X G 9 200 [(0, .ref a0), (2, .int x2), (4, .int v28), (6, .int v33)] [.int v61, .int v28, .ref (a0 + 10)] g30 nx 0 0 := by
                              intro v61 hF
                              rw [X9_scattered_J200] at hF
                              obtain ⟨w62, hxw62, hF⟩ := Option.bind_eq_some_iff.mp hF
                              refine ab_iast C (X9_r15 hB0) hxw62 dX9_scattered_200 (fun g63 eg63 og63 => ?_)
                              have hB0 : X9_at g63 a0 (sA Z29 15 w62) := X9_w15 hB0 eg63 og63
                              have hFr : ∀ q, (q < a0 ∨ a0 + 20 ≤ q) → g63 q = h q := fun q u0 => (og63 q (by omega)).trans (hFr q u0)
                              refine ab_aload_n C 0 rfl rfl dX9_scattered_201 ?_
                              refine ab_g9 (v := .ref (a0 + 10)) C lf_X9_38 hB0.1 rfl dX9_scattered_202 ?_
                              refine ab_iload C 2 rfl dX9_scattered_205 ?_
                              refine ab_iconst (v := (1 : Int32)) C dX9_scattered_207 (by decide) ?_
                              refine ab_iadd C dX9_scattered_208 ?_
                              refine ab_aload_n C 0 rfl rfl dX9_scattered_209 ?_
                              refine ab_g9 (v := .ref (a0 + 10)) C lf_X9_38 hB0.1 rfl dX9_scattered_210 ?_
                              refine ab_iload C 2 rfl dX9_scattered_213 ?_
                              obtain ⟨v64, hxv64, hF⟩ := Option.bind_eq_some_iff.mp hF
                              refine ab_iald C (X9_r15 hB0) hxv64 dX9_scattered_215 ?_
                              obtain ⟨w65, hxw65, hF⟩ := Option.bind_eq_some_iff.mp hF
                              refine ab_iast C (X9_r15 hB0) hxw65 dX9_scattered_216 (fun g66 eg66 og66 => ?_)
                              have hB0 : X9_at g66 a0 (sA (sA Z29 15 w62) 15 w65) := X9_w15 hB0 eg66 og66
                              have hFr : ∀ q, (q < a0 ∨ a0 + 20 ≤ q) → g66 q = h q := fun q u0 => (og66 q (by omega)).trans (hFr q u0)
                              refine ab_iconst (v := (1 : Int32)) C dX9_scattered_217 (by decide) ?_
                              refine ab_istore_n (lv' := [(3, .int (1 : Int32)), (0, .ref a0), (2, .int x2), (4, .int v28), (6, .int v33)]) C dX9_scattered_218 rfl (by decide) rfl ?_
                              refine aV.sub (lv' := [(0, .ref a0), (2, .int x2), (3, .int (1 : Int32)), (4, .int v28), (6, .int v33)]) [1, 2, 0, 3, 4] rfl ?_
                              exact J219 (1 : Int32) (sA (sA Z29 15 w62) 15 w65) g66 hB0 hFr hF
                            refine ab_icmp_ge C 198 dX9_scattered_185 (by decide) (fun c67 => ?_) (fun c67 => ?_)
                            · replace hF := (if_pos c67).symm.trans hF
                              refine ab_iload C 5 rfl dX9_scattered_198 ?_
                              refine aV.sub (lv' := [(0, .ref a0), (2, .int x2), (4, .int v28), (6, .int v33)]) [1, 2, 4, 0] rfl ?_
                              exact J200 v32 hF
                            · replace hF := (if_neg c67).symm.trans hF
                              refine ab_aload_n C 1 rfl rfl dX9_scattered_188 ?_
                              refine ab_g9 (v := .ref (a0 + 10)) C lf_X9_38 hB0.1 rfl dX9_scattered_189 ?_
                              refine ab_iload C 4 rfl dX9_scattered_192 ?_
                              obtain ⟨v68, hxv68, hF⟩ := Option.bind_eq_some_iff.mp hF
                              refine ab_iald C (X9_r15 hB0) hxv68 dX9_scattered_194 ?_
                              refine ab_goto C 200 dX9_scattered_195 (by decide) ?_
                              refine aV.sub (lv' := [(0, .ref a0), (2, .int x2), (4, .int v28), (6, .int v33)]) [1, 2, 4, 0] rfl ?_
                              exact J200 v68 hF
                    refine ab_icmp_ge C 135 dX9_scattered_119 (by decide) (fun c69 => ?_) (fun c69 => ?_)
                    · replace hF := (if_pos c69).symm.trans hF
                      refine ab_bipush (v := (-4 : Int32)) C dX9_scattered_135 (by decide) ?_
                      refine aV.sub (lv' := [(0, .ref a0), (2, .int x2), (3, .int v27), (4, .int v28), (5, .int v32)]) [1, 2, 3, 4, 0] rfl ?_
                      exact J137 (-4 : Int32) hF
                    · replace hF := (if_neg c69).symm.trans hF
                      refine ab_aload_n C 1 rfl rfl dX9_scattered_122 ?_
                      refine ab_g9 (v := .ref (a0 + 10)) C lf_X9_38 hB0.1 rfl dX9_scattered_123 ?_
                      refine ab_iload C 4 rfl dX9_scattered_126 ?_
                      refine ab_bipush (v := (6 : Int32)) C dX9_scattered_128 (by decide) ?_
                      refine ab_iadd C dX9_scattered_130 ?_
                      obtain ⟨v70, hxv70, hF⟩ := Option.bind_eq_some_iff.mp hF
                      refine ab_iald C (X9_r15 hB0) hxv70 dX9_scattered_131 ?_
                      refine ab_goto C 137 dX9_scattered_132 (by decide) ?_
                      refine aV.sub (lv' := [(0, .ref a0), (2, .int x2), (3, .int v27), (4, .int v28), (5, .int v32)]) [1, 2, 3, 4, 0] rfl ?_
                      exact J137 v70 hF
                  refine ab_icmp_ge C 111 dX9_scattered_96 (by decide) (fun c71 => ?_) (fun c71 => ?_)
                  · replace hF := (if_pos c71).symm.trans hF
                    refine ab_bipush (v := (-4 : Int32)) C dX9_scattered_111 (by decide) ?_
                    exact J113 (-4 : Int32) hF
                  · replace hF := (if_neg c71).symm.trans hF
                    refine ab_aload_n C 0 rfl rfl dX9_scattered_99 ?_
                    refine ab_g9 (v := .ref (a0 + 10)) C lf_X9_38 hB0.1 rfl dX9_scattered_100 ?_
                    refine ab_iload C 3 rfl dX9_scattered_103 ?_
                    refine ab_iconst (v := (1 : Int32)) C dX9_scattered_105 (by decide) ?_
                    refine ab_iadd C dX9_scattered_106 ?_
                    obtain ⟨v72, hxv72, hF⟩ := Option.bind_eq_some_iff.mp hF
                    refine ab_iald C (X9_r15 hB0) hxv72 dX9_scattered_107 ?_
                    refine ab_goto C 113 dX9_scattered_108 (by decide) ?_
                    exact J113 v72 hF
            refine aV.sub (lv' := [(0, .ref a0), (2, .int x2), (3, .int (0 : Int32)), (4, .int (0 : Int32))]) [2, 3, 1, 0] rfl ?_
            obtain ⟨e73, he73, hF⟩ := Option.bind_eq_some_iff.mp hF
            refine L83 aFu (0 : Int32) (0 : Int32) Z24 g25 hB0 hFr e73 he73 (fun g74 hB0 hFr => ?_)
            refine ab_goto C 74 dX9_scattered_306 (by decide) ?_
            exact ih74 e73.1 e73.2 g74 hB0 hFr res74 hF KX74
      refine aV.sub (lv' := [(0, .ref a0), (2, .int x2), (3, .int (1 : Int32))]) [1, 2, 0] rfl ?_
      obtain ⟨e75, he75, hF⟩ := Option.bind_eq_some_iff.mp hF
      refine L74 aFu (1 : Int32) e21 g22 hB0 hFr e75 he75 (fun g76 hB0 hFr => ?_)
      refine ab_iconst (v := (0 : Int32)) C dX9_scattered_309 (by decide) ?_
      refine ab_istore (lv' := [(4, .int (0 : Int32)), (0, .ref a0), (2, .int x2)]) C dX9_scattered_310 (by decide) rfl ?_
      refine ab_iconst (v := (0 : Int32)) C dX9_scattered_312 (by decide) ?_
      refine ab_istore (lv' := [(5, .int (0 : Int32)), (4, .int (0 : Int32)), (0, .ref a0), (2, .int x2)]) C dX9_scattered_313 (by decide) rfl ?_
      refine ab_iconst (v := (0 : Int32)) C dX9_scattered_315 (by decide) ?_
      refine ab_istore (lv' := [(6, .int (0 : Int32)), (5, .int (0 : Int32)), (4, .int (0 : Int32)), (0, .ref a0), (2, .int x2)]) C dX9_scattered_316 (by decide) rfl ?_
      have L318 : ∀ (n318 : Nat) (v77 : Int32) (v78 : Int32) (v79 : Int32), ∀ (res318 : Int32 × Int32), X9_scattered_L318 e75 n318 v77 v78 v79 = some res318 → (aV X G 9 403 [(2, .int x2), (4, .int res318.1), (5, .int res318.2)] [] g76 nx 0 0) → aV X G 9 318 [(0, .ref a0), (2, .int x2), (4, .int v77), (5, .int v78), (6, .int v79)] [] g76 nx 0 0 := by
        intro n318
        induction n318 with
        | zero => intro v77 v78 v79 res318 hF KX318; cases (show (none : Option (Int32 × Int32)) = some res318 from hF)
        | succ n318 ih318 =>
          intro v77 v78 v79 res318 hF KX318
          rw [X9_scattered_L318] at hF
          refine ab_iload C 4 rfl dX9_scattered_318 ?_
          refine ab_bipush (v := (36 : Int32)) C dX9_scattered_320 (by decide) ?_
          refine ab_icmp_ge C 403 dX9_scattered_322 (by decide) (fun c80 => ?_) (fun c80 => ?_)
          · replace hF := (if_pos c80).symm.trans hF
            obtain rfl := Option.some.inj hF
            refine aV.sub (lv' := [(2, .int x2), (4, .int v77), (5, .int v78)]) [1, 2, 3] rfl ?_
            exact KX318
          · replace hF := (if_neg c80).symm.trans hF
            refine ab_iconst (v := (0 : Int32)) C dX9_scattered_325 (by decide) ?_
            refine ab_istore (lv' := [(7, .int (0 : Int32)), (0, .ref a0), (2, .int x2), (4, .int v77), (5, .int v78), (6, .int v79)]) C dX9_scattered_326 (by decide) rfl ?_
            refine ab_iconst (v := (0 : Int32)) C dX9_scattered_328 (by decide) ?_
            refine ab_istore (lv' := [(8, .int (0 : Int32)), (7, .int (0 : Int32)), (0, .ref a0), (2, .int x2), (4, .int v77), (5, .int v78), (6, .int v79)]) C dX9_scattered_329 (by decide) rfl ?_
            have L331 : ∀ (n331 : Nat) (v81 : Int32) (v82 : Int32), ∀ (res331 : Int32), X9_scattered_L331 e75 v79 n331 v81 v82 = some res331 → (aV X G 9 366 [(0, .ref a0), (2, .int x2), (4, .int v77), (5, .int v78), (6, .int v79), (7, .int res331)] [] g76 nx 0 0) → aV X G 9 331 [(0, .ref a0), (2, .int x2), (4, .int v77), (5, .int v78), (6, .int v79), (7, .int v81), (8, .int v82)] [] g76 nx 0 0 := by
              intro n331
              induction n331 with
              | zero => intro v81 v82 res331 hF KX331; cases (show (none : Option (Int32)) = some res331 from hF)
              | succ n331 ih331 =>
                intro v81 v82 res331 hF KX331
                rw [X9_scattered_L331] at hF
                refine ab_iload C 6 rfl dX9_scattered_331 ?_
                refine ab_bipush (v := (36 : Int32)) C dX9_scattered_333 (by decide) ?_
                refine ab_icmp_ge C 366 dX9_scattered_335 (by decide) (fun c83 => ?_) (fun c83 => ?_)
                · replace hF := (if_pos c83).symm.trans hF
                  obtain rfl := Option.some.inj hF
                  refine aV.sub (lv' := [(0, .ref a0), (2, .int x2), (4, .int v77), (5, .int v78), (6, .int v79), (7, .int v81)]) [0, 1, 2, 3, 4, 5] rfl ?_
                  exact KX331
                · replace hF := (if_neg c83).symm.trans hF
                  refine ab_iload C 5 rfl dX9_scattered_338 ?_
                  refine ab_aload_n C 0 rfl rfl dX9_scattered_340 ?_
                  refine ab_g9 (v := .ref (a0 + 10)) C lf_X9_38 hB0.1 rfl dX9_scattered_341 ?_
                  refine ab_iload C 6 rfl dX9_scattered_344 ?_
                  obtain ⟨v84, hxv84, hF⟩ := Option.bind_eq_some_iff.mp hF
                  refine ab_iald C (X9_r15 hB0) hxv84 dX9_scattered_346 ?_
                  refine ab_iload C 4 rfl dX9_scattered_347 ?_
                  refine ab_icmp_ne C 356 dX9_scattered_349 (by decide) (fun c85 => ?_) (fun c85 => ?_)
                  · replace hF := (if_neg c85).symm.trans hF
                    refine ab_iconst (v := (0 : Int32)) C dX9_scattered_356 (by decide) ?_
                    refine ab_iadd C dX9_scattered_357 ?_
                    refine ab_topi (fun v86 qv86 => ?_)
                    replace hF := aLet_e hF v86 qv86
                    refine ab_istore (lv' := [(7, .int v86), (0, .ref a0), (2, .int x2), (4, .int v77), (5, .int v78), (6, .int v79), (8, .int v82)]) C dX9_scattered_358 (by decide) rfl ?_
                    obtain ⟨v87, qv87⟩ : ∃ y : Int32, y = (v82 + (1 : Int32)) := ⟨_, rfl⟩
                    replace hF := aLet_e hF v87 qv87
                    refine ab_iinc (lv' := [(8, .int v87), (7, .int v86), (0, .ref a0), (2, .int x2), (4, .int v77), (5, .int v78), (6, .int v79)]) C 6 rfl dX9_scattered_360 (by rw [qv87]; rfl) (by decide) rfl ?_
                    refine ab_goto C 331 dX9_scattered_363 (by decide) ?_
                    refine aV.sub (lv' := [(0, .ref a0), (2, .int x2), (4, .int v77), (5, .int v78), (6, .int v79), (7, .int v86), (8, .int v87)]) [2, 3, 4, 5, 6, 1, 0] rfl ?_
                    exact ih331 v86 v87 res331 hF KX331
                  · replace hF := (if_pos c85).symm.trans hF
                    refine ab_iconst (v := (1 : Int32)) C dX9_scattered_352 (by decide) ?_
                    refine ab_goto C 357 dX9_scattered_353 (by decide) ?_
                    refine ab_iadd C dX9_scattered_357 ?_
                    refine ab_topi (fun v88 qv88 => ?_)
                    replace hF := aLet_e hF v88 qv88
                    refine ab_istore (lv' := [(7, .int v88), (0, .ref a0), (2, .int x2), (4, .int v77), (5, .int v78), (6, .int v79), (8, .int v82)]) C dX9_scattered_358 (by decide) rfl ?_
                    obtain ⟨v89, qv89⟩ : ∃ y : Int32, y = (v82 + (1 : Int32)) := ⟨_, rfl⟩
                    replace hF := aLet_e hF v89 qv89
                    refine ab_iinc (lv' := [(8, .int v89), (7, .int v88), (0, .ref a0), (2, .int x2), (4, .int v77), (5, .int v78), (6, .int v79)]) C 6 rfl dX9_scattered_360 (by rw [qv89]; rfl) (by decide) rfl ?_
                    refine ab_goto C 331 dX9_scattered_363 (by decide) ?_
                    refine aV.sub (lv' := [(0, .ref a0), (2, .int x2), (4, .int v77), (5, .int v78), (6, .int v79), (7, .int v88), (8, .int v89)]) [2, 3, 4, 5, 6, 1, 0] rfl ?_
                    exact ih331 v88 v89 res331 hF KX331
            refine aV.sub (lv' := [(0, .ref a0), (2, .int x2), (4, .int v77), (5, .int v78), (6, .int v79), (7, .int (0 : Int32)), (8, .int (0 : Int32))]) [2, 3, 4, 5, 6, 1, 0] rfl ?_
            obtain ⟨e90, he90, hF⟩ := Option.bind_eq_some_iff.mp hF
            refine L331 aFu (0 : Int32) (0 : Int32) e90 he90 ?_
            refine ab_iload C 2 rfl dX9_scattered_366 ?_
            refine ab_iload C 5 rfl dX9_scattered_368 ?_
            have J378 : ∀ (v91 : Int32), X9_scattered_J378 v77 e90 v78 v79 (X9_scattered_L318 e75 n318) v91 = some res318 → aV X G 9 378 [(0, .ref a0), (2, .int x2), (5, .int v78), (6, .int v79), (7, .int e90)] [.int v91, .int v77] g76 nx 0 0 := by
              intro v91 hF
              rw [X9_scattered_J378] at hF
              refine ab_iadd C dX9_scattered_378 ?_
              refine ab_topi (fun v92 qv92 => ?_)
              replace hF := aLet_e hF v92 qv92
              refine ab_istore (lv' := [(4, .int v92), (0, .ref a0), (2, .int x2), (5, .int v78), (6, .int v79), (7, .int e90)]) C dX9_scattered_379 (by decide) rfl ?_
              refine ab_iload C 5 rfl dX9_scattered_381 ?_
              refine ab_iload C 3 rfl dX9_scattered_383 ?_
              refine ab_icmp_le C 393 dX9_scattered_385 (by decide) (fun c93 => ?_) (fun c93 => ?_)
              · replace hF := (if_pos c93).symm.trans hF
                refine ab_iload C 3 rfl dX9_scattered_393 ?_
                refine ab_istore (lv' := [(5, .int v78), (4, .int v92), (0, .ref a0), (2, .int x2), (6, .int v79), (7, .int e90)]) C dX9_scattered_395 (by decide) rfl ?_
                obtain ⟨v94, qv94⟩ : ∃ y : Int32, y = (v79 + (1 : Int32)) := ⟨_, rfl⟩
                replace hF := aLet_e hF v94 qv94
                refine ab_iinc (lv' := [(6, .int v94), (5, .int v78), (4, .int v92), (0, .ref a0), (2, .int x2), (7, .int e90)]) C 4 rfl dX9_scattered_397 (by rw [qv94]; rfl) (by decide) rfl ?_
                refine ab_goto C 318 dX9_scattered_400 (by decide) ?_
                refine aV.sub (lv' := [(0, .ref a0), (2, .int x2), (4, .int v92), (5, .int v78), (6, .int v94)]) [3, 4, 2, 1, 0] rfl ?_
                exact ih318 v92 v78 v94 res318 hF KX318
              · replace hF := (if_neg c93).symm.trans hF
                refine ab_iload C 5 rfl dX9_scattered_388 ?_
                refine ab_goto C 395 dX9_scattered_390 (by decide) ?_
                refine ab_istore (lv' := [(5, .int e90), (4, .int v92), (0, .ref a0), (2, .int x2), (6, .int v79), (7, .int e90)]) C dX9_scattered_395 (by decide) rfl ?_
                obtain ⟨v95, qv95⟩ : ∃ y : Int32, y = (v79 + (1 : Int32)) := ⟨_, rfl⟩
                replace hF := aLet_e hF v95 qv95
                refine ab_iinc (lv' := [(6, .int v95), (5, .int e90), (4, .int v92), (0, .ref a0), (2, .int x2), (7, .int e90)]) C 4 rfl dX9_scattered_397 (by rw [qv95]; rfl) (by decide) rfl ?_
                refine ab_goto C 318 dX9_scattered_400 (by decide) ?_
                refine aV.sub (lv' := [(0, .ref a0), (2, .int x2), (4, .int v92), (5, .int e90), (6, .int v95)]) [3, 4, 2, 1, 0] rfl ?_
                exact ih318 v92 e90 v95 res318 hF KX318
            refine ab_if_le C 377 dX9_scattered_370 (by decide) (fun c96 => ?_) (fun c96 => ?_)
            · replace hF := (if_pos c96).symm.trans hF
              refine ab_iconst (v := (0 : Int32)) C dX9_scattered_377 (by decide) ?_
              refine aV.sub (lv' := [(0, .ref a0), (2, .int x2), (5, .int v78), (6, .int v79), (7, .int e90)]) [0, 1, 3, 4, 5] rfl ?_
              exact J378 (0 : Int32) hF
            · replace hF := (if_neg c96).symm.trans hF
              refine ab_iconst (v := (1 : Int32)) C dX9_scattered_373 (by decide) ?_
              refine ab_goto C 378 dX9_scattered_374 (by decide) ?_
              refine aV.sub (lv' := [(0, .ref a0), (2, .int x2), (5, .int v78), (6, .int v79), (7, .int e90)]) [0, 1, 3, 4, 5] rfl ?_
              exact J378 (1 : Int32) hF
      refine aV.sub (lv' := [(0, .ref a0), (2, .int x2), (4, .int (0 : Int32)), (5, .int (0 : Int32)), (6, .int (0 : Int32))]) [3, 4, 2, 1, 0] rfl ?_
      obtain ⟨e97, he97, hF⟩ := Option.bind_eq_some_iff.mp hF
      refine L318 aFu (0 : Int32) (0 : Int32) (0 : Int32) e97 he97 ?_
      refine ab_iload_n C 0 rfl rfl dX9_scattered_403 ?_
      refine ab_if_ne C 412 dX9_scattered_404 (by decide) (fun c98 => ?_) (fun c98 => ?_)
      · replace hF := (if_neg c98).symm.trans hF
        refine ab_iload C 2 rfl dX9_scattered_412 ?_
        obtain rfl := Option.some.inj hF
        exact ab_iret C R0 rfl dX9_scattered_414 ⟨rfl, rfl, hB0, hFr⟩
      · replace hF := (if_pos c98).symm.trans hF
        refine ab_iload C 1 rfl dX9_scattered_407 ?_
        refine ab_goto C 414 dX9_scattered_409 (by decide) ?_
        obtain rfl := Option.some.inj hF
        exact ab_iret C R0 rfl dX9_scattered_414 ⟨rfl, rfl, hB0, hFr⟩
    · replace hF := (if_pos c3).symm.trans hF
      refine ab_iconst (v := (-1 : Int32)) C dX9_scattered_18 (by decide) ?_
      obtain rfl := Option.some.inj hF
      exact ab_iret C R0 rfl dX9_scattered_19 ⟨rfl, rfl, hB0, hFr⟩
theorem dX9_doTalk_0 : decode cX9_doTalk 0 = .ok (.iload_n 1, 1) := by decide +kernel
theorem dX9_doTalk_1 : decode cX9_doTalk 1 = .ok (.iload_n 2, 1) := by decide +kernel
theorem dX9_doTalk_2 : decode cX9_doTalk 2 = .ok (.if_icmp .eq 31, 3) := by decide +kernel
theorem dX9_doTalk_5 : decode cX9_doTalk 5 = .ok (.aload_n 0, 1) := by decide +kernel
theorem dX9_doTalk_6 : decode cX9_doTalk 6 = .ok (.getfield 7, 3) := by decide +kernel
theorem dX9_doTalk_9 : decode cX9_doTalk 9 = .ok (.iload_n 1, 1) := by decide +kernel
theorem dX9_doTalk_10 : decode cX9_doTalk 10 = .ok (.invokestatic 149, 3) := by decide +kernel
theorem dX9_doTalk_13 : decode cX9_doTalk 13 = .ok (.aload_n 0, 1) := by decide +kernel
theorem dX9_doTalk_14 : decode cX9_doTalk 14 = .ok (.getfield 7, 3) := by decide +kernel
theorem dX9_doTalk_17 : decode cX9_doTalk 17 = .ok (.iload_n 2, 1) := by decide +kernel
theorem dX9_doTalk_18 : decode cX9_doTalk 18 = .ok (.invokestatic 149, 3) := by decide +kernel
theorem dX9_doTalk_21 : decode cX9_doTalk 21 = .ok (.iand, 1) := by decide +kernel
theorem dX9_doTalk_22 : decode cX9_doTalk 22 = .ok (.invokestatic 165, 3) := by decide +kernel
theorem dX9_doTalk_25 : decode cX9_doTalk 25 = .ok (.iload_n 3, 1) := by decide +kernel
theorem dX9_doTalk_26 : decode cX9_doTalk 26 = .ok (.if_icmp .lt 7, 3) := by decide +kernel
theorem dX9_doTalk_29 : decode cX9_doTalk 29 = .ok (.iconst 1, 1) := by decide +kernel
theorem dX9_doTalk_30 : decode cX9_doTalk 30 = .ok (.goto 4, 3) := by decide +kernel
theorem dX9_doTalk_33 : decode cX9_doTalk 33 = .ok (.iconst 0, 1) := by decide +kernel
theorem dX9_doTalk_34 : decode cX9_doTalk 34 = .ok (.ireturn, 1) := by decide +kernel
def X9_doTalk (S0 : Rec) (x1 : Int32) (x2 : Int32) (x3 : Int32) : Option (Int32) :=
  if x1 = x2 then
    some (0 : Int32)
  else
    (X9_says (S0.2.1 0) x1).bind fun v2 =>
    (X9_says (S0.2.1 0) x2).bind fun v3 =>
    (X9_bits (v2 &&& v3)).bind fun v4 =>
    if v4 < x3 then
      some (0 : Int32)
    else
      some (1 : Int32)
set_option maxRecDepth 100000 in
set_option maxHeartbeats 4000000 in
theorem X9_doTalk_ok (l : Launch) {h : aH} {nx : Nat} {a0 : Nat} {S0 : Rec} {x1 : Int32} {x2 : Int32} {x3 : Int32} (hB0 : X9_at h a0 S0) {r : Int32} (hF : X9_doTalk S0 x1 x2 x3 = some r) : aOk l 4 0 0 yX9_doTalk cX9_doTalk 4 (some .boolean) [.ref a0, .int x1, .int x2, .int x3] h nx (aRd (.int r) h nx) := by
  refine aOk.of (by decide +kernel) (Nat.le_of_ble_eq_true rfl) (fun X G hX C R0 _ => ?_)
  subst hX
  show aV X G 4 0 [(0, .ref a0), (1, .int x1), (2, .int x2), (3, .int x3)] [] h nx 0 0
  rw [X9_doTalk] at hF
  refine ab_iload_n C 1 rfl rfl dX9_doTalk_0 ?_
  refine ab_iload_n C 2 rfl rfl dX9_doTalk_1 ?_
  refine ab_icmp_eq C 33 dX9_doTalk_2 (by decide) (fun c1 => ?_) (fun c1 => ?_)
  · replace hF := (if_pos c1).symm.trans hF
    refine ab_iconst (v := (0 : Int32)) C dX9_doTalk_33 (by decide) ?_
    obtain rfl := Option.some.inj hF
    exact ab_iret C R0 rfl dX9_doTalk_34 ⟨rfl, rfl, rfl⟩
  · replace hF := (if_neg c1).symm.trans hF
    refine ab_aload_n C 0 rfl rfl dX9_doTalk_5 ?_
    refine ab_g9 (v := .ref (a0 + 1)) C lf_X9_7 hB0.1 rfl dX9_doTalk_6 ?_
    refine ab_iload_n C 1 rfl rfl dX9_doTalk_9 ?_
    obtain ⟨v2, hxv2, hF⟩ := Option.bind_eq_some_iff.mp hF
    refine ab_cSR (v := .int v2) (st := []) C lm_X9_149 (X9_says_ok (xl X) (X9_r0 hB0) (r := v2) hxv2) rfl rfl (by decide) ⟨Nat.zero_le _, Nat.zero_le _⟩ (Nat.le_of_ble_eq_true rfl) dX9_doTalk_10 ?_
    refine ab_aload_n C 0 rfl rfl dX9_doTalk_13 ?_
    refine ab_g9 (v := .ref (a0 + 1)) C lf_X9_7 hB0.1 rfl dX9_doTalk_14 ?_
    refine ab_iload_n C 2 rfl rfl dX9_doTalk_17 ?_
    obtain ⟨v3, hxv3, hF⟩ := Option.bind_eq_some_iff.mp hF
    refine ab_cSR (v := .int v3) (st := [.int v2]) C lm_X9_149 (X9_says_ok (xl X) (X9_r0 hB0) (r := v3) hxv3) rfl rfl (by decide) ⟨Nat.zero_le _, Nat.zero_le _⟩ (Nat.le_of_ble_eq_true rfl) dX9_doTalk_18 ?_
    refine ab_iand C dX9_doTalk_21 ?_
    obtain ⟨v4, hxv4, hF⟩ := Option.bind_eq_some_iff.mp hF
    refine ab_cSR (v := .int v4) (st := []) C lm_X9_165 (X9_bits_ok (xl X) (r := v4) hxv4) rfl rfl (by decide) ⟨Nat.zero_le _, Nat.zero_le _⟩ (Nat.le_of_ble_eq_true rfl) dX9_doTalk_22 ?_
    refine ab_iload_n C 3 rfl rfl dX9_doTalk_25 ?_
    refine ab_icmp_lt C 33 dX9_doTalk_26 (by decide) (fun c5 => ?_) (fun c5 => ?_)
    · replace hF := (if_pos c5).symm.trans hF
      refine ab_iconst (v := (0 : Int32)) C dX9_doTalk_33 (by decide) ?_
      obtain rfl := Option.some.inj hF
      exact ab_iret C R0 rfl dX9_doTalk_34 ⟨rfl, rfl, rfl⟩
    · replace hF := (if_neg c5).symm.trans hF
      refine ab_iconst (v := (1 : Int32)) C dX9_doTalk_29 (by decide) ?_
      refine ab_goto C 34 dX9_doTalk_30 (by decide) ?_
      obtain rfl := Option.some.inj hF
      exact ab_iret C R0 rfl dX9_doTalk_34 ⟨rfl, rfl, rfl⟩
theorem dX9_talk_0 : decode cX9_talk 0 = .ok (.aload_n 0, 1) := by decide +kernel
theorem dX9_talk_1 : decode cX9_talk 1 = .ok (.iload_n 1, 1) := by decide +kernel
theorem dX9_talk_2 : decode cX9_talk 2 = .ok (.invokevirtual 153, 3) := by decide +kernel
theorem dX9_talk_5 : decode cX9_talk 5 = .ok (.ifCond .eq 15, 3) := by decide +kernel
theorem dX9_talk_8 : decode cX9_talk 8 = .ok (.iload_n 2, 1) := by decide +kernel
theorem dX9_talk_9 : decode cX9_talk 9 = .ok (.i2l, 1) := by decide +kernel
theorem dX9_talk_10 : decode cX9_talk 10 = .ok (.lconst 1, 1) := by decide +kernel
theorem dX9_talk_11 : decode cX9_talk 11 = .ok (.ldc2_w 157, 3) := by decide +kernel
theorem dX9_talk_14 : decode cX9_talk 14 = .ok (.invokestatic 69, 3) := by decide +kernel
theorem dX9_talk_17 : decode cX9_talk 17 = .ok (.ifCond .ne 5, 3) := by decide +kernel
theorem dX9_talk_20 : decode cX9_talk 20 = .ok (.iconst (-1), 1) := by decide +kernel
theorem dX9_talk_21 : decode cX9_talk 21 = .ok (.ireturn, 1) := by decide +kernel
theorem dX9_talk_22 : decode cX9_talk 22 = .ok (.iconst 0, 1) := by decide +kernel
theorem dX9_talk_23 : decode cX9_talk 23 = .ok (.istore_n 3, 1) := by decide +kernel
theorem dX9_talk_24 : decode cX9_talk 24 = .ok (.iconst 0, 1) := by decide +kernel
theorem dX9_talk_25 : decode cX9_talk 25 = .ok (.istore 4, 2) := by decide +kernel
theorem dX9_talk_27 : decode cX9_talk 27 = .ok (.iload 4, 2) := by decide +kernel
theorem dX9_talk_29 : decode cX9_talk 29 = .ok (.aload_n 0, 1) := by decide +kernel
theorem dX9_talk_30 : decode cX9_talk 30 = .ok (.getfield 7, 3) := by decide +kernel
theorem dX9_talk_33 : decode cX9_talk 33 = .ok (.iconst 0, 1) := by decide +kernel
theorem dX9_talk_34 : decode cX9_talk 34 = .ok (.iaload, 1) := by decide +kernel
theorem dX9_talk_35 : decode cX9_talk 35 = .ok (.if_icmp .ge 31, 3) := by decide +kernel
theorem dX9_talk_38 : decode cX9_talk 38 = .ok (.iload_n 3, 1) := by decide +kernel
theorem dX9_talk_39 : decode cX9_talk 39 = .ok (.aload_n 0, 1) := by decide +kernel
theorem dX9_talk_40 : decode cX9_talk 40 = .ok (.iload_n 1, 1) := by decide +kernel
theorem dX9_talk_41 : decode cX9_talk 41 = .ok (.iload 4, 2) := by decide +kernel
theorem dX9_talk_43 : decode cX9_talk 43 = .ok (.iload_n 2, 1) := by decide +kernel
theorem dX9_talk_44 : decode cX9_talk 44 = .ok (.invokevirtual 222, 3) := by decide +kernel
theorem dX9_talk_47 : decode cX9_talk 47 = .ok (.ifCond .eq 10, 3) := by decide +kernel
theorem dX9_talk_50 : decode cX9_talk 50 = .ok (.iconst 1, 1) := by decide +kernel
theorem dX9_talk_51 : decode cX9_talk 51 = .ok (.iload 4, 2) := by decide +kernel
theorem dX9_talk_53 : decode cX9_talk 53 = .ok (.ishl, 1) := by decide +kernel
theorem dX9_talk_54 : decode cX9_talk 54 = .ok (.goto 4, 3) := by decide +kernel
theorem dX9_talk_57 : decode cX9_talk 57 = .ok (.iconst 0, 1) := by decide +kernel
theorem dX9_talk_58 : decode cX9_talk 58 = .ok (.ior, 1) := by decide +kernel
theorem dX9_talk_59 : decode cX9_talk 59 = .ok (.istore_n 3, 1) := by decide +kernel
theorem dX9_talk_60 : decode cX9_talk 60 = .ok (.iinc 4 1, 3) := by decide +kernel
theorem dX9_talk_63 : decode cX9_talk 63 = .ok (.goto (-36), 3) := by decide +kernel
theorem dX9_talk_66 : decode cX9_talk 66 = .ok (.iload_n 3, 1) := by decide +kernel
theorem dX9_talk_67 : decode cX9_talk 67 = .ok (.ireturn, 1) := by decide +kernel
def X9_talk_L27 (S0 : Rec) (x1 : Int32) (x2 : Int32) : Nat → Int32 → Int32 → Option (Int32)
  | 0, _, _ => none
  | n27 + 1, v4, v5 => (rdI (S0.2.1 0) 96 (0 : Int32)).bind fun v6 =>
    if v6 ≤ v5 then
      some v4
    else
      (X9_doTalk S0 x1 v5 x2).bind fun v8 =>
      if v8 = 0 then
        aLet (v4 ||| (0 : Int32)) fun v10 =>
        aLet (v5 + (1 : Int32)) fun v11 =>
        X9_talk_L27 S0 x1 x2 n27 v10 v11
      else
        aLet (v4 ||| ((1 : Int32) <<< (v5 &&& 31))) fun v12 =>
        aLet (v5 + (1 : Int32)) fun v13 =>
        X9_talk_L27 S0 x1 x2 n27 v12 v13
def X9_talk (S0 : Rec) (x1 : Int32) (x2 : Int32) : Option (Int32) :=
  (X9_isHolder S0 x1).bind fun v1 =>
  if v1 = 0 then
    some (-1 : Int32)
  else
    if (X9_in (x2.toInt64) (1 : Int64) (5 : Int64)) = 0 then
      some (-1 : Int32)
    else
      (X9_talk_L27 S0 x1 x2 aFu (0 : Int32) (0 : Int32)).bind fun e14 =>
      some e14
set_option maxRecDepth 100000 in
set_option maxHeartbeats 4000000 in
theorem X9_talk_ok (l : Launch) {h : aH} {nx : Nat} {a0 : Nat} {S0 : Rec} {x1 : Int32} {x2 : Int32} (hB0 : X9_at h a0 S0) {r : Int32} (hF : X9_talk S0 x1 x2 = some r) : aOk l 5 0 0 yX9_talk cX9_talk 5 (some .int) [.ref a0, .int x1, .int x2] h nx (aRd (.int r) h nx) := by
  refine aOk.of (by decide +kernel) (Nat.le_of_ble_eq_true rfl) (fun X G hX C R0 _ => ?_)
  subst hX
  show aV X G 5 0 [(0, .ref a0), (1, .int x1), (2, .int x2)] [] h nx 0 0
  rw [X9_talk] at hF
  refine ab_aload_n C 0 rfl rfl dX9_talk_0 ?_
  refine ab_iload_n C 1 rfl rfl dX9_talk_1 ?_
  obtain ⟨v1, hxv1, hF⟩ := Option.bind_eq_some_iff.mp hF
  refine ab_cVR (v := .int v1) (st := []) C lm_X9_153 (X9_isHolder_ok (xl X) hB0 (r := v1) hxv1) [.int x1] rfl hB0.1 rfl rfl rfl (by decide) ⟨Nat.zero_le _, Nat.zero_le _⟩ (Nat.le_of_ble_eq_true rfl) dX9_talk_2 ?_
  refine ab_if_eq C 20 dX9_talk_5 (by decide) (fun c2 => ?_) (fun c2 => ?_)
  · replace hF := (if_pos c2).symm.trans hF
    refine ab_iconst (v := (-1 : Int32)) C dX9_talk_20 (by decide) ?_
    obtain rfl := Option.some.inj hF
    exact ab_iret C R0 rfl dX9_talk_21 ⟨rfl, rfl, rfl⟩
  · replace hF := (if_neg c2).symm.trans hF
    refine ab_iload_n C 2 rfl rfl dX9_talk_8 ?_
    refine ab_i2l C dX9_talk_9 ?_
    refine ab_lconst (v := (1 : Int64)) C dX9_talk_10 (by decide) ?_
    refine ab_ldc2 (v := (5 : Int64)) C dX9_talk_11 lq_X9_157 ?_
    refine ab_cSR (v := .int (X9_in (x2.toInt64) (1 : Int64) (5 : Int64))) (st := []) C lm_X9_69 (X9_in_ok (xl X) (r := (X9_in (x2.toInt64) (1 : Int64) (5 : Int64))) rfl) rfl rfl (by decide) ⟨Nat.zero_le _, Nat.zero_le _⟩ (Nat.le_of_ble_eq_true rfl) dX9_talk_14 ?_
    refine ab_if_ne C 22 dX9_talk_17 (by decide) (fun c3 => ?_) (fun c3 => ?_)
    · replace hF := (if_neg c3).symm.trans hF
      refine ab_iconst (v := (0 : Int32)) C dX9_talk_22 (by decide) ?_
      refine ab_istore_n (lv' := [(3, .int (0 : Int32)), (0, .ref a0), (1, .int x1), (2, .int x2)]) C dX9_talk_23 rfl (by decide) rfl ?_
      refine ab_iconst (v := (0 : Int32)) C dX9_talk_24 (by decide) ?_
      refine ab_istore (lv' := [(4, .int (0 : Int32)), (3, .int (0 : Int32)), (0, .ref a0), (1, .int x1), (2, .int x2)]) C dX9_talk_25 (by decide) rfl ?_
      have L27 : ∀ (n27 : Nat) (v4 : Int32) (v5 : Int32), ∀ (res27 : Int32), X9_talk_L27 S0 x1 x2 n27 v4 v5 = some res27 → (aV X G 5 66 [(3, .int res27)] [] h nx 0 0) → aV X G 5 27 [(0, .ref a0), (1, .int x1), (2, .int x2), (3, .int v4), (4, .int v5)] [] h nx 0 0 := by
        intro n27
        induction n27 with
        | zero => intro v4 v5 res27 hF KX27; cases (show (none : Option (Int32)) = some res27 from hF)
        | succ n27 ih27 =>
          intro v4 v5 res27 hF KX27
          rw [X9_talk_L27] at hF
          refine ab_iload C 4 rfl dX9_talk_27 ?_
          refine ab_aload_n C 0 rfl rfl dX9_talk_29 ?_
          refine ab_g9 (v := .ref (a0 + 1)) C lf_X9_7 hB0.1 rfl dX9_talk_30 ?_
          refine ab_iconst (v := (0 : Int32)) C dX9_talk_33 (by decide) ?_
          obtain ⟨v6, hxv6, hF⟩ := Option.bind_eq_some_iff.mp hF
          refine ab_iald C (X9_r0 hB0) hxv6 dX9_talk_34 ?_
          refine ab_icmp_ge C 66 dX9_talk_35 (by decide) (fun c7 => ?_) (fun c7 => ?_)
          · replace hF := (if_pos c7).symm.trans hF
            obtain rfl := Option.some.inj hF
            refine aV.sub (lv' := [(3, .int v4)]) [3] rfl ?_
            exact KX27
          · replace hF := (if_neg c7).symm.trans hF
            refine ab_iload_n C 3 rfl rfl dX9_talk_38 ?_
            refine ab_aload_n C 0 rfl rfl dX9_talk_39 ?_
            refine ab_iload_n C 1 rfl rfl dX9_talk_40 ?_
            refine ab_iload C 4 rfl dX9_talk_41 ?_
            refine ab_iload_n C 2 rfl rfl dX9_talk_43 ?_
            obtain ⟨v8, hxv8, hF⟩ := Option.bind_eq_some_iff.mp hF
            refine ab_cVR (v := .int v8) (st := [.int v4]) C lm_X9_222 (X9_doTalk_ok (xl X) hB0 (r := v8) hxv8) [.int x1, .int v5, .int x2] rfl hB0.1 rfl rfl rfl (by decide) ⟨Nat.zero_le _, Nat.zero_le _⟩ (Nat.le_of_ble_eq_true rfl) dX9_talk_44 ?_
            refine ab_if_eq C 57 dX9_talk_47 (by decide) (fun c9 => ?_) (fun c9 => ?_)
            · replace hF := (if_pos c9).symm.trans hF
              refine ab_iconst (v := (0 : Int32)) C dX9_talk_57 (by decide) ?_
              refine ab_ior C dX9_talk_58 ?_
              refine ab_topi (fun v10 qv10 => ?_)
              replace hF := aLet_e hF v10 qv10
              refine ab_istore_n (lv' := [(3, .int v10), (0, .ref a0), (1, .int x1), (2, .int x2), (4, .int v5)]) C dX9_talk_59 rfl (by decide) rfl ?_
              obtain ⟨v11, qv11⟩ : ∃ y : Int32, y = (v5 + (1 : Int32)) := ⟨_, rfl⟩
              replace hF := aLet_e hF v11 qv11
              refine ab_iinc (lv' := [(4, .int v11), (3, .int v10), (0, .ref a0), (1, .int x1), (2, .int x2)]) C 4 rfl dX9_talk_60 (by rw [qv11]; rfl) (by decide) rfl ?_
              refine ab_goto C 27 dX9_talk_63 (by decide) ?_
              refine aV.sub (lv' := [(0, .ref a0), (1, .int x1), (2, .int x2), (3, .int v10), (4, .int v11)]) [2, 3, 4, 1, 0] rfl ?_
              exact ih27 v10 v11 res27 hF KX27
            · replace hF := (if_neg c9).symm.trans hF
              refine ab_iconst (v := (1 : Int32)) C dX9_talk_50 (by decide) ?_
              refine ab_iload C 4 rfl dX9_talk_51 ?_
              refine ab_ishl C dX9_talk_53 ?_
              refine ab_goto C 58 dX9_talk_54 (by decide) ?_
              refine ab_ior C dX9_talk_58 ?_
              refine ab_topi (fun v12 qv12 => ?_)
              replace hF := aLet_e hF v12 qv12
              refine ab_istore_n (lv' := [(3, .int v12), (0, .ref a0), (1, .int x1), (2, .int x2), (4, .int v5)]) C dX9_talk_59 rfl (by decide) rfl ?_
              obtain ⟨v13, qv13⟩ : ∃ y : Int32, y = (v5 + (1 : Int32)) := ⟨_, rfl⟩
              replace hF := aLet_e hF v13 qv13
              refine ab_iinc (lv' := [(4, .int v13), (3, .int v12), (0, .ref a0), (1, .int x1), (2, .int x2)]) C 4 rfl dX9_talk_60 (by rw [qv13]; rfl) (by decide) rfl ?_
              refine ab_goto C 27 dX9_talk_63 (by decide) ?_
              refine aV.sub (lv' := [(0, .ref a0), (1, .int x1), (2, .int x2), (3, .int v12), (4, .int v13)]) [2, 3, 4, 1, 0] rfl ?_
              exact ih27 v12 v13 res27 hF KX27
      refine aV.sub (lv' := [(0, .ref a0), (1, .int x1), (2, .int x2), (3, .int (0 : Int32)), (4, .int (0 : Int32))]) [2, 3, 4, 1, 0] rfl ?_
      obtain ⟨e14, he14, hF⟩ := Option.bind_eq_some_iff.mp hF
      refine L27 aFu (0 : Int32) (0 : Int32) e14 he14 ?_
      refine ab_iload_n C 0 rfl rfl dX9_talk_66 ?_
      obtain rfl := Option.some.inj hF
      exact ab_iret C R0 rfl dX9_talk_67 ⟨rfl, rfl, rfl⟩
    · replace hF := (if_pos c3).symm.trans hF
      refine ab_iconst (v := (-1 : Int32)) C dX9_talk_20 (by decide) ?_
      obtain rfl := Option.some.inj hF
      exact ab_iret C R0 rfl dX9_talk_21 ⟨rfl, rfl, rfl⟩
theorem dX9_lowest_0 : decode cX9_lowest 0 = .ok (.iconst 0, 1) := by decide +kernel
theorem dX9_lowest_1 : decode cX9_lowest 1 = .ok (.istore_n 1, 1) := by decide +kernel
theorem dX9_lowest_2 : decode cX9_lowest 2 = .ok (.iload_n 0, 1) := by decide +kernel
theorem dX9_lowest_3 : decode cX9_lowest 3 = .ok (.iload_n 1, 1) := by decide +kernel
theorem dX9_lowest_4 : decode cX9_lowest 4 = .ok (.invokestatic 226, 3) := by decide +kernel
theorem dX9_lowest_7 : decode cX9_lowest 7 = .ok (.ifCond .ne 9, 3) := by decide +kernel
theorem dX9_lowest_10 : decode cX9_lowest 10 = .ok (.iinc 1 1, 3) := by decide +kernel
theorem dX9_lowest_13 : decode cX9_lowest 13 = .ok (.goto (-11), 3) := by decide +kernel
theorem dX9_lowest_16 : decode cX9_lowest 16 = .ok (.iload_n 1, 1) := by decide +kernel
theorem dX9_lowest_17 : decode cX9_lowest 17 = .ok (.ireturn, 1) := by decide +kernel
def X9_lowest_L2 (x0 : Int32) : Nat → Int32 → Option (Int32)
  | 0, _ => none
  | n2 + 1, v1 => if (X9_has x0 v1) = 0 then
      aLet (v1 + (1 : Int32)) fun v3 =>
      X9_lowest_L2 x0 n2 v3
    else
      some v1
def X9_lowest (x0 : Int32) : Option (Int32) :=
  (X9_lowest_L2 x0 aFu (0 : Int32)).bind fun e4 =>
  some e4
set_option maxRecDepth 100000 in
set_option maxHeartbeats 4000000 in
theorem X9_lowest_ok (l : Launch) {h : aH} {nx : Nat} {x0 : Int32} {r : Int32} (hF : X9_lowest x0 = some r) : aOk l 1 0 0 yX9_lowest cX9_lowest 2 (some .int) [.int x0] h nx (aRd (.int r) h nx) := by
  refine aOk.of (by decide +kernel) (Nat.le_of_ble_eq_true rfl) (fun X G hX C R0 _ => ?_)
  subst hX
  show aV X G 2 0 [(0, .int x0)] [] h nx 0 0
  rw [X9_lowest] at hF
  refine ab_iconst (v := (0 : Int32)) C dX9_lowest_0 (by decide) ?_
  refine ab_istore_n (lv' := [(1, .int (0 : Int32)), (0, .int x0)]) C dX9_lowest_1 rfl (by decide) rfl ?_
  have L2 : ∀ (n2 : Nat) (v1 : Int32), ∀ (res2 : Int32), X9_lowest_L2 x0 n2 v1 = some res2 → (aV X G 2 16 [(1, .int res2)] [] h nx 0 0) → aV X G 2 2 [(0, .int x0), (1, .int v1)] [] h nx 0 0 := by
    intro n2
    induction n2 with
    | zero => intro v1 res2 hF KX2; cases (show (none : Option (Int32)) = some res2 from hF)
    | succ n2 ih2 =>
      intro v1 res2 hF KX2
      rw [X9_lowest_L2] at hF
      refine ab_iload_n C 0 rfl rfl dX9_lowest_2 ?_
      refine ab_iload_n C 1 rfl rfl dX9_lowest_3 ?_
      refine ab_cSR (v := .int (X9_has x0 v1)) (st := []) C lm_X9_226 (X9_has_ok (xl X) (r := (X9_has x0 v1)) rfl) rfl rfl (by decide) ⟨Nat.zero_le _, Nat.zero_le _⟩ (Nat.le_of_ble_eq_true rfl) dX9_lowest_4 ?_
      refine ab_if_ne C 16 dX9_lowest_7 (by decide) (fun c2 => ?_) (fun c2 => ?_)
      · replace hF := (if_neg c2).symm.trans hF
        obtain rfl := Option.some.inj hF
        refine aV.sub (lv' := [(1, .int v1)]) [1] rfl ?_
        exact KX2
      · replace hF := (if_pos c2).symm.trans hF
        obtain ⟨v3, qv3⟩ : ∃ y : Int32, y = (v1 + (1 : Int32)) := ⟨_, rfl⟩
        replace hF := aLet_e hF v3 qv3
        refine ab_iinc (lv' := [(1, .int v3), (0, .int x0)]) C 1 rfl dX9_lowest_10 (by rw [qv3]; rfl) (by decide) rfl ?_
        refine ab_goto C 2 dX9_lowest_13 (by decide) ?_
        refine aV.sub (lv' := [(0, .int x0), (1, .int v3)]) [1, 0] rfl ?_
        exact ih2 v3 res2 hF KX2
  refine aV.sub (lv' := [(0, .int x0), (1, .int (0 : Int32))]) [1, 0] rfl ?_
  obtain ⟨e4, he4, hF⟩ := Option.bind_eq_some_iff.mp hF
  refine L2 aFu (0 : Int32) e4 he4 ?_
  refine ab_iload_n C 0 rfl rfl dX9_lowest_16 ?_
  obtain rfl := Option.some.inj hF
  exact ab_iret C R0 rfl dX9_lowest_17 ⟨rfl, rfl, rfl⟩
theorem dX9_marry_0 : decode cX9_marry 0 = .ok (.iload_n 2, 1) := by decide +kernel
theorem dX9_marry_1 : decode cX9_marry 1 = .ok (.i2l, 1) := by decide +kernel
theorem dX9_marry_2 : decode cX9_marry 2 = .ok (.lconst 1, 1) := by decide +kernel
theorem dX9_marry_3 : decode cX9_marry 3 = .ok (.ldc2_w 157, 3) := by decide +kernel
theorem dX9_marry_6 : decode cX9_marry 6 = .ok (.invokestatic 69, 3) := by decide +kernel
theorem dX9_marry_9 : decode cX9_marry 9 = .ok (.ifCond .eq 17, 3) := by decide +kernel
theorem dX9_marry_12 : decode cX9_marry 12 = .ok (.iload_n 1, 1) := by decide +kernel
theorem dX9_marry_13 : decode cX9_marry 13 = .ok (.bipush (-4), 2) := by decide +kernel
theorem dX9_marry_15 : decode cX9_marry 15 = .ok (.if_icmp .eq 13, 3) := by decide +kernel
theorem dX9_marry_18 : decode cX9_marry 18 = .ok (.aload_n 0, 1) := by decide +kernel
theorem dX9_marry_19 : decode cX9_marry 19 = .ok (.iload_n 1, 1) := by decide +kernel
theorem dX9_marry_20 : decode cX9_marry 20 = .ok (.invokevirtual 153, 3) := by decide +kernel
theorem dX9_marry_23 : decode cX9_marry 23 = .ok (.ifCond .ne 5, 3) := by decide +kernel
theorem dX9_marry_26 : decode cX9_marry 26 = .ok (.iconst (-1), 1) := by decide +kernel
theorem dX9_marry_27 : decode cX9_marry 27 = .ok (.ireturn, 1) := by decide +kernel
theorem dX9_marry_28 : decode cX9_marry 28 = .ok (.aload_n 0, 1) := by decide +kernel
theorem dX9_marry_29 : decode cX9_marry 29 = .ok (.invokevirtual 185, 3) := by decide +kernel
theorem dX9_marry_32 : decode cX9_marry 32 = .ok (.ifCond .ne 6, 3) := by decide +kernel
theorem dX9_marry_35 : decode cX9_marry 35 = .ok (.bipush (-2), 2) := by decide +kernel
theorem dX9_marry_37 : decode cX9_marry 37 = .ok (.ireturn, 1) := by decide +kernel
theorem dX9_marry_38 : decode cX9_marry 38 = .ok (.iconst 0, 1) := by decide +kernel
theorem dX9_marry_39 : decode cX9_marry 39 = .ok (.istore_n 3, 1) := by decide +kernel
theorem dX9_marry_40 : decode cX9_marry 40 = .ok (.iload_n 3, 1) := by decide +kernel
theorem dX9_marry_41 : decode cX9_marry 41 = .ok (.aload_n 0, 1) := by decide +kernel
theorem dX9_marry_42 : decode cX9_marry 42 = .ok (.getfield 7, 3) := by decide +kernel
theorem dX9_marry_45 : decode cX9_marry 45 = .ok (.iconst 0, 1) := by decide +kernel
theorem dX9_marry_46 : decode cX9_marry 46 = .ok (.iaload, 1) := by decide +kernel
theorem dX9_marry_47 : decode cX9_marry 47 = .ok (.if_icmp .ge 72, 3) := by decide +kernel
theorem dX9_marry_50 : decode cX9_marry 50 = .ok (.aload_n 0, 1) := by decide +kernel
theorem dX9_marry_51 : decode cX9_marry 51 = .ok (.getfield 41, 3) := by decide +kernel
theorem dX9_marry_54 : decode cX9_marry 54 = .ok (.iload_n 3, 1) := by decide +kernel
theorem dX9_marry_55 : decode cX9_marry 55 = .ok (.iconst 0, 1) := by decide +kernel
theorem dX9_marry_56 : decode cX9_marry 56 = .ok (.iastore, 1) := by decide +kernel
theorem dX9_marry_57 : decode cX9_marry 57 = .ok (.aload_n 0, 1) := by decide +kernel
theorem dX9_marry_58 : decode cX9_marry 58 = .ok (.getfield 47, 3) := by decide +kernel
theorem dX9_marry_61 : decode cX9_marry 61 = .ok (.iload_n 3, 1) := by decide +kernel
theorem dX9_marry_62 : decode cX9_marry 62 = .ok (.bipush (-4), 2) := by decide +kernel
theorem dX9_marry_64 : decode cX9_marry 64 = .ok (.iastore, 1) := by decide +kernel
theorem dX9_marry_65 : decode cX9_marry 65 = .ok (.iconst 0, 1) := by decide +kernel
theorem dX9_marry_66 : decode cX9_marry 66 = .ok (.istore 4, 2) := by decide +kernel
theorem dX9_marry_68 : decode cX9_marry 68 = .ok (.iload 4, 2) := by decide +kernel
theorem dX9_marry_70 : decode cX9_marry 70 = .ok (.aload_n 0, 1) := by decide +kernel
theorem dX9_marry_71 : decode cX9_marry 71 = .ok (.getfield 7, 3) := by decide +kernel
theorem dX9_marry_74 : decode cX9_marry 74 = .ok (.iconst 0, 1) := by decide +kernel
theorem dX9_marry_75 : decode cX9_marry 75 = .ok (.iaload, 1) := by decide +kernel
theorem dX9_marry_76 : decode cX9_marry 76 = .ok (.if_icmp .ge 37, 3) := by decide +kernel
theorem dX9_marry_79 : decode cX9_marry 79 = .ok (.aload_n 0, 1) := by decide +kernel
theorem dX9_marry_80 : decode cX9_marry 80 = .ok (.getfield 41, 3) := by decide +kernel
theorem dX9_marry_83 : decode cX9_marry 83 = .ok (.iload_n 3, 1) := by decide +kernel
theorem dX9_marry_84 : decode cX9_marry 84 = .ok (.dup2, 1) := by decide +kernel
theorem dX9_marry_85 : decode cX9_marry 85 = .ok (.iaload, 1) := by decide +kernel
theorem dX9_marry_86 : decode cX9_marry 86 = .ok (.aload_n 0, 1) := by decide +kernel
theorem dX9_marry_87 : decode cX9_marry 87 = .ok (.iload_n 3, 1) := by decide +kernel
theorem dX9_marry_88 : decode cX9_marry 88 = .ok (.iload 4, 2) := by decide +kernel
theorem dX9_marry_90 : decode cX9_marry 90 = .ok (.iload_n 2, 1) := by decide +kernel
theorem dX9_marry_91 : decode cX9_marry 91 = .ok (.invokevirtual 222, 3) := by decide +kernel
theorem dX9_marry_94 : decode cX9_marry 94 = .ok (.ifCond .eq 10, 3) := by decide +kernel
theorem dX9_marry_97 : decode cX9_marry 97 = .ok (.iconst 1, 1) := by decide +kernel
theorem dX9_marry_98 : decode cX9_marry 98 = .ok (.iload 4, 2) := by decide +kernel
theorem dX9_marry_100 : decode cX9_marry 100 = .ok (.ishl, 1) := by decide +kernel
theorem dX9_marry_101 : decode cX9_marry 101 = .ok (.goto 4, 3) := by decide +kernel
theorem dX9_marry_104 : decode cX9_marry 104 = .ok (.iconst 0, 1) := by decide +kernel
theorem dX9_marry_105 : decode cX9_marry 105 = .ok (.ior, 1) := by decide +kernel
theorem dX9_marry_106 : decode cX9_marry 106 = .ok (.iastore, 1) := by decide +kernel
theorem dX9_marry_107 : decode cX9_marry 107 = .ok (.iinc 4 1, 3) := by decide +kernel
theorem dX9_marry_110 : decode cX9_marry 110 = .ok (.goto (-42), 3) := by decide +kernel
theorem dX9_marry_113 : decode cX9_marry 113 = .ok (.iinc 3 1, 3) := by decide +kernel
theorem dX9_marry_116 : decode cX9_marry 116 = .ok (.goto (-76), 3) := by decide +kernel
theorem dX9_marry_119 : decode cX9_marry 119 = .ok (.aload_n 0, 1) := by decide +kernel
theorem dX9_marry_120 : decode cX9_marry 120 = .ok (.getfield 44, 3) := by decide +kernel
theorem dX9_marry_123 : decode cX9_marry 123 = .ok (.iconst 0, 1) := by decide +kernel
theorem dX9_marry_124 : decode cX9_marry 124 = .ok (.iconst 0, 1) := by decide +kernel
theorem dX9_marry_125 : decode cX9_marry 125 = .ok (.iastore, 1) := by decide +kernel
theorem dX9_marry_126 : decode cX9_marry 126 = .ok (.iconst 1, 1) := by decide +kernel
theorem dX9_marry_127 : decode cX9_marry 127 = .ok (.aload_n 0, 1) := by decide +kernel
theorem dX9_marry_128 : decode cX9_marry 128 = .ok (.getfield 7, 3) := by decide +kernel
theorem dX9_marry_131 : decode cX9_marry 131 = .ok (.iconst 0, 1) := by decide +kernel
theorem dX9_marry_132 : decode cX9_marry 132 = .ok (.iaload, 1) := by decide +kernel
theorem dX9_marry_133 : decode cX9_marry 133 = .ok (.ishl, 1) := by decide +kernel
theorem dX9_marry_134 : decode cX9_marry 134 = .ok (.iconst 1, 1) := by decide +kernel
theorem dX9_marry_135 : decode cX9_marry 135 = .ok (.isub, 1) := by decide +kernel
theorem dX9_marry_136 : decode cX9_marry 136 = .ok (.istore_n 3, 1) := by decide +kernel
theorem dX9_marry_137 : decode cX9_marry 137 = .ok (.iconst 1, 1) := by decide +kernel
theorem dX9_marry_138 : decode cX9_marry 138 = .ok (.istore 4, 2) := by decide +kernel
theorem dX9_marry_140 : decode cX9_marry 140 = .ok (.iload 4, 2) := by decide +kernel
theorem dX9_marry_142 : decode cX9_marry 142 = .ok (.iload_n 3, 1) := by decide +kernel
theorem dX9_marry_143 : decode cX9_marry 143 = .ok (.if_icmp .gt 143, 3) := by decide +kernel
theorem dX9_marry_146 : decode cX9_marry 146 = .ok (.iload 4, 2) := by decide +kernel
theorem dX9_marry_148 : decode cX9_marry 148 = .ok (.invokestatic 229, 3) := by decide +kernel
theorem dX9_marry_151 : decode cX9_marry 151 = .ok (.istore 5, 2) := by decide +kernel
theorem dX9_marry_153 : decode cX9_marry 153 = .ok (.aload_n 0, 1) := by decide +kernel
theorem dX9_marry_154 : decode cX9_marry 154 = .ok (.getfield 44, 3) := by decide +kernel
theorem dX9_marry_157 : decode cX9_marry 157 = .ok (.iload 4, 2) := by decide +kernel
theorem dX9_marry_159 : decode cX9_marry 159 = .ok (.aload_n 0, 1) := by decide +kernel
theorem dX9_marry_160 : decode cX9_marry 160 = .ok (.getfield 44, 3) := by decide +kernel
theorem dX9_marry_163 : decode cX9_marry 163 = .ok (.iload 4, 2) := by decide +kernel
theorem dX9_marry_165 : decode cX9_marry 165 = .ok (.iconst 1, 1) := by decide +kernel
theorem dX9_marry_166 : decode cX9_marry 166 = .ok (.iload 5, 2) := by decide +kernel
theorem dX9_marry_168 : decode cX9_marry 168 = .ok (.ishl, 1) := by decide +kernel
theorem dX9_marry_169 : decode cX9_marry 169 = .ok (.iconst (-1), 1) := by decide +kernel
theorem dX9_marry_170 : decode cX9_marry 170 = .ok (.ixor, 1) := by decide +kernel
theorem dX9_marry_171 : decode cX9_marry 171 = .ok (.iand, 1) := by decide +kernel
theorem dX9_marry_172 : decode cX9_marry 172 = .ok (.iaload, 1) := by decide +kernel
theorem dX9_marry_173 : decode cX9_marry 173 = .ok (.iastore, 1) := by decide +kernel
theorem dX9_marry_174 : decode cX9_marry 174 = .ok (.iload 5, 2) := by decide +kernel
theorem dX9_marry_176 : decode cX9_marry 176 = .ok (.iconst 1, 1) := by decide +kernel
theorem dX9_marry_177 : decode cX9_marry 177 = .ok (.iadd, 1) := by decide +kernel
theorem dX9_marry_178 : decode cX9_marry 178 = .ok (.istore 6, 2) := by decide +kernel
theorem dX9_marry_180 : decode cX9_marry 180 = .ok (.iload 6, 2) := by decide +kernel
theorem dX9_marry_182 : decode cX9_marry 182 = .ok (.aload_n 0, 1) := by decide +kernel
theorem dX9_marry_183 : decode cX9_marry 183 = .ok (.getfield 7, 3) := by decide +kernel
theorem dX9_marry_186 : decode cX9_marry 186 = .ok (.iconst 0, 1) := by decide +kernel
theorem dX9_marry_187 : decode cX9_marry 187 = .ok (.iaload, 1) := by decide +kernel
theorem dX9_marry_188 : decode cX9_marry 188 = .ok (.if_icmp .ge 92, 3) := by decide +kernel
theorem dX9_marry_191 : decode cX9_marry 191 = .ok (.iload 4, 2) := by decide +kernel
theorem dX9_marry_193 : decode cX9_marry 193 = .ok (.iload 6, 2) := by decide +kernel
theorem dX9_marry_195 : decode cX9_marry 195 = .ok (.invokestatic 226, 3) := by decide +kernel
theorem dX9_marry_198 : decode cX9_marry 198 = .ok (.ifCond .eq 42, 3) := by decide +kernel
theorem dX9_marry_201 : decode cX9_marry 201 = .ok (.aload_n 0, 1) := by decide +kernel
theorem dX9_marry_202 : decode cX9_marry 202 = .ok (.getfield 41, 3) := by decide +kernel
theorem dX9_marry_205 : decode cX9_marry 205 = .ok (.iload 5, 2) := by decide +kernel
theorem dX9_marry_207 : decode cX9_marry 207 = .ok (.iaload, 1) := by decide +kernel
theorem dX9_marry_208 : decode cX9_marry 208 = .ok (.iload 6, 2) := by decide +kernel
theorem dX9_marry_210 : decode cX9_marry 210 = .ok (.invokestatic 226, 3) := by decide +kernel
theorem dX9_marry_213 : decode cX9_marry 213 = .ok (.ifCond .eq 27, 3) := by decide +kernel
theorem dX9_marry_216 : decode cX9_marry 216 = .ok (.iconst 1, 1) := by decide +kernel
theorem dX9_marry_217 : decode cX9_marry 217 = .ok (.aload_n 0, 1) := by decide +kernel
theorem dX9_marry_218 : decode cX9_marry 218 = .ok (.getfield 44, 3) := by decide +kernel
theorem dX9_marry_221 : decode cX9_marry 221 = .ok (.iload 4, 2) := by decide +kernel
theorem dX9_marry_223 : decode cX9_marry 223 = .ok (.iconst 1, 1) := by decide +kernel
theorem dX9_marry_224 : decode cX9_marry 224 = .ok (.iload 5, 2) := by decide +kernel
theorem dX9_marry_226 : decode cX9_marry 226 = .ok (.ishl, 1) := by decide +kernel
theorem dX9_marry_227 : decode cX9_marry 227 = .ok (.iconst 1, 1) := by decide +kernel
theorem dX9_marry_228 : decode cX9_marry 228 = .ok (.iload 6, 2) := by decide +kernel
theorem dX9_marry_230 : decode cX9_marry 230 = .ok (.ishl, 1) := by decide +kernel
theorem dX9_marry_231 : decode cX9_marry 231 = .ok (.ior, 1) := by decide +kernel
theorem dX9_marry_232 : decode cX9_marry 232 = .ok (.iconst (-1), 1) := by decide +kernel
theorem dX9_marry_233 : decode cX9_marry 233 = .ok (.ixor, 1) := by decide +kernel
theorem dX9_marry_234 : decode cX9_marry 234 = .ok (.iand, 1) := by decide +kernel
theorem dX9_marry_235 : decode cX9_marry 235 = .ok (.iaload, 1) := by decide +kernel
theorem dX9_marry_236 : decode cX9_marry 236 = .ok (.iadd, 1) := by decide +kernel
theorem dX9_marry_237 : decode cX9_marry 237 = .ok (.goto 4, 3) := by decide +kernel
theorem dX9_marry_240 : decode cX9_marry 240 = .ok (.iconst 0, 1) := by decide +kernel
theorem dX9_marry_241 : decode cX9_marry 241 = .ok (.istore 7, 2) := by decide +kernel
theorem dX9_marry_243 : decode cX9_marry 243 = .ok (.aload_n 0, 1) := by decide +kernel
theorem dX9_marry_244 : decode cX9_marry 244 = .ok (.getfield 44, 3) := by decide +kernel
theorem dX9_marry_247 : decode cX9_marry 247 = .ok (.iload 4, 2) := by decide +kernel
theorem dX9_marry_249 : decode cX9_marry 249 = .ok (.iload 7, 2) := by decide +kernel
theorem dX9_marry_251 : decode cX9_marry 251 = .ok (.aload_n 0, 1) := by decide +kernel
theorem dX9_marry_252 : decode cX9_marry 252 = .ok (.getfield 44, 3) := by decide +kernel
theorem dX9_marry_255 : decode cX9_marry 255 = .ok (.iload 4, 2) := by decide +kernel
theorem dX9_marry_257 : decode cX9_marry 257 = .ok (.iaload, 1) := by decide +kernel
theorem dX9_marry_258 : decode cX9_marry 258 = .ok (.if_icmp .le 8, 3) := by decide +kernel
theorem dX9_marry_261 : decode cX9_marry 261 = .ok (.iload 7, 2) := by decide +kernel
theorem dX9_marry_263 : decode cX9_marry 263 = .ok (.goto 10, 3) := by decide +kernel
theorem dX9_marry_266 : decode cX9_marry 266 = .ok (.aload_n 0, 1) := by decide +kernel
theorem dX9_marry_267 : decode cX9_marry 267 = .ok (.getfield 44, 3) := by decide +kernel
theorem dX9_marry_270 : decode cX9_marry 270 = .ok (.iload 4, 2) := by decide +kernel
theorem dX9_marry_272 : decode cX9_marry 272 = .ok (.iaload, 1) := by decide +kernel
theorem dX9_marry_273 : decode cX9_marry 273 = .ok (.iastore, 1) := by decide +kernel
theorem dX9_marry_274 : decode cX9_marry 274 = .ok (.iinc 6 1, 3) := by decide +kernel
theorem dX9_marry_277 : decode cX9_marry 277 = .ok (.goto (-97), 3) := by decide +kernel
theorem dX9_marry_280 : decode cX9_marry 280 = .ok (.iinc 4 1, 3) := by decide +kernel
theorem dX9_marry_283 : decode cX9_marry 283 = .ok (.goto (-143), 3) := by decide +kernel
theorem dX9_marry_286 : decode cX9_marry 286 = .ok (.iload_n 3, 1) := by decide +kernel
theorem dX9_marry_287 : decode cX9_marry 287 = .ok (.istore 4, 2) := by decide +kernel
theorem dX9_marry_289 : decode cX9_marry 289 = .ok (.iconst 0, 1) := by decide +kernel
theorem dX9_marry_290 : decode cX9_marry 290 = .ok (.istore 5, 2) := by decide +kernel
theorem dX9_marry_292 : decode cX9_marry 292 = .ok (.iload 5, 2) := by decide +kernel
theorem dX9_marry_294 : decode cX9_marry 294 = .ok (.aload_n 0, 1) := by decide +kernel
theorem dX9_marry_295 : decode cX9_marry 295 = .ok (.getfield 7, 3) := by decide +kernel
theorem dX9_marry_298 : decode cX9_marry 298 = .ok (.iconst 0, 1) := by decide +kernel
theorem dX9_marry_299 : decode cX9_marry 299 = .ok (.iaload, 1) := by decide +kernel
theorem dX9_marry_300 : decode cX9_marry 300 = .ok (.if_icmp .ge 135, 3) := by decide +kernel
theorem dX9_marry_303 : decode cX9_marry 303 = .ok (.iload 5, 2) := by decide +kernel
theorem dX9_marry_305 : decode cX9_marry 305 = .ok (.iconst 1, 1) := by decide +kernel
theorem dX9_marry_306 : decode cX9_marry 306 = .ok (.iadd, 1) := by decide +kernel
theorem dX9_marry_307 : decode cX9_marry 307 = .ok (.istore 6, 2) := by decide +kernel
theorem dX9_marry_309 : decode cX9_marry 309 = .ok (.iload 6, 2) := by decide +kernel
theorem dX9_marry_311 : decode cX9_marry 311 = .ok (.aload_n 0, 1) := by decide +kernel
theorem dX9_marry_312 : decode cX9_marry 312 = .ok (.getfield 7, 3) := by decide +kernel
theorem dX9_marry_315 : decode cX9_marry 315 = .ok (.iconst 0, 1) := by decide +kernel
theorem dX9_marry_316 : decode cX9_marry 316 = .ok (.iaload, 1) := by decide +kernel
theorem dX9_marry_317 : decode cX9_marry 317 = .ok (.if_icmp .ge 101, 3) := by decide +kernel
theorem dX9_marry_320 : decode cX9_marry 320 = .ok (.iload 4, 2) := by decide +kernel
theorem dX9_marry_322 : decode cX9_marry 322 = .ok (.iload 5, 2) := by decide +kernel
theorem dX9_marry_324 : decode cX9_marry 324 = .ok (.invokestatic 226, 3) := by decide +kernel
theorem dX9_marry_327 : decode cX9_marry 327 = .ok (.ifCond .eq 91, 3) := by decide +kernel
theorem dX9_marry_330 : decode cX9_marry 330 = .ok (.iload 4, 2) := by decide +kernel
theorem dX9_marry_332 : decode cX9_marry 332 = .ok (.iconst 1, 1) := by decide +kernel
theorem dX9_marry_333 : decode cX9_marry 333 = .ok (.iload 5, 2) := by decide +kernel
theorem dX9_marry_335 : decode cX9_marry 335 = .ok (.ishl, 1) := by decide +kernel
theorem dX9_marry_336 : decode cX9_marry 336 = .ok (.iconst 1, 1) := by decide +kernel
theorem dX9_marry_337 : decode cX9_marry 337 = .ok (.iload 6, 2) := by decide +kernel
theorem dX9_marry_339 : decode cX9_marry 339 = .ok (.ishl, 1) := by decide +kernel
theorem dX9_marry_340 : decode cX9_marry 340 = .ok (.ior, 1) := by decide +kernel
theorem dX9_marry_341 : decode cX9_marry 341 = .ok (.iconst (-1), 1) := by decide +kernel
theorem dX9_marry_342 : decode cX9_marry 342 = .ok (.ixor, 1) := by decide +kernel
theorem dX9_marry_343 : decode cX9_marry 343 = .ok (.iand, 1) := by decide +kernel
theorem dX9_marry_344 : decode cX9_marry 344 = .ok (.istore 7, 2) := by decide +kernel
theorem dX9_marry_346 : decode cX9_marry 346 = .ok (.iload 4, 2) := by decide +kernel
theorem dX9_marry_348 : decode cX9_marry 348 = .ok (.iload 6, 2) := by decide +kernel
theorem dX9_marry_350 : decode cX9_marry 350 = .ok (.invokestatic 226, 3) := by decide +kernel
theorem dX9_marry_353 : decode cX9_marry 353 = .ok (.ifCond .eq 59, 3) := by decide +kernel
theorem dX9_marry_356 : decode cX9_marry 356 = .ok (.aload_n 0, 1) := by decide +kernel
theorem dX9_marry_357 : decode cX9_marry 357 = .ok (.getfield 41, 3) := by decide +kernel
theorem dX9_marry_360 : decode cX9_marry 360 = .ok (.iload 5, 2) := by decide +kernel
theorem dX9_marry_362 : decode cX9_marry 362 = .ok (.iaload, 1) := by decide +kernel
theorem dX9_marry_363 : decode cX9_marry 363 = .ok (.iload 6, 2) := by decide +kernel
theorem dX9_marry_365 : decode cX9_marry 365 = .ok (.invokestatic 226, 3) := by decide +kernel
theorem dX9_marry_368 : decode cX9_marry 368 = .ok (.ifCond .eq 44, 3) := by decide +kernel
theorem dX9_marry_371 : decode cX9_marry 371 = .ok (.iconst 1, 1) := by decide +kernel
theorem dX9_marry_372 : decode cX9_marry 372 = .ok (.aload_n 0, 1) := by decide +kernel
theorem dX9_marry_373 : decode cX9_marry 373 = .ok (.getfield 44, 3) := by decide +kernel
theorem dX9_marry_376 : decode cX9_marry 376 = .ok (.iload 7, 2) := by decide +kernel
theorem dX9_marry_378 : decode cX9_marry 378 = .ok (.iaload, 1) := by decide +kernel
theorem dX9_marry_379 : decode cX9_marry 379 = .ok (.iadd, 1) := by decide +kernel
theorem dX9_marry_380 : decode cX9_marry 380 = .ok (.aload_n 0, 1) := by decide +kernel
theorem dX9_marry_381 : decode cX9_marry 381 = .ok (.getfield 44, 3) := by decide +kernel
theorem dX9_marry_384 : decode cX9_marry 384 = .ok (.iload 4, 2) := by decide +kernel
theorem dX9_marry_386 : decode cX9_marry 386 = .ok (.iaload, 1) := by decide +kernel
theorem dX9_marry_387 : decode cX9_marry 387 = .ok (.if_icmp .ne 25, 3) := by decide +kernel
theorem dX9_marry_390 : decode cX9_marry 390 = .ok (.aload_n 0, 1) := by decide +kernel
theorem dX9_marry_391 : decode cX9_marry 391 = .ok (.getfield 47, 3) := by decide +kernel
theorem dX9_marry_394 : decode cX9_marry 394 = .ok (.iload 5, 2) := by decide +kernel
theorem dX9_marry_396 : decode cX9_marry 396 = .ok (.iload 6, 2) := by decide +kernel
theorem dX9_marry_398 : decode cX9_marry 398 = .ok (.iastore, 1) := by decide +kernel
theorem dX9_marry_399 : decode cX9_marry 399 = .ok (.aload_n 0, 1) := by decide +kernel
theorem dX9_marry_400 : decode cX9_marry 400 = .ok (.getfield 47, 3) := by decide +kernel
theorem dX9_marry_403 : decode cX9_marry 403 = .ok (.iload 6, 2) := by decide +kernel
theorem dX9_marry_405 : decode cX9_marry 405 = .ok (.iload 5, 2) := by decide +kernel
theorem dX9_marry_407 : decode cX9_marry 407 = .ok (.iastore, 1) := by decide +kernel
theorem dX9_marry_408 : decode cX9_marry 408 = .ok (.iload 7, 2) := by decide +kernel
theorem dX9_marry_410 : decode cX9_marry 410 = .ok (.istore 4, 2) := by decide +kernel
theorem dX9_marry_412 : decode cX9_marry 412 = .ok (.iinc 6 1, 3) := by decide +kernel
theorem dX9_marry_415 : decode cX9_marry 415 = .ok (.goto (-106), 3) := by decide +kernel
theorem dX9_marry_418 : decode cX9_marry 418 = .ok (.iload 4, 2) := by decide +kernel
theorem dX9_marry_420 : decode cX9_marry 420 = .ok (.iconst 1, 1) := by decide +kernel
theorem dX9_marry_421 : decode cX9_marry 421 = .ok (.iload 5, 2) := by decide +kernel
theorem dX9_marry_423 : decode cX9_marry 423 = .ok (.ishl, 1) := by decide +kernel
theorem dX9_marry_424 : decode cX9_marry 424 = .ok (.iconst (-1), 1) := by decide +kernel
theorem dX9_marry_425 : decode cX9_marry 425 = .ok (.ixor, 1) := by decide +kernel
theorem dX9_marry_426 : decode cX9_marry 426 = .ok (.iand, 1) := by decide +kernel
theorem dX9_marry_427 : decode cX9_marry 427 = .ok (.istore 4, 2) := by decide +kernel
theorem dX9_marry_429 : decode cX9_marry 429 = .ok (.iinc 5 1, 3) := by decide +kernel
theorem dX9_marry_432 : decode cX9_marry 432 = .ok (.goto (-140), 3) := by decide +kernel
theorem dX9_marry_435 : decode cX9_marry 435 = .ok (.iload_n 1, 1) := by decide +kernel
theorem dX9_marry_436 : decode cX9_marry 436 = .ok (.bipush (-4), 2) := by decide +kernel
theorem dX9_marry_438 : decode cX9_marry 438 = .ok (.if_icmp .ne 12, 3) := by decide +kernel
theorem dX9_marry_441 : decode cX9_marry 441 = .ok (.aload_n 0, 1) := by decide +kernel
theorem dX9_marry_442 : decode cX9_marry 442 = .ok (.getfield 44, 3) := by decide +kernel
theorem dX9_marry_445 : decode cX9_marry 445 = .ok (.iload_n 3, 1) := by decide +kernel
theorem dX9_marry_446 : decode cX9_marry 446 = .ok (.iaload, 1) := by decide +kernel
theorem dX9_marry_447 : decode cX9_marry 447 = .ok (.goto 9, 3) := by decide +kernel
theorem dX9_marry_450 : decode cX9_marry 450 = .ok (.aload_n 0, 1) := by decide +kernel
theorem dX9_marry_451 : decode cX9_marry 451 = .ok (.getfield 47, 3) := by decide +kernel
theorem dX9_marry_454 : decode cX9_marry 454 = .ok (.iload_n 1, 1) := by decide +kernel
theorem dX9_marry_455 : decode cX9_marry 455 = .ok (.iaload, 1) := by decide +kernel
theorem dX9_marry_456 : decode cX9_marry 456 = .ok (.ireturn, 1) := by decide +kernel
def X9_marry_L68 (v4 : Int32) (x2 : Int32) : Nat → Int32 → Rec → Option (Rec)
  | 0, _, _ => none
  | n68 + 1, v13, Z14 => (rdI (Z14.2.1 0) 96 (0 : Int32)).bind fun v16 =>
    if v16 ≤ v13 then
      some Z14
    else
      (rdI (Z14.2.1 16) 6 v4).bind fun v18 =>
      (X9_doTalk Z14 v4 v13 x2).bind fun v19 =>
      if v19 = 0 then
        (wrI (Z14.2.1 16) 6 v4 (v18 ||| (0 : Int32))).bind fun w21 =>
        aLet (v13 + (1 : Int32)) fun v23 =>
        X9_marry_L68 v4 x2 n68 v23 (sA Z14 16 w21)
      else
        (wrI (Z14.2.1 16) 6 v4 (v18 ||| ((1 : Int32) <<< (v13 &&& 31)))).bind fun w24 =>
        aLet (v13 + (1 : Int32)) fun v26 =>
        X9_marry_L68 v4 x2 n68 v26 (sA Z14 16 w24)
def X9_marry_L40 (x2 : Int32) : Nat → Int32 → Rec → Option (Rec)
  | 0, _, _ => none
  | n40 + 1, v4, Z5 => (rdI (Z5.2.1 0) 96 (0 : Int32)).bind fun v7 =>
    if v7 ≤ v4 then
      some Z5
    else
      (wrI (Z5.2.1 16) 6 v4 (0 : Int32)).bind fun w9 =>
      (wrI ((sA Z5 16 w9).2.1 18) 6 v4 (-4 : Int32)).bind fun w11 =>
      (X9_marry_L68 v4 x2 aFu (0 : Int32) (sA (sA Z5 16 w9) 18 w11)).bind fun e27 =>
      aLet (v4 + (1 : Int32)) fun v29 =>
      X9_marry_L40 x2 n40 v29 e27
def X9_marry_J241 (Z46 : Rec) (v36 : Int32) (v45 : Int32) (k180 : Int32 → Rec → Option (Rec)) (v50 : Int32) : Option (Rec) :=
  (rdI (Z46.2.1 17) 64 v36).bind fun v51 =>
  if v50 ≤ v51 then
    (rdI (Z46.2.1 17) 64 v36).bind fun v53 =>
    (wrI (Z46.2.1 17) 64 v36 v53).bind fun w54 =>
    aLet (v45 + (1 : Int32)) fun v56 =>
    k180 v56 (sA Z46 17 w54)
  else
    (wrI (Z46.2.1 17) 64 v36 v50).bind fun w57 =>
    aLet (v45 + (1 : Int32)) fun v59 =>
    k180 v59 (sA Z46 17 w57)
def X9_marry_J240 (Z46 : Rec) (v36 : Int32) (v45 : Int32) (k180 : Int32 → Rec → Option (Rec)) : Option (Rec) :=
  X9_marry_J241 Z46 v36 v45 (k180) (0 : Int32)
def X9_marry_L180 (v36 : Int32) (v40 : Int32) : Nat → Int32 → Rec → Option (Rec)
  | 0, _, _ => none
  | n180 + 1, v45, Z46 => (rdI (Z46.2.1 0) 96 (0 : Int32)).bind fun v48 =>
    if v48 ≤ v45 then
      some Z46
    else
      if (X9_has v36 v45) = 0 then
        X9_marry_J240 Z46 v36 v45 (X9_marry_L180 v36 v40 n180)
      else
        (rdI (Z46.2.1 16) 6 v40).bind fun v61 =>
        if (X9_has v61 v45) = 0 then
          X9_marry_J240 Z46 v36 v45 (X9_marry_L180 v36 v40 n180)
        else
          (rdI (Z46.2.1 17) 64 (v36 &&& ((((1 : Int32) <<< (v40 &&& 31)) ||| ((1 : Int32) <<< (v45 &&& 31))) ^^^ (-1 : Int32)))).bind fun v63 =>
          X9_marry_J241 Z46 v36 v45 (X9_marry_L180 v36 v40 n180) ((1 : Int32) + v63)
def X9_marry_L140 (v35 : Int32) : Nat → Int32 → Rec → Option (Rec)
  | 0, _, _ => none
  | n140 + 1, v36, Z37 => if v35 < v36 then
      some Z37
    else
      (X9_lowest v36).bind fun v40 =>
      (rdI (Z37.2.1 17) 64 (v36 &&& (((1 : Int32) <<< (v40 &&& 31)) ^^^ (-1 : Int32)))).bind fun v41 =>
      (wrI (Z37.2.1 17) 64 v36 v41).bind fun w42 =>
      aLet (v40 + (1 : Int32)) fun v44 =>
      (X9_marry_L180 v36 v40 aFu v44 (sA Z37 17 w42)).bind fun e64 =>
      aLet (v36 + (1 : Int32)) fun v66 =>
      X9_marry_L140 v35 n140 v66 e64
def X9_marry_L309 (v70 : Int32) : Nat → Int32 → Int32 → Rec → Option (Int32 × Rec)
  | 0, _, _, _ => none
  | n309 + 1, v76, v77, Z78 => (rdI (Z78.2.1 0) 96 (0 : Int32)).bind fun v80 =>
    if v80 ≤ v77 then
      some (v76, Z78)
    else
      if (X9_has v76 v70) = 0 then
        some (v76, Z78)
      else
        aLet (v76 &&& ((((1 : Int32) <<< (v70 &&& 31)) ||| ((1 : Int32) <<< (v77 &&& 31))) ^^^ (-1 : Int32))) fun v83 =>
        if (X9_has v76 v77) = 0 then
          aLet (v77 + (1 : Int32)) fun v85 =>
          X9_marry_L309 v70 n309 v76 v85 Z78
        else
          (rdI (Z78.2.1 16) 6 v70).bind fun v86 =>
          if (X9_has v86 v77) = 0 then
            aLet (v77 + (1 : Int32)) fun v88 =>
            X9_marry_L309 v70 n309 v76 v88 Z78
          else
            (rdI (Z78.2.1 17) 64 v83).bind fun v89 =>
            (rdI (Z78.2.1 17) 64 v76).bind fun v90 =>
            if ((1 : Int32) + v89) = v90 then
              (wrI (Z78.2.1 18) 6 v70 v77).bind fun w93 =>
              (wrI ((sA Z78 18 w93).2.1 18) 6 v77 v70).bind fun w95 =>
              aLet (v77 + (1 : Int32)) fun v97 =>
              X9_marry_L309 v70 n309 v83 v97 (sA (sA Z78 18 w93) 18 w95)
            else
              aLet (v77 + (1 : Int32)) fun v92 =>
              X9_marry_L309 v70 n309 v76 v92 Z78
def X9_marry_L292 : Nat → Int32 → Int32 → Rec → Option (Rec)
  | 0, _, _, _ => none
  | n292 + 1, v69, v70, Z71 => (rdI (Z71.2.1 0) 96 (0 : Int32)).bind fun v73 =>
    if v73 ≤ v70 then
      some Z71
    else
      aLet (v70 + (1 : Int32)) fun v75 =>
      (X9_marry_L309 v70 aFu v69 v75 Z71).bind fun e98 =>
      aLet (e98.1 &&& (((1 : Int32) <<< (v70 &&& 31)) ^^^ (-1 : Int32))) fun v100 =>
      aLet (v70 + (1 : Int32)) fun v101 =>
      X9_marry_L292 n292 v100 v101 e98.2
def X9_marry_J28 (S0 : Rec) (x2 : Int32) (x1 : Int32) : Option (Int32 × Rec) :=
  (X9_isThere S0).bind fun v2 =>
  if v2 = 0 then
    some ((-2 : Int32), S0)
  else
    (X9_marry_L40 x2 aFu (0 : Int32) S0).bind fun e30 =>
    (wrI (e30.2.1 17) 64 (0 : Int32) (0 : Int32)).bind fun w32 =>
    (rdI ((sA e30 17 w32).2.1 0) 96 (0 : Int32)).bind fun v34 =>
    aLet (((1 : Int32) <<< (v34 &&& 31)) - (1 : Int32)) fun v35 =>
    (X9_marry_L140 v35 aFu (1 : Int32) (sA e30 17 w32)).bind fun e67 =>
    (X9_marry_L292 aFu v35 (0 : Int32) e67).bind fun e102 =>
    if x1 = (-4 : Int32) then
      (rdI (e102.2.1 17) 64 v35).bind fun v106 =>
      some (v106, e102)
    else
      (rdI (e102.2.1 18) 6 x1).bind fun v105 =>
      some (v105, e102)
def X9_marry (S0 : Rec) (x1 : Int32) (x2 : Int32) : Option (Int32 × Rec) :=
  if (X9_in (x2.toInt64) (1 : Int64) (5 : Int64)) = 0 then
    some ((-1 : Int32), S0)
  else
    if x1 = (-4 : Int32) then
      X9_marry_J28 S0 x2 x1
    else
      (X9_isHolder S0 x1).bind fun v108 =>
      if v108 = 0 then
        some ((-1 : Int32), S0)
      else
        X9_marry_J28 S0 x2 x1
set_option maxRecDepth 100000 in
set_option maxHeartbeats 4000000 in
theorem X9_marry_ok (l : Launch) {h : aH} {nx : Nat} {a0 : Nat} {S0 : Rec} {x1 : Int32} {x2 : Int32} (hB0 : X9_at h a0 S0) {r : Int32 × Rec} (hF : X9_marry S0 x1 x2 = some r) : aOk l 5 0 0 yX9_marry cX9_marry 8 (some .int) [.ref a0, .int x1, .int x2] h nx (aMt (some (.int r.1)) nx (fun h1 => X9_at h1 a0 r.2 ∧ (∀ q, (q < a0 ∨ a0 + 20 ≤ q) → h1 q = h q))) := by
  refine aOk.of (by decide +kernel) (Nat.le_of_ble_eq_true rfl) (fun X G hX C R0 _ => ?_)
  subst hX
  show aV X G 8 0 [(0, .ref a0), (1, .int x1), (2, .int x2)] [] h nx 0 0
  have hFr : ∀ q, (q < a0 ∨ a0 + 20 ≤ q) → h q = h q := fun _ _ => rfl
  rw [X9_marry] at hF
  refine ab_iload_n C 2 rfl rfl dX9_marry_0 ?_
  refine ab_i2l C dX9_marry_1 ?_
  refine ab_lconst (v := (1 : Int64)) C dX9_marry_2 (by decide) ?_
  refine ab_ldc2 (v := (5 : Int64)) C dX9_marry_3 lq_X9_157 ?_
  refine ab_cSR (v := .int (X9_in (x2.toInt64) (1 : Int64) (5 : Int64))) (st := []) C lm_X9_69 (X9_in_ok (xl X) (r := (X9_in (x2.toInt64) (1 : Int64) (5 : Int64))) rfl) rfl rfl (by decide) ⟨Nat.zero_le _, Nat.zero_le _⟩ (Nat.le_of_ble_eq_true rfl) dX9_marry_6 ?_
  refine ab_if_eq C 26 dX9_marry_9 (by decide) (fun c1 => ?_) (fun c1 => ?_)
  · replace hF := (if_pos c1).symm.trans hF
    refine ab_iconst (v := (-1 : Int32)) C dX9_marry_26 (by decide) ?_
    obtain rfl := Option.some.inj hF
    exact ab_iret C R0 rfl dX9_marry_27 ⟨rfl, rfl, hB0, hFr⟩
  · replace hF := (if_neg c1).symm.trans hF
    refine ab_iload_n C 1 rfl rfl dX9_marry_12 ?_
    refine ab_bipush (v := (-4 : Int32)) C dX9_marry_13 (by decide) ?_
    have J28 : X9_marry_J28 S0 x2 x1 = some r → aV X G 8 28 [(0, .ref a0), (1, .int x1), (2, .int x2)] [] h nx 0 0 := by
      intro  hF
      rw [X9_marry_J28] at hF
      refine ab_aload_n C 0 rfl rfl dX9_marry_28 ?_
      obtain ⟨v2, hxv2, hF⟩ := Option.bind_eq_some_iff.mp hF
      refine ab_cVR (v := .int v2) (st := []) C lm_X9_185 (X9_isThere_ok (xl X) hB0 (r := v2) hxv2) [] rfl hB0.1 rfl rfl rfl (by decide) ⟨Nat.zero_le _, Nat.zero_le _⟩ (Nat.le_of_ble_eq_true rfl) dX9_marry_29 ?_
      refine ab_if_ne C 38 dX9_marry_32 (by decide) (fun c3 => ?_) (fun c3 => ?_)
      · replace hF := (if_neg c3).symm.trans hF
        refine ab_iconst (v := (0 : Int32)) C dX9_marry_38 (by decide) ?_
        refine ab_istore_n (lv' := [(3, .int (0 : Int32)), (0, .ref a0), (1, .int x1), (2, .int x2)]) C dX9_marry_39 rfl (by decide) rfl ?_
        have L40 : ∀ (n40 : Nat) (v4 : Int32) (Z5 : Rec) (g6 : aH), (X9_at g6 a0 Z5) → (∀ q, (q < a0 ∨ a0 + 20 ≤ q) → g6 q = h q) → ∀ (res40 : Rec), X9_marry_L40 x2 n40 v4 Z5 = some res40 → (∀ (q9 : aH), (X9_at q9 a0 res40) → (∀ q, (q < a0 ∨ a0 + 20 ≤ q) → q9 q = h q) → aV X G 8 119 [(0, .ref a0), (1, .int x1)] [] q9 nx 0 0) → aV X G 8 40 [(0, .ref a0), (1, .int x1), (2, .int x2), (3, .int v4)] [] g6 nx 0 0 := by
          intro n40
          induction n40 with
          | zero => intro v4 Z5 g6 hB0 hFr res40 hF KX40; cases (show (none : Option (Rec)) = some res40 from hF)
          | succ n40 ih40 =>
            intro v4 Z5 g6 hB0 hFr res40 hF KX40
            rw [X9_marry_L40] at hF
            refine ab_iload_n C 3 rfl rfl dX9_marry_40 ?_
            refine ab_aload_n C 0 rfl rfl dX9_marry_41 ?_
            refine ab_g9 (v := .ref (a0 + 1)) C lf_X9_7 hB0.1 rfl dX9_marry_42 ?_
            refine ab_iconst (v := (0 : Int32)) C dX9_marry_45 (by decide) ?_
            obtain ⟨v7, hxv7, hF⟩ := Option.bind_eq_some_iff.mp hF
            refine ab_iald C (X9_r0 hB0) hxv7 dX9_marry_46 ?_
            refine ab_icmp_ge C 119 dX9_marry_47 (by decide) (fun c8 => ?_) (fun c8 => ?_)
            · replace hF := (if_pos c8).symm.trans hF
              obtain rfl := Option.some.inj hF
              refine aV.sub (lv' := [(0, .ref a0), (1, .int x1)]) [0, 1] rfl ?_
              exact KX40 g6 hB0 hFr
            · replace hF := (if_neg c8).symm.trans hF
              refine ab_aload_n C 0 rfl rfl dX9_marry_50 ?_
              refine ab_g9 (v := .ref (a0 + 11)) C lf_X9_41 hB0.1 rfl dX9_marry_51 ?_
              refine ab_iload_n C 3 rfl rfl dX9_marry_54 ?_
              refine ab_iconst (v := (0 : Int32)) C dX9_marry_55 (by decide) ?_
              obtain ⟨w9, hxw9, hF⟩ := Option.bind_eq_some_iff.mp hF
              refine ab_iast C (X9_r16 hB0) hxw9 dX9_marry_56 (fun g10 eg10 og10 => ?_)
              have hB0 : X9_at g10 a0 (sA Z5 16 w9) := X9_w16 hB0 eg10 og10
              have hFr : ∀ q, (q < a0 ∨ a0 + 20 ≤ q) → g10 q = h q := fun q u0 => (og10 q (by omega)).trans (hFr q u0)
              refine ab_aload_n C 0 rfl rfl dX9_marry_57 ?_
              refine ab_g9 (v := .ref (a0 + 13)) C lf_X9_47 hB0.1 rfl dX9_marry_58 ?_
              refine ab_iload_n C 3 rfl rfl dX9_marry_61 ?_
              refine ab_bipush (v := (-4 : Int32)) C dX9_marry_62 (by decide) ?_
              obtain ⟨w11, hxw11, hF⟩ := Option.bind_eq_some_iff.mp hF
              refine ab_iast C (X9_r18 hB0) hxw11 dX9_marry_64 (fun g12 eg12 og12 => ?_)
              have hB0 : X9_at g12 a0 (sA (sA Z5 16 w9) 18 w11) := X9_w18 hB0 eg12 og12
              have hFr : ∀ q, (q < a0 ∨ a0 + 20 ≤ q) → g12 q = h q := fun q u0 => (og12 q (by omega)).trans (hFr q u0)
              refine ab_iconst (v := (0 : Int32)) C dX9_marry_65 (by decide) ?_
              refine ab_istore (lv' := [(4, .int (0 : Int32)), (0, .ref a0), (1, .int x1), (2, .int x2), (3, .int v4)]) C dX9_marry_66 (by decide) rfl ?_
              have L68 : ∀ (n68 : Nat) (v13 : Int32) (Z14 : Rec) (g15 : aH), (X9_at g15 a0 Z14) → (∀ q, (q < a0 ∨ a0 + 20 ≤ q) → g15 q = h q) → ∀ (res68 : Rec), X9_marry_L68 v4 x2 n68 v13 Z14 = some res68 → (∀ (q9 : aH), (X9_at q9 a0 res68) → (∀ q, (q < a0 ∨ a0 + 20 ≤ q) → q9 q = h q) → aV X G 8 113 [(0, .ref a0), (1, .int x1), (2, .int x2), (3, .int v4)] [] q9 nx 0 0) → aV X G 8 68 [(0, .ref a0), (1, .int x1), (2, .int x2), (3, .int v4), (4, .int v13)] [] g15 nx 0 0 := by
                intro n68
                induction n68 with
                | zero => intro v13 Z14 g15 hB0 hFr res68 hF KX68; cases (show (none : Option (Rec)) = some res68 from hF)
                | succ n68 ih68 =>
                  intro v13 Z14 g15 hB0 hFr res68 hF KX68
                  rw [X9_marry_L68] at hF
                  refine ab_iload C 4 rfl dX9_marry_68 ?_
                  refine ab_aload_n C 0 rfl rfl dX9_marry_70 ?_
                  refine ab_g9 (v := .ref (a0 + 1)) C lf_X9_7 hB0.1 rfl dX9_marry_71 ?_
                  refine ab_iconst (v := (0 : Int32)) C dX9_marry_74 (by decide) ?_
                  obtain ⟨v16, hxv16, hF⟩ := Option.bind_eq_some_iff.mp hF
                  refine ab_iald C (X9_r0 hB0) hxv16 dX9_marry_75 ?_
                  refine ab_icmp_ge C 113 dX9_marry_76 (by decide) (fun c17 => ?_) (fun c17 => ?_)
                  · replace hF := (if_pos c17).symm.trans hF
                    obtain rfl := Option.some.inj hF
                    refine aV.sub (lv' := [(0, .ref a0), (1, .int x1), (2, .int x2), (3, .int v4)]) [0, 1, 2, 3] rfl ?_
                    exact KX68 g15 hB0 hFr
                  · replace hF := (if_neg c17).symm.trans hF
                    refine ab_aload_n C 0 rfl rfl dX9_marry_79 ?_
                    refine ab_g9 (v := .ref (a0 + 11)) C lf_X9_41 hB0.1 rfl dX9_marry_80 ?_
                    refine ab_iload_n C 3 rfl rfl dX9_marry_83 ?_
                    refine ab_dup2_11 C rfl rfl dX9_marry_84 ?_
                    obtain ⟨v18, hxv18, hF⟩ := Option.bind_eq_some_iff.mp hF
                    refine ab_iald C (X9_r16 hB0) hxv18 dX9_marry_85 ?_
                    refine ab_aload_n C 0 rfl rfl dX9_marry_86 ?_
                    refine ab_iload_n C 3 rfl rfl dX9_marry_87 ?_
                    refine ab_iload C 4 rfl dX9_marry_88 ?_
                    refine ab_iload_n C 2 rfl rfl dX9_marry_90 ?_
                    obtain ⟨v19, hxv19, hF⟩ := Option.bind_eq_some_iff.mp hF
                    refine ab_cVR (v := .int v19) (st := [.int v18, .int v4, .ref (a0 + 11)]) C lm_X9_222 (X9_doTalk_ok (xl X) hB0 (r := v19) hxv19) [.int v4, .int v13, .int x2] rfl hB0.1 rfl rfl rfl (by decide) ⟨Nat.zero_le _, Nat.zero_le _⟩ (Nat.le_of_ble_eq_true rfl) dX9_marry_91 ?_
                    refine ab_if_eq C 104 dX9_marry_94 (by decide) (fun c20 => ?_) (fun c20 => ?_)
                    · replace hF := (if_pos c20).symm.trans hF
                      refine ab_iconst (v := (0 : Int32)) C dX9_marry_104 (by decide) ?_
                      refine ab_ior C dX9_marry_105 ?_
                      obtain ⟨w21, hxw21, hF⟩ := Option.bind_eq_some_iff.mp hF
                      refine ab_iast C (X9_r16 hB0) hxw21 dX9_marry_106 (fun g22 eg22 og22 => ?_)
                      have hB0 : X9_at g22 a0 (sA Z14 16 w21) := X9_w16 hB0 eg22 og22
                      have hFr : ∀ q, (q < a0 ∨ a0 + 20 ≤ q) → g22 q = h q := fun q u0 => (og22 q (by omega)).trans (hFr q u0)
                      obtain ⟨v23, qv23⟩ : ∃ y : Int32, y = (v13 + (1 : Int32)) := ⟨_, rfl⟩
                      replace hF := aLet_e hF v23 qv23
                      refine ab_iinc (lv' := [(4, .int v23), (0, .ref a0), (1, .int x1), (2, .int x2), (3, .int v4)]) C 4 rfl dX9_marry_107 (by rw [qv23]; rfl) (by decide) rfl ?_
                      refine ab_goto C 68 dX9_marry_110 (by decide) ?_
                      refine aV.sub (lv' := [(0, .ref a0), (1, .int x1), (2, .int x2), (3, .int v4), (4, .int v23)]) [1, 2, 3, 4, 0] rfl ?_
                      exact ih68 v23 (sA Z14 16 w21) g22 hB0 hFr res68 hF KX68
                    · replace hF := (if_neg c20).symm.trans hF
                      refine ab_iconst (v := (1 : Int32)) C dX9_marry_97 (by decide) ?_
                      refine ab_iload C 4 rfl dX9_marry_98 ?_
                      refine ab_ishl C dX9_marry_100 ?_
                      refine ab_goto C 105 dX9_marry_101 (by decide) ?_
                      refine ab_ior C dX9_marry_105 ?_
                      obtain ⟨w24, hxw24, hF⟩ := Option.bind_eq_some_iff.mp hF
                      refine ab_iast C (X9_r16 hB0) hxw24 dX9_marry_106 (fun g25 eg25 og25 => ?_)
                      have hB0 : X9_at g25 a0 (sA Z14 16 w24) := X9_w16 hB0 eg25 og25
                      have hFr : ∀ q, (q < a0 ∨ a0 + 20 ≤ q) → g25 q = h q := fun q u0 => (og25 q (by omega)).trans (hFr q u0)
                      obtain ⟨v26, qv26⟩ : ∃ y : Int32, y = (v13 + (1 : Int32)) := ⟨_, rfl⟩
                      replace hF := aLet_e hF v26 qv26
                      refine ab_iinc (lv' := [(4, .int v26), (0, .ref a0), (1, .int x1), (2, .int x2), (3, .int v4)]) C 4 rfl dX9_marry_107 (by rw [qv26]; rfl) (by decide) rfl ?_
                      refine ab_goto C 68 dX9_marry_110 (by decide) ?_
                      refine aV.sub (lv' := [(0, .ref a0), (1, .int x1), (2, .int x2), (3, .int v4), (4, .int v26)]) [1, 2, 3, 4, 0] rfl ?_
                      exact ih68 v26 (sA Z14 16 w24) g25 hB0 hFr res68 hF KX68
              refine aV.sub (lv' := [(0, .ref a0), (1, .int x1), (2, .int x2), (3, .int v4), (4, .int (0 : Int32))]) [1, 2, 3, 4, 0] rfl ?_
              obtain ⟨e27, he27, hF⟩ := Option.bind_eq_some_iff.mp hF
              refine L68 aFu (0 : Int32) (sA (sA Z5 16 w9) 18 w11) g12 hB0 hFr e27 he27 (fun g28 hB0 hFr => ?_)
              obtain ⟨v29, qv29⟩ : ∃ y : Int32, y = (v4 + (1 : Int32)) := ⟨_, rfl⟩
              replace hF := aLet_e hF v29 qv29
              refine ab_iinc (lv' := [(3, .int v29), (0, .ref a0), (1, .int x1), (2, .int x2)]) C 3 rfl dX9_marry_113 (by rw [qv29]; rfl) (by decide) rfl ?_
              refine ab_goto C 40 dX9_marry_116 (by decide) ?_
              refine aV.sub (lv' := [(0, .ref a0), (1, .int x1), (2, .int x2), (3, .int v29)]) [1, 2, 3, 0] rfl ?_
              exact ih40 v29 e27 g28 hB0 hFr res40 hF KX40
        refine aV.sub (lv' := [(0, .ref a0), (1, .int x1), (2, .int x2), (3, .int (0 : Int32))]) [1, 2, 3, 0] rfl ?_
        obtain ⟨e30, he30, hF⟩ := Option.bind_eq_some_iff.mp hF
        refine L40 aFu (0 : Int32) S0 h hB0 hFr e30 he30 (fun g31 hB0 hFr => ?_)
        refine ab_aload_n C 0 rfl rfl dX9_marry_119 ?_
        refine ab_g9 (v := .ref (a0 + 12)) C lf_X9_44 hB0.1 rfl dX9_marry_120 ?_
        refine ab_iconst (v := (0 : Int32)) C dX9_marry_123 (by decide) ?_
        refine ab_iconst (v := (0 : Int32)) C dX9_marry_124 (by decide) ?_
        obtain ⟨w32, hxw32, hF⟩ := Option.bind_eq_some_iff.mp hF
        refine ab_iast C (X9_r17 hB0) hxw32 dX9_marry_125 (fun g33 eg33 og33 => ?_)
        have hB0 : X9_at g33 a0 (sA e30 17 w32) := X9_w17 hB0 eg33 og33
        have hFr : ∀ q, (q < a0 ∨ a0 + 20 ≤ q) → g33 q = h q := fun q u0 => (og33 q (by omega)).trans (hFr q u0)
        refine ab_iconst (v := (1 : Int32)) C dX9_marry_126 (by decide) ?_
        refine ab_aload_n C 0 rfl rfl dX9_marry_127 ?_
        refine ab_g9 (v := .ref (a0 + 1)) C lf_X9_7 hB0.1 rfl dX9_marry_128 ?_
        refine ab_iconst (v := (0 : Int32)) C dX9_marry_131 (by decide) ?_
        obtain ⟨v34, hxv34, hF⟩ := Option.bind_eq_some_iff.mp hF
        refine ab_iald C (X9_r0 hB0) hxv34 dX9_marry_132 ?_
        refine ab_ishl C dX9_marry_133 ?_
        refine ab_iconst (v := (1 : Int32)) C dX9_marry_134 (by decide) ?_
        refine ab_isub C dX9_marry_135 ?_
        refine ab_topi (fun v35 qv35 => ?_)
        replace hF := aLet_e hF v35 qv35
        refine ab_istore_n (lv' := [(3, .int v35), (0, .ref a0), (1, .int x1)]) C dX9_marry_136 rfl (by decide) rfl ?_
        refine ab_iconst (v := (1 : Int32)) C dX9_marry_137 (by decide) ?_
        refine ab_istore (lv' := [(4, .int (1 : Int32)), (3, .int v35), (0, .ref a0), (1, .int x1)]) C dX9_marry_138 (by decide) rfl ?_
        have L140 : ∀ (n140 : Nat) (v36 : Int32) (Z37 : Rec) (g38 : aH), (X9_at g38 a0 Z37) → (∀ q, (q < a0 ∨ a0 + 20 ≤ q) → g38 q = h q) → ∀ (res140 : Rec), X9_marry_L140 v35 n140 v36 Z37 = some res140 → (∀ (q9 : aH), (X9_at q9 a0 res140) → (∀ q, (q < a0 ∨ a0 + 20 ≤ q) → q9 q = h q) → aV X G 8 286 [(0, .ref a0), (1, .int x1), (3, .int v35)] [] q9 nx 0 0) → aV X G 8 140 [(0, .ref a0), (1, .int x1), (3, .int v35), (4, .int v36)] [] g38 nx 0 0 := by
          intro n140
          induction n140 with
          | zero => intro v36 Z37 g38 hB0 hFr res140 hF KX140; cases (show (none : Option (Rec)) = some res140 from hF)
          | succ n140 ih140 =>
            intro v36 Z37 g38 hB0 hFr res140 hF KX140
            rw [X9_marry_L140] at hF
            refine ab_iload C 3 rfl dX9_marry_140 ?_
            refine ab_iload_n C 2 rfl rfl dX9_marry_142 ?_
            refine ab_icmp_gt C 286 dX9_marry_143 (by decide) (fun c39 => ?_) (fun c39 => ?_)
            · replace hF := (if_pos c39).symm.trans hF
              obtain rfl := Option.some.inj hF
              refine aV.sub (lv' := [(0, .ref a0), (1, .int x1), (3, .int v35)]) [0, 1, 2] rfl ?_
              exact KX140 g38 hB0 hFr
            · replace hF := (if_neg c39).symm.trans hF
              refine ab_iload C 3 rfl dX9_marry_146 ?_
              obtain ⟨v40, hxv40, hF⟩ := Option.bind_eq_some_iff.mp hF
              refine ab_cSR (v := .int v40) (st := []) C lm_X9_229 (X9_lowest_ok (xl X) (r := v40) hxv40) rfl rfl (by decide) ⟨Nat.zero_le _, Nat.zero_le _⟩ (Nat.le_of_ble_eq_true rfl) dX9_marry_148 ?_
              refine ab_istore (lv' := [(5, .int v40), (0, .ref a0), (1, .int x1), (3, .int v35), (4, .int v36)]) C dX9_marry_151 (by decide) rfl ?_
              refine ab_aload_n C 1 rfl rfl dX9_marry_153 ?_
              refine ab_g9 (v := .ref (a0 + 12)) C lf_X9_44 hB0.1 rfl dX9_marry_154 ?_
              refine ab_iload C 4 rfl dX9_marry_157 ?_
              refine ab_aload_n C 1 rfl rfl dX9_marry_159 ?_
              refine ab_g9 (v := .ref (a0 + 12)) C lf_X9_44 hB0.1 rfl dX9_marry_160 ?_
              refine ab_iload C 4 rfl dX9_marry_163 ?_
              refine ab_iconst (v := (1 : Int32)) C dX9_marry_165 (by decide) ?_
              refine ab_iload C 0 rfl dX9_marry_166 ?_
              refine ab_ishl C dX9_marry_168 ?_
              refine ab_iconst (v := (-1 : Int32)) C dX9_marry_169 (by decide) ?_
              refine ab_ixor C dX9_marry_170 ?_
              refine ab_iand C dX9_marry_171 ?_
              obtain ⟨v41, hxv41, hF⟩ := Option.bind_eq_some_iff.mp hF
              refine ab_iald C (X9_r17 hB0) hxv41 dX9_marry_172 ?_
              obtain ⟨w42, hxw42, hF⟩ := Option.bind_eq_some_iff.mp hF
              refine ab_iast C (X9_r17 hB0) hxw42 dX9_marry_173 (fun g43 eg43 og43 => ?_)
              have hB0 : X9_at g43 a0 (sA Z37 17 w42) := X9_w17 hB0 eg43 og43
              have hFr : ∀ q, (q < a0 ∨ a0 + 20 ≤ q) → g43 q = h q := fun q u0 => (og43 q (by omega)).trans (hFr q u0)
              refine ab_iload C 0 rfl dX9_marry_174 ?_
              refine ab_iconst (v := (1 : Int32)) C dX9_marry_176 (by decide) ?_
              refine ab_iadd C dX9_marry_177 ?_
              refine ab_topi (fun v44 qv44 => ?_)
              replace hF := aLet_e hF v44 qv44
              refine ab_istore (lv' := [(6, .int v44), (5, .int v40), (0, .ref a0), (1, .int x1), (3, .int v35), (4, .int v36)]) C dX9_marry_178 (by decide) rfl ?_
              have L180 : ∀ (n180 : Nat) (v45 : Int32) (Z46 : Rec) (g47 : aH), (X9_at g47 a0 Z46) → (∀ q, (q < a0 ∨ a0 + 20 ≤ q) → g47 q = h q) → ∀ (res180 : Rec), X9_marry_L180 v36 v40 n180 v45 Z46 = some res180 → (∀ (q9 : aH), (X9_at q9 a0 res180) → (∀ q, (q < a0 ∨ a0 + 20 ≤ q) → q9 q = h q) → aV X G 8 280 [(0, .ref a0), (1, .int x1), (3, .int v35), (4, .int v36)] [] q9 nx 0 0) → aV X G 8 180 [(0, .ref a0), (1, .int x1), (3, .int v35), (4, .int v36), (5, .int v40), (6, .int v45)] [] g47 nx 0 0 := by
                intro n180
                induction n180 with
                | zero => intro v45 Z46 g47 hB0 hFr res180 hF KX180; cases (show (none : Option (Rec)) = some res180 from hF)
                | succ n180 ih180 =>
                  intro v45 Z46 g47 hB0 hFr res180 hF KX180
                  rw [X9_marry_L180] at hF
                  refine ab_iload C 5 rfl dX9_marry_180 ?_
                  refine ab_aload_n C 0 rfl rfl dX9_marry_182 ?_
                  refine ab_g9 (v := .ref (a0 + 1)) C lf_X9_7 hB0.1 rfl dX9_marry_183 ?_
                  refine ab_iconst (v := (0 : Int32)) C dX9_marry_186 (by decide) ?_
                  obtain ⟨v48, hxv48, hF⟩ := Option.bind_eq_some_iff.mp hF
                  refine ab_iald C (X9_r0 hB0) hxv48 dX9_marry_187 ?_
                  refine ab_icmp_ge C 280 dX9_marry_188 (by decide) (fun c49 => ?_) (fun c49 => ?_)
                  · replace hF := (if_pos c49).symm.trans hF
                    obtain rfl := Option.some.inj hF
                    refine aV.sub (lv' := [(0, .ref a0), (1, .int x1), (3, .int v35), (4, .int v36)]) [0, 1, 2, 3] rfl ?_
                    exact KX180 g47 hB0 hFr
                  · replace hF := (if_neg c49).symm.trans hF
                    refine ab_iload C 3 rfl dX9_marry_191 ?_
                    refine ab_iload C 5 rfl dX9_marry_193 ?_
                    refine ab_cSR (v := .int (X9_has v36 v45)) (st := []) C lm_X9_226 (X9_has_ok (xl X) (r := (X9_has v36 v45)) rfl) rfl rfl (by decide) ⟨Nat.zero_le _, Nat.zero_le _⟩ (Nat.le_of_ble_eq_true rfl) dX9_marry_195 ?_
                    have J241 : ∀ (v50 : Int32), X9_marry_J241 Z46 v36 v45 (X9_marry_L180 v36 v40 n180) v50 = some res180 → aV X G 8 241 [(0, .ref a0), (1, .int x1), (3, .int v35), (4, .int v36), (5, .int v40), (6, .int v45)] [.int v50] g47 nx 0 0 := by
                      intro v50 hF
                      rw [X9_marry_J241] at hF
                      refine ab_istore (lv' := [(7, .int v50), (0, .ref a0), (1, .int x1), (3, .int v35), (4, .int v36), (5, .int v40), (6, .int v45)]) C dX9_marry_241 (by decide) rfl ?_
                      refine ab_aload_n C 1 rfl rfl dX9_marry_243 ?_
                      refine ab_g9 (v := .ref (a0 + 12)) C lf_X9_44 hB0.1 rfl dX9_marry_244 ?_
                      refine ab_iload C 4 rfl dX9_marry_247 ?_
                      refine ab_iload C 0 rfl dX9_marry_249 ?_
                      refine ab_aload_n C 1 rfl rfl dX9_marry_251 ?_
                      refine ab_g9 (v := .ref (a0 + 12)) C lf_X9_44 hB0.1 rfl dX9_marry_252 ?_
                      refine ab_iload C 4 rfl dX9_marry_255 ?_
                      obtain ⟨v51, hxv51, hF⟩ := Option.bind_eq_some_iff.mp hF
                      refine ab_iald C (X9_r17 hB0) hxv51 dX9_marry_257 ?_
                      refine ab_icmp_le C 266 dX9_marry_258 (by decide) (fun c52 => ?_) (fun c52 => ?_)
                      · replace hF := (if_pos c52).symm.trans hF
                        refine ab_aload_n C 1 rfl rfl dX9_marry_266 ?_
                        refine ab_g9 (v := .ref (a0 + 12)) C lf_X9_44 hB0.1 rfl dX9_marry_267 ?_
                        refine ab_iload C 4 rfl dX9_marry_270 ?_
                        obtain ⟨v53, hxv53, hF⟩ := Option.bind_eq_some_iff.mp hF
                        refine ab_iald C (X9_r17 hB0) hxv53 dX9_marry_272 ?_
                        obtain ⟨w54, hxw54, hF⟩ := Option.bind_eq_some_iff.mp hF
                        refine ab_iast C (X9_r17 hB0) hxw54 dX9_marry_273 (fun g55 eg55 og55 => ?_)
                        have hB0 : X9_at g55 a0 (sA Z46 17 w54) := X9_w17 hB0 eg55 og55
                        have hFr : ∀ q, (q < a0 ∨ a0 + 20 ≤ q) → g55 q = h q := fun q u0 => (og55 q (by omega)).trans (hFr q u0)
                        obtain ⟨v56, qv56⟩ : ∃ y : Int32, y = (v45 + (1 : Int32)) := ⟨_, rfl⟩
                        replace hF := aLet_e hF v56 qv56
                        refine ab_iinc (lv' := [(6, .int v56), (7, .int v50), (0, .ref a0), (1, .int x1), (3, .int v35), (4, .int v36), (5, .int v40)]) C 6 rfl dX9_marry_274 (by rw [qv56]; rfl) (by decide) rfl ?_
                        refine ab_goto C 180 dX9_marry_277 (by decide) ?_
                        refine aV.sub (lv' := [(0, .ref a0), (1, .int x1), (3, .int v35), (4, .int v36), (5, .int v40), (6, .int v56)]) [2, 3, 4, 5, 6, 0] rfl ?_
                        exact ih180 v56 (sA Z46 17 w54) g55 hB0 hFr res180 hF KX180
                      · replace hF := (if_neg c52).symm.trans hF
                        refine ab_iload C 0 rfl dX9_marry_261 ?_
                        refine ab_goto C 273 dX9_marry_263 (by decide) ?_
                        obtain ⟨w57, hxw57, hF⟩ := Option.bind_eq_some_iff.mp hF
                        refine ab_iast C (X9_r17 hB0) hxw57 dX9_marry_273 (fun g58 eg58 og58 => ?_)
                        have hB0 : X9_at g58 a0 (sA Z46 17 w57) := X9_w17 hB0 eg58 og58
                        have hFr : ∀ q, (q < a0 ∨ a0 + 20 ≤ q) → g58 q = h q := fun q u0 => (og58 q (by omega)).trans (hFr q u0)
                        obtain ⟨v59, qv59⟩ : ∃ y : Int32, y = (v45 + (1 : Int32)) := ⟨_, rfl⟩
                        replace hF := aLet_e hF v59 qv59
                        refine ab_iinc (lv' := [(6, .int v59), (7, .int v50), (0, .ref a0), (1, .int x1), (3, .int v35), (4, .int v36), (5, .int v40)]) C 6 rfl dX9_marry_274 (by rw [qv59]; rfl) (by decide) rfl ?_
                        refine ab_goto C 180 dX9_marry_277 (by decide) ?_
                        refine aV.sub (lv' := [(0, .ref a0), (1, .int x1), (3, .int v35), (4, .int v36), (5, .int v40), (6, .int v59)]) [2, 3, 4, 5, 6, 0] rfl ?_
                        exact ih180 v59 (sA Z46 17 w57) g58 hB0 hFr res180 hF KX180
                    have J240 : X9_marry_J240 Z46 v36 v45 (X9_marry_L180 v36 v40 n180) = some res180 → aV X G 8 240 [(0, .ref a0), (1, .int x1), (3, .int v35), (4, .int v36), (5, .int v40), (6, .int v45)] [] g47 nx 0 0 := by
                      intro  hF
                      rw [X9_marry_J240] at hF
                      refine ab_iconst (v := (0 : Int32)) C dX9_marry_240 (by decide) ?_
                      exact J241 (0 : Int32) hF
                    refine ab_if_eq C 240 dX9_marry_198 (by decide) (fun c60 => ?_) (fun c60 => ?_)
                    · replace hF := (if_pos c60).symm.trans hF
                      exact J240 hF
                    · replace hF := (if_neg c60).symm.trans hF
                      refine ab_aload_n C 0 rfl rfl dX9_marry_201 ?_
                      refine ab_g9 (v := .ref (a0 + 11)) C lf_X9_41 hB0.1 rfl dX9_marry_202 ?_
                      refine ab_iload C 4 rfl dX9_marry_205 ?_
                      obtain ⟨v61, hxv61, hF⟩ := Option.bind_eq_some_iff.mp hF
                      refine ab_iald C (X9_r16 hB0) hxv61 dX9_marry_207 ?_
                      refine ab_iload C 5 rfl dX9_marry_208 ?_
                      refine ab_cSR (v := .int (X9_has v61 v45)) (st := []) C lm_X9_226 (X9_has_ok (xl X) (r := (X9_has v61 v45)) rfl) rfl rfl (by decide) ⟨Nat.zero_le _, Nat.zero_le _⟩ (Nat.le_of_ble_eq_true rfl) dX9_marry_210 ?_
                      refine ab_if_eq C 240 dX9_marry_213 (by decide) (fun c62 => ?_) (fun c62 => ?_)
                      · replace hF := (if_pos c62).symm.trans hF
                        exact J240 hF
                      · replace hF := (if_neg c62).symm.trans hF
                        refine ab_iconst (v := (1 : Int32)) C dX9_marry_216 (by decide) ?_
                        refine ab_aload_n C 0 rfl rfl dX9_marry_217 ?_
                        refine ab_g9 (v := .ref (a0 + 12)) C lf_X9_44 hB0.1 rfl dX9_marry_218 ?_
                        refine ab_iload C 3 rfl dX9_marry_221 ?_
                        refine ab_iconst (v := (1 : Int32)) C dX9_marry_223 (by decide) ?_
                        refine ab_iload C 4 rfl dX9_marry_224 ?_
                        refine ab_ishl C dX9_marry_226 ?_
                        refine ab_iconst (v := (1 : Int32)) C dX9_marry_227 (by decide) ?_
                        refine ab_iload C 5 rfl dX9_marry_228 ?_
                        refine ab_ishl C dX9_marry_230 ?_
                        refine ab_ior C dX9_marry_231 ?_
                        refine ab_iconst (v := (-1 : Int32)) C dX9_marry_232 (by decide) ?_
                        refine ab_ixor C dX9_marry_233 ?_
                        refine ab_iand C dX9_marry_234 ?_
                        obtain ⟨v63, hxv63, hF⟩ := Option.bind_eq_some_iff.mp hF
                        refine ab_iald C (X9_r17 hB0) hxv63 dX9_marry_235 ?_
                        refine ab_iadd C dX9_marry_236 ?_
                        refine ab_goto C 241 dX9_marry_237 (by decide) ?_
                        exact J241 ((1 : Int32) + v63) hF
              refine aV.sub (lv' := [(0, .ref a0), (1, .int x1), (3, .int v35), (4, .int v36), (5, .int v40), (6, .int v44)]) [2, 3, 4, 5, 1, 0] rfl ?_
              obtain ⟨e64, he64, hF⟩ := Option.bind_eq_some_iff.mp hF
              refine L180 aFu v44 (sA Z37 17 w42) g43 hB0 hFr e64 he64 (fun g65 hB0 hFr => ?_)
              obtain ⟨v66, qv66⟩ : ∃ y : Int32, y = (v36 + (1 : Int32)) := ⟨_, rfl⟩
              replace hF := aLet_e hF v66 qv66
              refine ab_iinc (lv' := [(4, .int v66), (0, .ref a0), (1, .int x1), (3, .int v35)]) C 3 rfl dX9_marry_280 (by rw [qv66]; rfl) (by decide) rfl ?_
              refine ab_goto C 140 dX9_marry_283 (by decide) ?_
              refine aV.sub (lv' := [(0, .ref a0), (1, .int x1), (3, .int v35), (4, .int v66)]) [1, 2, 3, 0] rfl ?_
              exact ih140 v66 e64 g65 hB0 hFr res140 hF KX140
        refine aV.sub (lv' := [(0, .ref a0), (1, .int x1), (3, .int v35), (4, .int (1 : Int32))]) [2, 3, 1, 0] rfl ?_
        obtain ⟨e67, he67, hF⟩ := Option.bind_eq_some_iff.mp hF
        refine L140 aFu (1 : Int32) (sA e30 17 w32) g33 hB0 hFr e67 he67 (fun g68 hB0 hFr => ?_)
        refine ab_iload_n C 2 rfl rfl dX9_marry_286 ?_
        refine ab_istore (lv' := [(4, .int v35), (0, .ref a0), (1, .int x1), (3, .int v35)]) C dX9_marry_287 (by decide) rfl ?_
        refine ab_iconst (v := (0 : Int32)) C dX9_marry_289 (by decide) ?_
        refine ab_istore (lv' := [(5, .int (0 : Int32)), (4, .int v35), (0, .ref a0), (1, .int x1), (3, .int v35)]) C dX9_marry_290 (by decide) rfl ?_
        have L292 : ∀ (n292 : Nat) (v69 : Int32) (v70 : Int32) (Z71 : Rec) (g72 : aH), (X9_at g72 a0 Z71) → (∀ q, (q < a0 ∨ a0 + 20 ≤ q) → g72 q = h q) → ∀ (res292 : Rec), X9_marry_L292 n292 v69 v70 Z71 = some res292 → (∀ (q9 : aH), (X9_at q9 a0 res292) → (∀ q, (q < a0 ∨ a0 + 20 ≤ q) → q9 q = h q) → aV X G 8 435 [(0, .ref a0), (1, .int x1), (3, .int v35)] [] q9 nx 0 0) → aV X G 8 292 [(0, .ref a0), (1, .int x1), (3, .int v35), (4, .int v69), (5, .int v70)] [] g72 nx 0 0 := by
          intro n292
          induction n292 with
          | zero => intro v69 v70 Z71 g72 hB0 hFr res292 hF KX292; cases (show (none : Option (Rec)) = some res292 from hF)
          | succ n292 ih292 =>
            intro v69 v70 Z71 g72 hB0 hFr res292 hF KX292
            rw [X9_marry_L292] at hF
            refine ab_iload C 4 rfl dX9_marry_292 ?_
            refine ab_aload_n C 0 rfl rfl dX9_marry_294 ?_
            refine ab_g9 (v := .ref (a0 + 1)) C lf_X9_7 hB0.1 rfl dX9_marry_295 ?_
            refine ab_iconst (v := (0 : Int32)) C dX9_marry_298 (by decide) ?_
            obtain ⟨v73, hxv73, hF⟩ := Option.bind_eq_some_iff.mp hF
            refine ab_iald C (X9_r0 hB0) hxv73 dX9_marry_299 ?_
            refine ab_icmp_ge C 435 dX9_marry_300 (by decide) (fun c74 => ?_) (fun c74 => ?_)
            · replace hF := (if_pos c74).symm.trans hF
              obtain rfl := Option.some.inj hF
              refine aV.sub (lv' := [(0, .ref a0), (1, .int x1), (3, .int v35)]) [0, 1, 2] rfl ?_
              exact KX292 g72 hB0 hFr
            · replace hF := (if_neg c74).symm.trans hF
              refine ab_iload C 4 rfl dX9_marry_303 ?_
              refine ab_iconst (v := (1 : Int32)) C dX9_marry_305 (by decide) ?_
              refine ab_iadd C dX9_marry_306 ?_
              refine ab_topi (fun v75 qv75 => ?_)
              replace hF := aLet_e hF v75 qv75
              refine ab_istore (lv' := [(6, .int v75), (0, .ref a0), (1, .int x1), (3, .int v35), (4, .int v69), (5, .int v70)]) C dX9_marry_307 (by decide) rfl ?_
              have L309 : ∀ (n309 : Nat) (v76 : Int32) (v77 : Int32) (Z78 : Rec) (g79 : aH), (X9_at g79 a0 Z78) → (∀ q, (q < a0 ∨ a0 + 20 ≤ q) → g79 q = h q) → ∀ (res309 : Int32 × Rec), X9_marry_L309 v70 n309 v76 v77 Z78 = some res309 → (∀ (q9 : aH), (X9_at q9 a0 res309.2) → (∀ q, (q < a0 ∨ a0 + 20 ≤ q) → q9 q = h q) → aV X G 8 418 [(0, .ref a0), (1, .int x1), (3, .int v35), (4, .int res309.1), (5, .int v70)] [] q9 nx 0 0) → aV X G 8 309 [(0, .ref a0), (1, .int x1), (3, .int v35), (4, .int v76), (5, .int v70), (6, .int v77)] [] g79 nx 0 0 := by
                intro n309
                induction n309 with
                | zero => intro v76 v77 Z78 g79 hB0 hFr res309 hF KX309; cases (show (none : Option (Int32 × Rec)) = some res309 from hF)
                | succ n309 ih309 =>
                  intro v76 v77 Z78 g79 hB0 hFr res309 hF KX309
                  rw [X9_marry_L309] at hF
                  refine ab_iload C 5 rfl dX9_marry_309 ?_
                  refine ab_aload_n C 0 rfl rfl dX9_marry_311 ?_
                  refine ab_g9 (v := .ref (a0 + 1)) C lf_X9_7 hB0.1 rfl dX9_marry_312 ?_
                  refine ab_iconst (v := (0 : Int32)) C dX9_marry_315 (by decide) ?_
                  obtain ⟨v80, hxv80, hF⟩ := Option.bind_eq_some_iff.mp hF
                  refine ab_iald C (X9_r0 hB0) hxv80 dX9_marry_316 ?_
                  refine ab_icmp_ge C 418 dX9_marry_317 (by decide) (fun c81 => ?_) (fun c81 => ?_)
                  · replace hF := (if_pos c81).symm.trans hF
                    obtain rfl := Option.some.inj hF
                    refine aV.sub (lv' := [(0, .ref a0), (1, .int x1), (3, .int v35), (4, .int v76), (5, .int v70)]) [0, 1, 2, 3, 4] rfl ?_
                    exact KX309 g79 hB0 hFr
                  · replace hF := (if_neg c81).symm.trans hF
                    refine ab_iload C 3 rfl dX9_marry_320 ?_
                    refine ab_iload C 4 rfl dX9_marry_322 ?_
                    refine ab_cSR (v := .int (X9_has v76 v70)) (st := []) C lm_X9_226 (X9_has_ok (xl X) (r := (X9_has v76 v70)) rfl) rfl rfl (by decide) ⟨Nat.zero_le _, Nat.zero_le _⟩ (Nat.le_of_ble_eq_true rfl) dX9_marry_324 ?_
                    refine ab_if_eq C 418 dX9_marry_327 (by decide) (fun c82 => ?_) (fun c82 => ?_)
                    · replace hF := (if_pos c82).symm.trans hF
                      obtain rfl := Option.some.inj hF
                      refine aV.sub (lv' := [(0, .ref a0), (1, .int x1), (3, .int v35), (4, .int v76), (5, .int v70)]) [0, 1, 2, 3, 4] rfl ?_
                      exact KX309 g79 hB0 hFr
                    · replace hF := (if_neg c82).symm.trans hF
                      refine ab_iload C 3 rfl dX9_marry_330 ?_
                      refine ab_iconst (v := (1 : Int32)) C dX9_marry_332 (by decide) ?_
                      refine ab_iload C 4 rfl dX9_marry_333 ?_
                      refine ab_ishl C dX9_marry_335 ?_
                      refine ab_iconst (v := (1 : Int32)) C dX9_marry_336 (by decide) ?_
                      refine ab_iload C 5 rfl dX9_marry_337 ?_
                      refine ab_ishl C dX9_marry_339 ?_
                      refine ab_ior C dX9_marry_340 ?_
                      refine ab_iconst (v := (-1 : Int32)) C dX9_marry_341 (by decide) ?_
                      refine ab_ixor C dX9_marry_342 ?_
                      refine ab_iand C dX9_marry_343 ?_
                      refine ab_topi (fun v83 qv83 => ?_)
                      replace hF := aLet_e hF v83 qv83
                      refine ab_istore (lv' := [(7, .int v83), (0, .ref a0), (1, .int x1), (3, .int v35), (4, .int v76), (5, .int v70), (6, .int v77)]) C dX9_marry_344 (by decide) rfl ?_
                      refine ab_iload C 4 rfl dX9_marry_346 ?_
                      refine ab_iload C 6 rfl dX9_marry_348 ?_
                      refine ab_cSR (v := .int (X9_has v76 v77)) (st := []) C lm_X9_226 (X9_has_ok (xl X) (r := (X9_has v76 v77)) rfl) rfl rfl (by decide) ⟨Nat.zero_le _, Nat.zero_le _⟩ (Nat.le_of_ble_eq_true rfl) dX9_marry_350 ?_
                      refine ab_if_eq C 412 dX9_marry_353 (by decide) (fun c84 => ?_) (fun c84 => ?_)
                      · replace hF := (if_pos c84).symm.trans hF
                        obtain ⟨v85, qv85⟩ : ∃ y : Int32, y = (v77 + (1 : Int32)) := ⟨_, rfl⟩
                        replace hF := aLet_e hF v85 qv85
                        refine ab_iinc (lv' := [(6, .int v85), (7, .int v83), (0, .ref a0), (1, .int x1), (3, .int v35), (4, .int v76), (5, .int v70)]) C 6 rfl dX9_marry_412 (by rw [qv85]; rfl) (by decide) rfl ?_
                        refine ab_goto C 309 dX9_marry_415 (by decide) ?_
                        refine aV.sub (lv' := [(0, .ref a0), (1, .int x1), (3, .int v35), (4, .int v76), (5, .int v70), (6, .int v85)]) [2, 3, 4, 5, 6, 0] rfl ?_
                        exact ih309 v76 v85 Z78 g79 hB0 hFr res309 hF KX309
                      · replace hF := (if_neg c84).symm.trans hF
                        refine ab_aload_n C 1 rfl rfl dX9_marry_356 ?_
                        refine ab_g9 (v := .ref (a0 + 11)) C lf_X9_41 hB0.1 rfl dX9_marry_357 ?_
                        refine ab_iload C 5 rfl dX9_marry_360 ?_
                        obtain ⟨v86, hxv86, hF⟩ := Option.bind_eq_some_iff.mp hF
                        refine ab_iald C (X9_r16 hB0) hxv86 dX9_marry_362 ?_
                        refine ab_iload C 6 rfl dX9_marry_363 ?_
                        refine ab_cSR (v := .int (X9_has v86 v77)) (st := []) C lm_X9_226 (X9_has_ok (xl X) (r := (X9_has v86 v77)) rfl) rfl rfl (by decide) ⟨Nat.zero_le _, Nat.zero_le _⟩ (Nat.le_of_ble_eq_true rfl) dX9_marry_365 ?_
                        refine ab_if_eq C 412 dX9_marry_368 (by decide) (fun c87 => ?_) (fun c87 => ?_)
                        · replace hF := (if_pos c87).symm.trans hF
                          obtain ⟨v88, qv88⟩ : ∃ y : Int32, y = (v77 + (1 : Int32)) := ⟨_, rfl⟩
                          replace hF := aLet_e hF v88 qv88
                          refine ab_iinc (lv' := [(6, .int v88), (7, .int v83), (0, .ref a0), (1, .int x1), (3, .int v35), (4, .int v76), (5, .int v70)]) C 6 rfl dX9_marry_412 (by rw [qv88]; rfl) (by decide) rfl ?_
                          refine ab_goto C 309 dX9_marry_415 (by decide) ?_
                          refine aV.sub (lv' := [(0, .ref a0), (1, .int x1), (3, .int v35), (4, .int v76), (5, .int v70), (6, .int v88)]) [2, 3, 4, 5, 6, 0] rfl ?_
                          exact ih309 v76 v88 Z78 g79 hB0 hFr res309 hF KX309
                        · replace hF := (if_neg c87).symm.trans hF
                          refine ab_iconst (v := (1 : Int32)) C dX9_marry_371 (by decide) ?_
                          refine ab_aload_n C 1 rfl rfl dX9_marry_372 ?_
                          refine ab_g9 (v := .ref (a0 + 12)) C lf_X9_44 hB0.1 rfl dX9_marry_373 ?_
                          refine ab_iload C 0 rfl dX9_marry_376 ?_
                          obtain ⟨v89, hxv89, hF⟩ := Option.bind_eq_some_iff.mp hF
                          refine ab_iald C (X9_r17 hB0) hxv89 dX9_marry_378 ?_
                          refine ab_iadd C dX9_marry_379 ?_
                          refine ab_aload_n C 1 rfl rfl dX9_marry_380 ?_
                          refine ab_g9 (v := .ref (a0 + 12)) C lf_X9_44 hB0.1 rfl dX9_marry_381 ?_
                          refine ab_iload C 4 rfl dX9_marry_384 ?_
                          obtain ⟨v90, hxv90, hF⟩ := Option.bind_eq_some_iff.mp hF
                          refine ab_iald C (X9_r17 hB0) hxv90 dX9_marry_386 ?_
                          refine ab_icmp_ne C 412 dX9_marry_387 (by decide) (fun c91 => ?_) (fun c91 => ?_)
                          · replace hF := (if_neg c91).symm.trans hF
                            obtain ⟨v92, qv92⟩ : ∃ y : Int32, y = (v77 + (1 : Int32)) := ⟨_, rfl⟩
                            replace hF := aLet_e hF v92 qv92
                            refine ab_iinc (lv' := [(6, .int v92), (7, .int v83), (0, .ref a0), (1, .int x1), (3, .int v35), (4, .int v76), (5, .int v70)]) C 6 rfl dX9_marry_412 (by rw [qv92]; rfl) (by decide) rfl ?_
                            refine ab_goto C 309 dX9_marry_415 (by decide) ?_
                            refine aV.sub (lv' := [(0, .ref a0), (1, .int x1), (3, .int v35), (4, .int v76), (5, .int v70), (6, .int v92)]) [2, 3, 4, 5, 6, 0] rfl ?_
                            exact ih309 v76 v92 Z78 g79 hB0 hFr res309 hF KX309
                          · replace hF := (if_pos c91).symm.trans hF
                            refine ab_aload_n C 1 rfl rfl dX9_marry_390 ?_
                            refine ab_g9 (v := .ref (a0 + 13)) C lf_X9_47 hB0.1 rfl dX9_marry_391 ?_
                            refine ab_iload C 5 rfl dX9_marry_394 ?_
                            refine ab_iload C 6 rfl dX9_marry_396 ?_
                            obtain ⟨w93, hxw93, hF⟩ := Option.bind_eq_some_iff.mp hF
                            refine ab_iast C (X9_r18 hB0) hxw93 dX9_marry_398 (fun g94 eg94 og94 => ?_)
                            have hB0 : X9_at g94 a0 (sA Z78 18 w93) := X9_w18 hB0 eg94 og94
                            have hFr : ∀ q, (q < a0 ∨ a0 + 20 ≤ q) → g94 q = h q := fun q u0 => (og94 q (by omega)).trans (hFr q u0)
                            refine ab_aload_n C 1 rfl rfl dX9_marry_399 ?_
                            refine ab_g9 (v := .ref (a0 + 13)) C lf_X9_47 hB0.1 rfl dX9_marry_400 ?_
                            refine ab_iload C 6 rfl dX9_marry_403 ?_
                            refine ab_iload C 5 rfl dX9_marry_405 ?_
                            obtain ⟨w95, hxw95, hF⟩ := Option.bind_eq_some_iff.mp hF
                            refine ab_iast C (X9_r18 hB0) hxw95 dX9_marry_407 (fun g96 eg96 og96 => ?_)
                            have hB0 : X9_at g96 a0 (sA (sA Z78 18 w93) 18 w95) := X9_w18 hB0 eg96 og96
                            have hFr : ∀ q, (q < a0 ∨ a0 + 20 ≤ q) → g96 q = h q := fun q u0 => (og96 q (by omega)).trans (hFr q u0)
                            refine ab_iload C 0 rfl dX9_marry_408 ?_
                            refine ab_istore (lv' := [(4, .int v83), (7, .int v83), (0, .ref a0), (1, .int x1), (3, .int v35), (5, .int v70), (6, .int v77)]) C dX9_marry_410 (by decide) rfl ?_
                            obtain ⟨v97, qv97⟩ : ∃ y : Int32, y = (v77 + (1 : Int32)) := ⟨_, rfl⟩
                            replace hF := aLet_e hF v97 qv97
                            refine ab_iinc (lv' := [(6, .int v97), (4, .int v83), (7, .int v83), (0, .ref a0), (1, .int x1), (3, .int v35), (5, .int v70)]) C 6 rfl dX9_marry_412 (by rw [qv97]; rfl) (by decide) rfl ?_
                            refine ab_goto C 309 dX9_marry_415 (by decide) ?_
                            refine aV.sub (lv' := [(0, .ref a0), (1, .int x1), (3, .int v35), (4, .int v83), (5, .int v70), (6, .int v97)]) [3, 4, 5, 1, 6, 0] rfl ?_
                            exact ih309 v83 v97 (sA (sA Z78 18 w93) 18 w95) g96 hB0 hFr res309 hF KX309
              refine aV.sub (lv' := [(0, .ref a0), (1, .int x1), (3, .int v35), (4, .int v69), (5, .int v70), (6, .int v75)]) [1, 2, 3, 4, 5, 0] rfl ?_
              obtain ⟨e98, he98, hF⟩ := Option.bind_eq_some_iff.mp hF
              refine L309 aFu v69 v75 Z71 g72 hB0 hFr e98 he98 (fun g99 hB0 hFr => ?_)
              refine ab_iload C 3 rfl dX9_marry_418 ?_
              refine ab_iconst (v := (1 : Int32)) C dX9_marry_420 (by decide) ?_
              refine ab_iload C 4 rfl dX9_marry_421 ?_
              refine ab_ishl C dX9_marry_423 ?_
              refine ab_iconst (v := (-1 : Int32)) C dX9_marry_424 (by decide) ?_
              refine ab_ixor C dX9_marry_425 ?_
              refine ab_iand C dX9_marry_426 ?_
              refine ab_topi (fun v100 qv100 => ?_)
              replace hF := aLet_e hF v100 qv100
              refine ab_istore (lv' := [(4, .int v100), (0, .ref a0), (1, .int x1), (3, .int v35), (5, .int v70)]) C dX9_marry_427 (by decide) rfl ?_
              obtain ⟨v101, qv101⟩ : ∃ y : Int32, y = (v70 + (1 : Int32)) := ⟨_, rfl⟩
              replace hF := aLet_e hF v101 qv101
              refine ab_iinc (lv' := [(5, .int v101), (4, .int v100), (0, .ref a0), (1, .int x1), (3, .int v35)]) C 4 rfl dX9_marry_429 (by rw [qv101]; rfl) (by decide) rfl ?_
              refine ab_goto C 292 dX9_marry_432 (by decide) ?_
              refine aV.sub (lv' := [(0, .ref a0), (1, .int x1), (3, .int v35), (4, .int v100), (5, .int v101)]) [2, 3, 4, 1, 0] rfl ?_
              exact ih292 v100 v101 e98.2 g99 hB0 hFr res292 hF KX292
        refine aV.sub (lv' := [(0, .ref a0), (1, .int x1), (3, .int v35), (4, .int v35), (5, .int (0 : Int32))]) [2, 3, 4, 1, 0] rfl ?_
        obtain ⟨e102, he102, hF⟩ := Option.bind_eq_some_iff.mp hF
        refine L292 aFu v35 (0 : Int32) e67 g68 hB0 hFr e102 he102 (fun g103 hB0 hFr => ?_)
        refine ab_iload_n C 1 rfl rfl dX9_marry_435 ?_
        refine ab_bipush (v := (-4 : Int32)) C dX9_marry_436 (by decide) ?_
        refine ab_icmp_ne C 450 dX9_marry_438 (by decide) (fun c104 => ?_) (fun c104 => ?_)
        · replace hF := (if_neg c104).symm.trans hF
          refine ab_aload_n C 0 rfl rfl dX9_marry_450 ?_
          refine ab_g9 (v := .ref (a0 + 13)) C lf_X9_47 hB0.1 rfl dX9_marry_451 ?_
          refine ab_iload_n C 1 rfl rfl dX9_marry_454 ?_
          obtain ⟨v105, hxv105, hF⟩ := Option.bind_eq_some_iff.mp hF
          refine ab_iald C (X9_r18 hB0) hxv105 dX9_marry_455 ?_
          obtain rfl := Option.some.inj hF
          exact ab_iret C R0 rfl dX9_marry_456 ⟨rfl, rfl, hB0, hFr⟩
        · replace hF := (if_pos c104).symm.trans hF
          refine ab_aload_n C 0 rfl rfl dX9_marry_441 ?_
          refine ab_g9 (v := .ref (a0 + 12)) C lf_X9_44 hB0.1 rfl dX9_marry_442 ?_
          refine ab_iload_n C 2 rfl rfl dX9_marry_445 ?_
          obtain ⟨v106, hxv106, hF⟩ := Option.bind_eq_some_iff.mp hF
          refine ab_iald C (X9_r17 hB0) hxv106 dX9_marry_446 ?_
          refine ab_goto C 456 dX9_marry_447 (by decide) ?_
          obtain rfl := Option.some.inj hF
          exact ab_iret C R0 rfl dX9_marry_456 ⟨rfl, rfl, hB0, hFr⟩
      · replace hF := (if_pos c3).symm.trans hF
        refine ab_bipush (v := (-2 : Int32)) C dX9_marry_35 (by decide) ?_
        obtain rfl := Option.some.inj hF
        exact ab_iret C R0 rfl dX9_marry_37 ⟨rfl, rfl, hB0, hFr⟩
    refine ab_icmp_eq C 28 dX9_marry_15 (by decide) (fun c107 => ?_) (fun c107 => ?_)
    · replace hF := (if_pos c107).symm.trans hF
      exact J28 hF
    · replace hF := (if_neg c107).symm.trans hF
      refine ab_aload_n C 0 rfl rfl dX9_marry_18 ?_
      refine ab_iload_n C 1 rfl rfl dX9_marry_19 ?_
      obtain ⟨v108, hxv108, hF⟩ := Option.bind_eq_some_iff.mp hF
      refine ab_cVR (v := .int v108) (st := []) C lm_X9_153 (X9_isHolder_ok (xl X) hB0 (r := v108) hxv108) [.int x1] rfl hB0.1 rfl rfl rfl (by decide) ⟨Nat.zero_le _, Nat.zero_le _⟩ (Nat.le_of_ble_eq_true rfl) dX9_marry_20 ?_
      refine ab_if_ne C 28 dX9_marry_23 (by decide) (fun c109 => ?_) (fun c109 => ?_)
      · replace hF := (if_neg c109).symm.trans hF
        exact J28 hF
      · replace hF := (if_pos c109).symm.trans hF
        refine ab_iconst (v := (-1 : Int32)) C dX9_marry_26 (by decide) ?_
        obtain rfl := Option.some.inj hF
        exact ab_iret C R0 rfl dX9_marry_27 ⟨rfl, rfl, hB0, hFr⟩
theorem dX9_letters_0 : decode cX9_letters 0 = .ok (.aload_n 0, 1) := by decide +kernel
theorem dX9_letters_1 : decode cX9_letters 1 = .ok (.iload_n 1, 1) := by decide +kernel
theorem dX9_letters_2 : decode cX9_letters 2 = .ok (.invokevirtual 153, 3) := by decide +kernel
theorem dX9_letters_5 : decode cX9_letters 5 = .ok (.ifCond .eq 28, 3) := by decide +kernel
theorem dX9_letters_8 : decode cX9_letters 8 = .ok (.aload_n 0, 1) := by decide +kernel
theorem dX9_letters_9 : decode cX9_letters 9 = .ok (.iload_n 2, 1) := by decide +kernel
theorem dX9_letters_10 : decode cX9_letters 10 = .ok (.invokevirtual 153, 3) := by decide +kernel
theorem dX9_letters_13 : decode cX9_letters 13 = .ok (.ifCond .eq 20, 3) := by decide +kernel
theorem dX9_letters_16 : decode cX9_letters 16 = .ok (.iload_n 1, 1) := by decide +kernel
theorem dX9_letters_17 : decode cX9_letters 17 = .ok (.iload_n 2, 1) := by decide +kernel
theorem dX9_letters_18 : decode cX9_letters 18 = .ok (.if_icmp .eq 15, 3) := by decide +kernel
theorem dX9_letters_21 : decode cX9_letters 21 = .ok (.iload_n 3, 1) := by decide +kernel
theorem dX9_letters_22 : decode cX9_letters 22 = .ok (.i2l, 1) := by decide +kernel
theorem dX9_letters_23 : decode cX9_letters 23 = .ok (.lconst 1, 1) := by decide +kernel
theorem dX9_letters_24 : decode cX9_letters 24 = .ok (.ldc2_w 232, 3) := by decide +kernel
theorem dX9_letters_27 : decode cX9_letters 27 = .ok (.invokestatic 69, 3) := by decide +kernel
theorem dX9_letters_30 : decode cX9_letters 30 = .ok (.ifCond .ne 5, 3) := by decide +kernel
theorem dX9_letters_33 : decode cX9_letters 33 = .ok (.iconst (-1), 1) := by decide +kernel
theorem dX9_letters_34 : decode cX9_letters 34 = .ok (.ireturn, 1) := by decide +kernel
theorem dX9_letters_35 : decode cX9_letters 35 = .ok (.aload_n 0, 1) := by decide +kernel
theorem dX9_letters_36 : decode cX9_letters 36 = .ok (.getfield 7, 3) := by decide +kernel
theorem dX9_letters_39 : decode cX9_letters 39 = .ok (.iload_n 1, 1) := by decide +kernel
theorem dX9_letters_40 : decode cX9_letters 40 = .ok (.invokestatic 149, 3) := by decide +kernel
theorem dX9_letters_43 : decode cX9_letters 43 = .ok (.aload_n 0, 1) := by decide +kernel
theorem dX9_letters_44 : decode cX9_letters 44 = .ok (.getfield 7, 3) := by decide +kernel
theorem dX9_letters_47 : decode cX9_letters 47 = .ok (.iload_n 2, 1) := by decide +kernel
theorem dX9_letters_48 : decode cX9_letters 48 = .ok (.invokestatic 149, 3) := by decide +kernel
theorem dX9_letters_51 : decode cX9_letters 51 = .ok (.iand, 1) := by decide +kernel
theorem dX9_letters_52 : decode cX9_letters 52 = .ok (.invokestatic 165, 3) := by decide +kernel
theorem dX9_letters_55 : decode cX9_letters 55 = .ok (.istore 4, 2) := by decide +kernel
theorem dX9_letters_57 : decode cX9_letters 57 = .ok (.lconst 1, 1) := by decide +kernel
theorem dX9_letters_58 : decode cX9_letters 58 = .ok (.lstore 5, 2) := by decide +kernel
theorem dX9_letters_60 : decode cX9_letters 60 = .ok (.iconst 0, 1) := by decide +kernel
theorem dX9_letters_61 : decode cX9_letters 61 = .ok (.istore 7, 2) := by decide +kernel
theorem dX9_letters_63 : decode cX9_letters 63 = .ok (.lload 5, 2) := by decide +kernel
theorem dX9_letters_65 : decode cX9_letters 65 = .ok (.iload_n 3, 1) := by decide +kernel
theorem dX9_letters_66 : decode cX9_letters 66 = .ok (.i2l, 1) := by decide +kernel
theorem dX9_letters_67 : decode cX9_letters 67 = .ok (.lcmp, 1) := by decide +kernel
theorem dX9_letters_68 : decode cX9_letters 68 = .ok (.ifCond .ge 23, 3) := by decide +kernel
theorem dX9_letters_71 : decode cX9_letters 71 = .ok (.iload 4, 2) := by decide +kernel
theorem dX9_letters_73 : decode cX9_letters 73 = .ok (.iconst 1, 1) := by decide +kernel
theorem dX9_letters_74 : decode cX9_letters 74 = .ok (.if_icmp .le 17, 3) := by decide +kernel
theorem dX9_letters_77 : decode cX9_letters 77 = .ok (.lload 5, 2) := by decide +kernel
theorem dX9_letters_79 : decode cX9_letters 79 = .ok (.iload 4, 2) := by decide +kernel
theorem dX9_letters_81 : decode cX9_letters 81 = .ok (.i2l, 1) := by decide +kernel
theorem dX9_letters_82 : decode cX9_letters 82 = .ok (.lmul, 1) := by decide +kernel
theorem dX9_letters_83 : decode cX9_letters 83 = .ok (.lstore 5, 2) := by decide +kernel
theorem dX9_letters_85 : decode cX9_letters 85 = .ok (.iinc 7 1, 3) := by decide +kernel
theorem dX9_letters_88 : decode cX9_letters 88 = .ok (.goto (-25), 3) := by decide +kernel
theorem dX9_letters_91 : decode cX9_letters 91 = .ok (.lload 5, 2) := by decide +kernel
theorem dX9_letters_93 : decode cX9_letters 93 = .ok (.iload_n 3, 1) := by decide +kernel
theorem dX9_letters_94 : decode cX9_letters 94 = .ok (.i2l, 1) := by decide +kernel
theorem dX9_letters_95 : decode cX9_letters 95 = .ok (.lcmp, 1) := by decide +kernel
theorem dX9_letters_96 : decode cX9_letters 96 = .ok (.ifCond .ge 8, 3) := by decide +kernel
theorem dX9_letters_99 : decode cX9_letters 99 = .ok (.bipush (-4), 2) := by decide +kernel
theorem dX9_letters_101 : decode cX9_letters 101 = .ok (.goto 5, 3) := by decide +kernel
theorem dX9_letters_104 : decode cX9_letters 104 = .ok (.iload 7, 2) := by decide +kernel
theorem dX9_letters_106 : decode cX9_letters 106 = .ok (.ireturn, 1) := by decide +kernel
def X9_letters_L63 (x3 : Int32) (v9 : Int32) : Nat → Int64 → Int32 → Option (Int64 × Int32)
  | 0, _, _ => none
  | n63 + 1, v10, v11 => if 0 ≤ (lg_cmp v10 (x3.toInt64)) then
      some (v10, v11)
    else
      if v9 ≤ (1 : Int32) then
        some (v10, v11)
      else
        aLet (v10 * (v9.toInt64)) fun v14 =>
        aLet (v11 + (1 : Int32)) fun v15 =>
        X9_letters_L63 x3 v9 n63 v14 v15
def X9_letters (S0 : Rec) (x1 : Int32) (x2 : Int32) (x3 : Int32) : Option (Int32) :=
  (X9_isHolder S0 x1).bind fun v1 =>
  if v1 = 0 then
    some (-1 : Int32)
  else
    (X9_isHolder S0 x2).bind fun v3 =>
    if v3 = 0 then
      some (-1 : Int32)
    else
      if x1 = x2 then
        some (-1 : Int32)
      else
        if (X9_in (x3.toInt64) (1 : Int64) (1000000 : Int64)) = 0 then
          some (-1 : Int32)
        else
          (X9_says (S0.2.1 0) x1).bind fun v7 =>
          (X9_says (S0.2.1 0) x2).bind fun v8 =>
          (X9_bits (v7 &&& v8)).bind fun v9 =>
          (X9_letters_L63 x3 v9 aFu (1 : Int64) (0 : Int32)).bind fun e16 =>
          if 0 ≤ (lg_cmp e16.1 (x3.toInt64)) then
            some e16.2
          else
            some (-4 : Int32)
set_option maxRecDepth 100000 in
set_option maxHeartbeats 4000000 in
theorem X9_letters_ok (l : Launch) {h : aH} {nx : Nat} {a0 : Nat} {S0 : Rec} {x1 : Int32} {x2 : Int32} {x3 : Int32} (hB0 : X9_at h a0 S0) {r : Int32} (hF : X9_letters S0 x1 x2 x3 = some r) : aOk l 4 0 0 yX9_letters cX9_letters 8 (some .int) [.ref a0, .int x1, .int x2, .int x3] h nx (aRd (.int r) h nx) := by
  refine aOk.of (by decide +kernel) (Nat.le_of_ble_eq_true rfl) (fun X G hX C R0 _ => ?_)
  subst hX
  show aV X G 8 0 [(0, .ref a0), (1, .int x1), (2, .int x2), (3, .int x3)] [] h nx 0 0
  rw [X9_letters] at hF
  refine ab_aload_n C 0 rfl rfl dX9_letters_0 ?_
  refine ab_iload_n C 1 rfl rfl dX9_letters_1 ?_
  obtain ⟨v1, hxv1, hF⟩ := Option.bind_eq_some_iff.mp hF
  refine ab_cVR (v := .int v1) (st := []) C lm_X9_153 (X9_isHolder_ok (xl X) hB0 (r := v1) hxv1) [.int x1] rfl hB0.1 rfl rfl rfl (by decide) ⟨Nat.zero_le _, Nat.zero_le _⟩ (Nat.le_of_ble_eq_true rfl) dX9_letters_2 ?_
  refine ab_if_eq C 33 dX9_letters_5 (by decide) (fun c2 => ?_) (fun c2 => ?_)
  · replace hF := (if_pos c2).symm.trans hF
    refine ab_iconst (v := (-1 : Int32)) C dX9_letters_33 (by decide) ?_
    obtain rfl := Option.some.inj hF
    exact ab_iret C R0 rfl dX9_letters_34 ⟨rfl, rfl, rfl⟩
  · replace hF := (if_neg c2).symm.trans hF
    refine ab_aload_n C 0 rfl rfl dX9_letters_8 ?_
    refine ab_iload_n C 2 rfl rfl dX9_letters_9 ?_
    obtain ⟨v3, hxv3, hF⟩ := Option.bind_eq_some_iff.mp hF
    refine ab_cVR (v := .int v3) (st := []) C lm_X9_153 (X9_isHolder_ok (xl X) hB0 (r := v3) hxv3) [.int x2] rfl hB0.1 rfl rfl rfl (by decide) ⟨Nat.zero_le _, Nat.zero_le _⟩ (Nat.le_of_ble_eq_true rfl) dX9_letters_10 ?_
    refine ab_if_eq C 33 dX9_letters_13 (by decide) (fun c4 => ?_) (fun c4 => ?_)
    · replace hF := (if_pos c4).symm.trans hF
      refine ab_iconst (v := (-1 : Int32)) C dX9_letters_33 (by decide) ?_
      obtain rfl := Option.some.inj hF
      exact ab_iret C R0 rfl dX9_letters_34 ⟨rfl, rfl, rfl⟩
    · replace hF := (if_neg c4).symm.trans hF
      refine ab_iload_n C 1 rfl rfl dX9_letters_16 ?_
      refine ab_iload_n C 2 rfl rfl dX9_letters_17 ?_
      refine ab_icmp_eq C 33 dX9_letters_18 (by decide) (fun c5 => ?_) (fun c5 => ?_)
      · replace hF := (if_pos c5).symm.trans hF
        refine ab_iconst (v := (-1 : Int32)) C dX9_letters_33 (by decide) ?_
        obtain rfl := Option.some.inj hF
        exact ab_iret C R0 rfl dX9_letters_34 ⟨rfl, rfl, rfl⟩
      · replace hF := (if_neg c5).symm.trans hF
        refine ab_iload_n C 3 rfl rfl dX9_letters_21 ?_
        refine ab_i2l C dX9_letters_22 ?_
        refine ab_lconst (v := (1 : Int64)) C dX9_letters_23 (by decide) ?_
        refine ab_ldc2 (v := (1000000 : Int64)) C dX9_letters_24 lq_X9_232 ?_
        refine ab_cSR (v := .int (X9_in (x3.toInt64) (1 : Int64) (1000000 : Int64))) (st := []) C lm_X9_69 (X9_in_ok (xl X) (r := (X9_in (x3.toInt64) (1 : Int64) (1000000 : Int64))) rfl) rfl rfl (by decide) ⟨Nat.zero_le _, Nat.zero_le _⟩ (Nat.le_of_ble_eq_true rfl) dX9_letters_27 ?_
        refine ab_if_ne C 35 dX9_letters_30 (by decide) (fun c6 => ?_) (fun c6 => ?_)
        · replace hF := (if_neg c6).symm.trans hF
          refine ab_aload_n C 0 rfl rfl dX9_letters_35 ?_
          refine ab_g9 (v := .ref (a0 + 1)) C lf_X9_7 hB0.1 rfl dX9_letters_36 ?_
          refine ab_iload_n C 1 rfl rfl dX9_letters_39 ?_
          obtain ⟨v7, hxv7, hF⟩ := Option.bind_eq_some_iff.mp hF
          refine ab_cSR (v := .int v7) (st := []) C lm_X9_149 (X9_says_ok (xl X) (X9_r0 hB0) (r := v7) hxv7) rfl rfl (by decide) ⟨Nat.zero_le _, Nat.zero_le _⟩ (Nat.le_of_ble_eq_true rfl) dX9_letters_40 ?_
          refine ab_aload_n C 0 rfl rfl dX9_letters_43 ?_
          refine ab_g9 (v := .ref (a0 + 1)) C lf_X9_7 hB0.1 rfl dX9_letters_44 ?_
          refine ab_iload_n C 2 rfl rfl dX9_letters_47 ?_
          obtain ⟨v8, hxv8, hF⟩ := Option.bind_eq_some_iff.mp hF
          refine ab_cSR (v := .int v8) (st := [.int v7]) C lm_X9_149 (X9_says_ok (xl X) (X9_r0 hB0) (r := v8) hxv8) rfl rfl (by decide) ⟨Nat.zero_le _, Nat.zero_le _⟩ (Nat.le_of_ble_eq_true rfl) dX9_letters_48 ?_
          refine ab_iand C dX9_letters_51 ?_
          obtain ⟨v9, hxv9, hF⟩ := Option.bind_eq_some_iff.mp hF
          refine ab_cSR (v := .int v9) (st := []) C lm_X9_165 (X9_bits_ok (xl X) (r := v9) hxv9) rfl rfl (by decide) ⟨Nat.zero_le _, Nat.zero_le _⟩ (Nat.le_of_ble_eq_true rfl) dX9_letters_52 ?_
          refine ab_istore (lv' := [(4, .int v9), (0, .ref a0), (1, .int x1), (2, .int x2), (3, .int x3)]) C dX9_letters_55 (by decide) rfl ?_
          refine ab_lconst (v := (1 : Int64)) C dX9_letters_57 (by decide) ?_
          refine ab_lstore (lv' := [(5, .long (1 : Int64)), (4, .int v9), (0, .ref a0), (1, .int x1), (2, .int x2), (3, .int x3)]) C dX9_letters_58 ⟨by decide, by decide⟩ rfl ?_
          refine ab_iconst (v := (0 : Int32)) C dX9_letters_60 (by decide) ?_
          refine ab_istore (lv' := [(7, .int (0 : Int32)), (5, .long (1 : Int64)), (4, .int v9), (0, .ref a0), (1, .int x1), (2, .int x2), (3, .int x3)]) C dX9_letters_61 (by decide) rfl ?_
          have L63 : ∀ (n63 : Nat) (v10 : Int64) (v11 : Int32), ∀ (res63 : Int64 × Int32), X9_letters_L63 x3 v9 n63 v10 v11 = some res63 → (aV X G 8 91 [(3, .int x3), (5, .long res63.1), (7, .int res63.2)] [] h nx 0 0) → aV X G 8 63 [(3, .int x3), (4, .int v9), (5, .long v10), (7, .int v11)] [] h nx 0 0 := by
            intro n63
            induction n63 with
            | zero => intro v10 v11 res63 hF KX63; cases (show (none : Option (Int64 × Int32)) = some res63 from hF)
            | succ n63 ih63 =>
              intro v10 v11 res63 hF KX63
              rw [X9_letters_L63] at hF
              refine ab_lload C 2 rfl dX9_letters_63 ?_
              refine ab_iload_n C 0 rfl rfl dX9_letters_65 ?_
              refine ab_i2l C dX9_letters_66 ?_
              refine ab_lcmp C dX9_letters_67 ?_
              refine ab_if_ge C 91 dX9_letters_68 (by decide) (fun c12 => ?_) (fun c12 => ?_)
              · replace hF := (if_pos c12).symm.trans hF
                obtain rfl := Option.some.inj hF
                refine aV.sub (lv' := [(3, .int x3), (5, .long v10), (7, .int v11)]) [0, 2, 3] rfl ?_
                exact KX63
              · replace hF := (if_neg c12).symm.trans hF
                refine ab_iload C 1 rfl dX9_letters_71 ?_
                refine ab_iconst (v := (1 : Int32)) C dX9_letters_73 (by decide) ?_
                refine ab_icmp_le C 91 dX9_letters_74 (by decide) (fun c13 => ?_) (fun c13 => ?_)
                · replace hF := (if_pos c13).symm.trans hF
                  obtain rfl := Option.some.inj hF
                  refine aV.sub (lv' := [(3, .int x3), (5, .long v10), (7, .int v11)]) [0, 2, 3] rfl ?_
                  exact KX63
                · replace hF := (if_neg c13).symm.trans hF
                  refine ab_lload C 2 rfl dX9_letters_77 ?_
                  refine ab_iload C 1 rfl dX9_letters_79 ?_
                  refine ab_i2l C dX9_letters_81 ?_
                  refine ab_lmul C dX9_letters_82 ?_
                  refine ab_topl (fun v14 qv14 => ?_)
                  replace hF := aLet_e hF v14 qv14
                  refine ab_lstore (lv' := [(5, .long v14), (3, .int x3), (4, .int v9), (7, .int v11)]) C dX9_letters_83 ⟨by decide, by decide⟩ rfl ?_
                  obtain ⟨v15, qv15⟩ : ∃ y : Int32, y = (v11 + (1 : Int32)) := ⟨_, rfl⟩
                  replace hF := aLet_e hF v15 qv15
                  refine ab_iinc (lv' := [(7, .int v15), (5, .long v14), (3, .int x3), (4, .int v9)]) C 3 rfl dX9_letters_85 (by rw [qv15]; rfl) (by decide) rfl ?_
                  refine ab_goto C 63 dX9_letters_88 (by decide) ?_
                  refine aV.sub (lv' := [(3, .int x3), (4, .int v9), (5, .long v14), (7, .int v15)]) [2, 3, 1, 0] rfl ?_
                  exact ih63 v14 v15 res63 hF KX63
          refine aV.sub (lv' := [(3, .int x3), (4, .int v9), (5, .long (1 : Int64)), (7, .int (0 : Int32))]) [6, 2, 1, 0] rfl ?_
          obtain ⟨e16, he16, hF⟩ := Option.bind_eq_some_iff.mp hF
          refine L63 aFu (1 : Int64) (0 : Int32) e16 he16 ?_
          refine ab_lload C 1 rfl dX9_letters_91 ?_
          refine ab_iload_n C 0 rfl rfl dX9_letters_93 ?_
          refine ab_i2l C dX9_letters_94 ?_
          refine ab_lcmp C dX9_letters_95 ?_
          refine ab_if_ge C 104 dX9_letters_96 (by decide) (fun c17 => ?_) (fun c17 => ?_)
          · replace hF := (if_pos c17).symm.trans hF
            refine ab_iload C 2 rfl dX9_letters_104 ?_
            obtain rfl := Option.some.inj hF
            exact ab_iret C R0 rfl dX9_letters_106 ⟨rfl, rfl, rfl⟩
          · replace hF := (if_neg c17).symm.trans hF
            refine ab_bipush (v := (-4 : Int32)) C dX9_letters_99 (by decide) ?_
            refine ab_goto C 106 dX9_letters_101 (by decide) ?_
            obtain rfl := Option.some.inj hF
            exact ab_iret C R0 rfl dX9_letters_106 ⟨rfl, rfl, rfl⟩
        · replace hF := (if_pos c6).symm.trans hF
          refine ab_iconst (v := (-1 : Int32)) C dX9_letters_33 (by decide) ?_
          obtain rfl := Option.some.inj hF
          exact ab_iret C R0 rfl dX9_letters_34 ⟨rfl, rfl, rfl⟩
theorem dX9_tryHolding_0 : decode cX9_tryHolding 0 = .ok (.aload_n 0, 1) := by decide +kernel
theorem dX9_tryHolding_1 : decode cX9_tryHolding 1 = .ok (.invokevirtual 195, 3) := by decide +kernel
theorem dX9_tryHolding_4 : decode cX9_tryHolding 4 = .ok (.iconst 0, 1) := by decide +kernel
theorem dX9_tryHolding_5 : decode cX9_tryHolding 5 = .ok (.istore 4, 2) := by decide +kernel
theorem dX9_tryHolding_7 : decode cX9_tryHolding 7 = .ok (.iload 4, 2) := by decide +kernel
theorem dX9_tryHolding_9 : decode cX9_tryHolding 9 = .ok (.bipush 36, 2) := by decide +kernel
theorem dX9_tryHolding_11 : decode cX9_tryHolding 11 = .ok (.if_icmp .ge 49, 3) := by decide +kernel
theorem dX9_tryHolding_14 : decode cX9_tryHolding 14 = .ok (.aload_n 0, 1) := by decide +kernel
theorem dX9_tryHolding_15 : decode cX9_tryHolding 15 = .ok (.getfield 16, 3) := by decide +kernel
theorem dX9_tryHolding_18 : decode cX9_tryHolding 18 = .ok (.bipush 52, 2) := by decide +kernel
theorem dX9_tryHolding_20 : decode cX9_tryHolding 20 = .ok (.iload 4, 2) := by decide +kernel
theorem dX9_tryHolding_22 : decode cX9_tryHolding 22 = .ok (.iadd, 1) := by decide +kernel
theorem dX9_tryHolding_23 : decode cX9_tryHolding 23 = .ok (.aload_n 0, 1) := by decide +kernel
theorem dX9_tryHolding_24 : decode cX9_tryHolding 24 = .ok (.getfield 7, 3) := by decide +kernel
theorem dX9_tryHolding_27 : decode cX9_tryHolding 27 = .ok (.bipush 52, 2) := by decide +kernel
theorem dX9_tryHolding_29 : decode cX9_tryHolding 29 = .ok (.iload 4, 2) := by decide +kernel
theorem dX9_tryHolding_31 : decode cX9_tryHolding 31 = .ok (.iadd, 1) := by decide +kernel
theorem dX9_tryHolding_32 : decode cX9_tryHolding 32 = .ok (.iaload, 1) := by decide +kernel
theorem dX9_tryHolding_33 : decode cX9_tryHolding 33 = .ok (.iload_n 1, 1) := by decide +kernel
theorem dX9_tryHolding_34 : decode cX9_tryHolding 34 = .ok (.iconst 1, 1) := by decide +kernel
theorem dX9_tryHolding_35 : decode cX9_tryHolding 35 = .ok (.iadd, 1) := by decide +kernel
theorem dX9_tryHolding_36 : decode cX9_tryHolding 36 = .ok (.if_icmp .ne 7, 3) := by decide +kernel
theorem dX9_tryHolding_39 : decode cX9_tryHolding 39 = .ok (.iconst 0, 1) := by decide +kernel
theorem dX9_tryHolding_40 : decode cX9_tryHolding 40 = .ok (.goto 13, 3) := by decide +kernel
theorem dX9_tryHolding_43 : decode cX9_tryHolding 43 = .ok (.aload_n 0, 1) := by decide +kernel
theorem dX9_tryHolding_44 : decode cX9_tryHolding 44 = .ok (.getfield 7, 3) := by decide +kernel
theorem dX9_tryHolding_47 : decode cX9_tryHolding 47 = .ok (.bipush 52, 2) := by decide +kernel
theorem dX9_tryHolding_49 : decode cX9_tryHolding 49 = .ok (.iload 4, 2) := by decide +kernel
theorem dX9_tryHolding_51 : decode cX9_tryHolding 51 = .ok (.iadd, 1) := by decide +kernel
theorem dX9_tryHolding_52 : decode cX9_tryHolding 52 = .ok (.iaload, 1) := by decide +kernel
theorem dX9_tryHolding_53 : decode cX9_tryHolding 53 = .ok (.iastore, 1) := by decide +kernel
theorem dX9_tryHolding_54 : decode cX9_tryHolding 54 = .ok (.iinc 4 1, 3) := by decide +kernel
theorem dX9_tryHolding_57 : decode cX9_tryHolding 57 = .ok (.goto (-50), 3) := by decide +kernel
theorem dX9_tryHolding_60 : decode cX9_tryHolding 60 = .ok (.iconst 0, 1) := by decide +kernel
theorem dX9_tryHolding_61 : decode cX9_tryHolding 61 = .ok (.istore 4, 2) := by decide +kernel
theorem dX9_tryHolding_63 : decode cX9_tryHolding 63 = .ok (.iload 4, 2) := by decide +kernel
theorem dX9_tryHolding_65 : decode cX9_tryHolding 65 = .ok (.iload_n 2, 1) := by decide +kernel
theorem dX9_tryHolding_66 : decode cX9_tryHolding 66 = .ok (.if_icmp .ge 27, 3) := by decide +kernel
theorem dX9_tryHolding_69 : decode cX9_tryHolding 69 = .ok (.aload_n 0, 1) := by decide +kernel
theorem dX9_tryHolding_70 : decode cX9_tryHolding 70 = .ok (.getfield 16, 3) := by decide +kernel
theorem dX9_tryHolding_73 : decode cX9_tryHolding 73 = .ok (.bipush 52, 2) := by decide +kernel
theorem dX9_tryHolding_75 : decode cX9_tryHolding 75 = .ok (.aload_n 0, 1) := by decide +kernel
theorem dX9_tryHolding_76 : decode cX9_tryHolding 76 = .ok (.getfield 32, 3) := by decide +kernel
theorem dX9_tryHolding_79 : decode cX9_tryHolding 79 = .ok (.iload 4, 2) := by decide +kernel
theorem dX9_tryHolding_81 : decode cX9_tryHolding 81 = .ok (.iaload, 1) := by decide +kernel
theorem dX9_tryHolding_82 : decode cX9_tryHolding 82 = .ok (.iadd, 1) := by decide +kernel
theorem dX9_tryHolding_83 : decode cX9_tryHolding 83 = .ok (.iload_n 1, 1) := by decide +kernel
theorem dX9_tryHolding_84 : decode cX9_tryHolding 84 = .ok (.iconst 1, 1) := by decide +kernel
theorem dX9_tryHolding_85 : decode cX9_tryHolding 85 = .ok (.iadd, 1) := by decide +kernel
theorem dX9_tryHolding_86 : decode cX9_tryHolding 86 = .ok (.iastore, 1) := by decide +kernel
theorem dX9_tryHolding_87 : decode cX9_tryHolding 87 = .ok (.iinc 4 1, 3) := by decide +kernel
theorem dX9_tryHolding_90 : decode cX9_tryHolding 90 = .ok (.goto (-27), 3) := by decide +kernel
theorem dX9_tryHolding_93 : decode cX9_tryHolding 93 = .ok (.aload_n 0, 1) := by decide +kernel
theorem dX9_tryHolding_94 : decode cX9_tryHolding 94 = .ok (.dup, 1) := by decide +kernel
theorem dX9_tryHolding_95 : decode cX9_tryHolding 95 = .ok (.getfield 234, 3) := by decide +kernel
theorem dX9_tryHolding_98 : decode cX9_tryHolding 98 = .ok (.iconst 1, 1) := by decide +kernel
theorem dX9_tryHolding_99 : decode cX9_tryHolding 99 = .ok (.iadd, 1) := by decide +kernel
theorem dX9_tryHolding_100 : decode cX9_tryHolding 100 = .ok (.putfield 234, 3) := by decide +kernel
theorem dX9_tryHolding_103 : decode cX9_tryHolding 103 = .ok (.aload_n 0, 1) := by decide +kernel
theorem dX9_tryHolding_104 : decode cX9_tryHolding 104 = .ok (.getfield 16, 3) := by decide +kernel
theorem dX9_tryHolding_107 : decode cX9_tryHolding 107 = .ok (.iload_n 1, 1) := by decide +kernel
theorem dX9_tryHolding_108 : decode cX9_tryHolding 108 = .ok (.invokestatic 149, 3) := by decide +kernel
theorem dX9_tryHolding_111 : decode cX9_tryHolding 111 = .ok (.iload_n 3, 1) := by decide +kernel
theorem dX9_tryHolding_112 : decode cX9_tryHolding 112 = .ok (.if_icmp .ne 44, 3) := by decide +kernel
theorem dX9_tryHolding_115 : decode cX9_tryHolding 115 = .ok (.aload_n 0, 1) := by decide +kernel
theorem dX9_tryHolding_116 : decode cX9_tryHolding 116 = .ok (.dup, 1) := by decide +kernel
theorem dX9_tryHolding_117 : decode cX9_tryHolding 117 = .ok (.getfield 237, 3) := by decide +kernel
theorem dX9_tryHolding_120 : decode cX9_tryHolding 120 = .ok (.iconst 1, 1) := by decide +kernel
theorem dX9_tryHolding_121 : decode cX9_tryHolding 121 = .ok (.iadd, 1) := by decide +kernel
theorem dX9_tryHolding_122 : decode cX9_tryHolding 122 = .ok (.putfield 237, 3) := by decide +kernel
theorem dX9_tryHolding_125 : decode cX9_tryHolding 125 = .ok (.iconst 0, 1) := by decide +kernel
theorem dX9_tryHolding_126 : decode cX9_tryHolding 126 = .ok (.istore 4, 2) := by decide +kernel
theorem dX9_tryHolding_128 : decode cX9_tryHolding 128 = .ok (.iload 4, 2) := by decide +kernel
theorem dX9_tryHolding_130 : decode cX9_tryHolding 130 = .ok (.iload_n 2, 1) := by decide +kernel
theorem dX9_tryHolding_131 : decode cX9_tryHolding 131 = .ok (.if_icmp .ge 25, 3) := by decide +kernel
theorem dX9_tryHolding_134 : decode cX9_tryHolding 134 = .ok (.aload_n 0, 1) := by decide +kernel
theorem dX9_tryHolding_135 : decode cX9_tryHolding 135 = .ok (.getfield 50, 3) := by decide +kernel
theorem dX9_tryHolding_138 : decode cX9_tryHolding 138 = .ok (.aload_n 0, 1) := by decide +kernel
theorem dX9_tryHolding_139 : decode cX9_tryHolding 139 = .ok (.getfield 32, 3) := by decide +kernel
theorem dX9_tryHolding_142 : decode cX9_tryHolding 142 = .ok (.iload 4, 2) := by decide +kernel
theorem dX9_tryHolding_144 : decode cX9_tryHolding 144 = .ok (.iaload, 1) := by decide +kernel
theorem dX9_tryHolding_145 : decode cX9_tryHolding 145 = .ok (.dup2, 1) := by decide +kernel
theorem dX9_tryHolding_146 : decode cX9_tryHolding 146 = .ok (.iaload, 1) := by decide +kernel
theorem dX9_tryHolding_147 : decode cX9_tryHolding 147 = .ok (.iconst 1, 1) := by decide +kernel
theorem dX9_tryHolding_148 : decode cX9_tryHolding 148 = .ok (.iadd, 1) := by decide +kernel
theorem dX9_tryHolding_149 : decode cX9_tryHolding 149 = .ok (.iastore, 1) := by decide +kernel
theorem dX9_tryHolding_150 : decode cX9_tryHolding 150 = .ok (.iinc 4 1, 3) := by decide +kernel
theorem dX9_tryHolding_153 : decode cX9_tryHolding 153 = .ok (.goto (-25), 3) := by decide +kernel
theorem dX9_tryHolding_156 : decode cX9_tryHolding 156 = .ok (.return_, 1) := by decide +kernel
def X9_tryHolding_L7 (x1 : Int32) : Nat → Int32 → Rec → Option (Rec)
  | 0, _, _ => none
  | n7 + 1, v3, Z4 => if (36 : Int32) ≤ v3 then
      some Z4
    else
      (rdI (Z4.2.1 0) 96 ((52 : Int32) + v3)).bind fun v7 =>
      if v7 = (x1 + (1 : Int32)) then
        (wrI (Z4.2.1 2) 96 ((52 : Int32) + v3) (0 : Int32)).bind fun w13 =>
        aLet (v3 + (1 : Int32)) fun v15 =>
        X9_tryHolding_L7 x1 n7 v15 (sA Z4 2 w13)
      else
        (rdI (Z4.2.1 0) 96 ((52 : Int32) + v3)).bind fun v9 =>
        (wrI (Z4.2.1 2) 96 ((52 : Int32) + v3) v9).bind fun w10 =>
        aLet (v3 + (1 : Int32)) fun v12 =>
        X9_tryHolding_L7 x1 n7 v12 (sA Z4 2 w10)
def X9_tryHolding_L63 (x2 : Int32) (x1 : Int32) : Nat → Int32 → Rec → Option (Rec)
  | 0, _, _ => none
  | n63 + 1, v18, Z19 => if x2 ≤ v18 then
      some Z19
    else
      (rdI (Z19.2.1 11) 3 v18).bind fun v22 =>
      (wrI (Z19.2.1 2) 96 ((52 : Int32) + v22) (x1 + (1 : Int32))).bind fun w23 =>
      aLet (v18 + (1 : Int32)) fun v25 =>
      X9_tryHolding_L63 x2 x1 n63 v25 (sA Z19 2 w23)
def X9_tryHolding_L128 (x2 : Int32) : Nat → Int32 → Rec → Option (Rec)
  | 0, _, _ => none
  | n128 + 1, v32, Z33 => if x2 ≤ v32 then
      some Z33
    else
      (rdI (Z33.2.1 11) 3 v32).bind fun v36 =>
      (rdI (Z33.2.1 19) 36 v36).bind fun v37 =>
      (wrI (Z33.2.1 19) 36 v36 (v37 + (1 : Int32))).bind fun w38 =>
      aLet (v32 + (1 : Int32)) fun v40 =>
      X9_tryHolding_L128 x2 n128 v40 (sA Z33 19 w38)
def X9_tryHolding (S0 : Rec) (x1 : Int32) (x2 : Int32) (x3 : Int32) : Option (Rec) :=
  (X9_layThen S0).bind fun v1 =>
  (X9_tryHolding_L7 x1 aFu (0 : Int32) v1).bind fun e16 =>
  (X9_tryHolding_L63 x2 x1 aFu (0 : Int32) e16).bind fun e26 =>
  (X9_says ((sI e26 21 ((e26.1 21) + (1 : Int32))).2.1 2) x1).bind fun v29 =>
  if v29 = x3 then
    (X9_tryHolding_L128 x2 aFu (0 : Int32) (sI (sI e26 21 ((e26.1 21) + (1 : Int32))) 20 (((sI e26 21 ((e26.1 21) + (1 : Int32))).1 20) + (1 : Int32)))).bind fun e41 =>
    some e41
  else
    some (sI e26 21 ((e26.1 21) + (1 : Int32)))
set_option maxRecDepth 100000 in
set_option maxHeartbeats 4000000 in
theorem X9_tryHolding_ok (l : Launch) {h : aH} {nx : Nat} {a0 : Nat} {S0 : Rec} {x1 : Int32} {x2 : Int32} {x3 : Int32} (hB0 : X9_at h a0 S0) {r : Rec} (hF : X9_tryHolding S0 x1 x2 x3 = some r) : aOk l 4 0 0 yX9_tryHolding cX9_tryHolding 5 none [.ref a0, .int x1, .int x2, .int x3] h nx (aMt none nx (fun h1 => X9_at h1 a0 r ∧ (∀ q, (q < a0 ∨ a0 + 20 ≤ q) → h1 q = h q))) := by
  refine aOk.of (by decide +kernel) (Nat.le_of_ble_eq_true rfl) (fun X G hX C R0 _ => ?_)
  subst hX
  show aV X G 5 0 [(0, .ref a0), (1, .int x1), (2, .int x2), (3, .int x3)] [] h nx 0 0
  have hFr : ∀ q, (q < a0 ∨ a0 + 20 ≤ q) → h q = h q := fun _ _ => rfl
  rw [X9_tryHolding] at hF
  refine ab_aload_n C 0 rfl rfl dX9_tryHolding_0 ?_
  obtain ⟨v1, hxv1, hF⟩ := Option.bind_eq_some_iff.mp hF
  refine ab_cVN (st := []) C lm_X9_195 (X9_layThen_ok (xl X) hB0 (r := v1) hxv1) [] rfl hB0.1 rfl rfl rfl (by decide) ⟨Nat.zero_le _, Nat.zero_le _⟩ (Nat.le_of_ble_eq_true rfl) dX9_tryHolding_1 (fun g2 pg2 => ?_)
  obtain ⟨k0, Og2⟩ := pg2
  have hB0 : X9_at g2 a0 v1 := k0
  have hFr : ∀ q, (q < a0 ∨ a0 + 20 ≤ q) → g2 q = h q := fun q u0 => (Og2 q (by omega)).trans (hFr q u0)
  refine ab_iconst (v := (0 : Int32)) C dX9_tryHolding_4 (by decide) ?_
  refine ab_istore (lv' := [(4, .int (0 : Int32)), (0, .ref a0), (1, .int x1), (2, .int x2), (3, .int x3)]) C dX9_tryHolding_5 (by decide) rfl ?_
  have L7 : ∀ (n7 : Nat) (v3 : Int32) (Z4 : Rec) (g5 : aH), (X9_at g5 a0 Z4) → (∀ q, (q < a0 ∨ a0 + 20 ≤ q) → g5 q = h q) → ∀ (res7 : Rec), X9_tryHolding_L7 x1 n7 v3 Z4 = some res7 → (∀ (q9 : aH), (X9_at q9 a0 res7) → (∀ q, (q < a0 ∨ a0 + 20 ≤ q) → q9 q = h q) → aV X G 5 60 [(0, .ref a0), (1, .int x1), (2, .int x2), (3, .int x3)] [] q9 nx 0 0) → aV X G 5 7 [(0, .ref a0), (1, .int x1), (2, .int x2), (3, .int x3), (4, .int v3)] [] g5 nx 0 0 := by
    intro n7
    induction n7 with
    | zero => intro v3 Z4 g5 hB0 hFr res7 hF KX7; cases (show (none : Option (Rec)) = some res7 from hF)
    | succ n7 ih7 =>
      intro v3 Z4 g5 hB0 hFr res7 hF KX7
      rw [X9_tryHolding_L7] at hF
      refine ab_iload C 4 rfl dX9_tryHolding_7 ?_
      refine ab_bipush (v := (36 : Int32)) C dX9_tryHolding_9 (by decide) ?_
      refine ab_icmp_ge C 60 dX9_tryHolding_11 (by decide) (fun c6 => ?_) (fun c6 => ?_)
      · replace hF := (if_pos c6).symm.trans hF
        obtain rfl := Option.some.inj hF
        refine aV.sub (lv' := [(0, .ref a0), (1, .int x1), (2, .int x2), (3, .int x3)]) [0, 1, 2, 3] rfl ?_
        exact KX7 g5 hB0 hFr
      · replace hF := (if_neg c6).symm.trans hF
        refine ab_aload_n C 0 rfl rfl dX9_tryHolding_14 ?_
        refine ab_g9 (v := .ref (a0 + 3)) C lf_X9_16 hB0.1 rfl dX9_tryHolding_15 ?_
        refine ab_bipush (v := (52 : Int32)) C dX9_tryHolding_18 (by decide) ?_
        refine ab_iload C 4 rfl dX9_tryHolding_20 ?_
        refine ab_iadd C dX9_tryHolding_22 ?_
        refine ab_aload_n C 0 rfl rfl dX9_tryHolding_23 ?_
        refine ab_g9 (v := .ref (a0 + 1)) C lf_X9_7 hB0.1 rfl dX9_tryHolding_24 ?_
        refine ab_bipush (v := (52 : Int32)) C dX9_tryHolding_27 (by decide) ?_
        refine ab_iload C 4 rfl dX9_tryHolding_29 ?_
        refine ab_iadd C dX9_tryHolding_31 ?_
        obtain ⟨v7, hxv7, hF⟩ := Option.bind_eq_some_iff.mp hF
        refine ab_iald C (X9_r0 hB0) hxv7 dX9_tryHolding_32 ?_
        refine ab_iload_n C 1 rfl rfl dX9_tryHolding_33 ?_
        refine ab_iconst (v := (1 : Int32)) C dX9_tryHolding_34 (by decide) ?_
        refine ab_iadd C dX9_tryHolding_35 ?_
        refine ab_icmp_ne C 43 dX9_tryHolding_36 (by decide) (fun c8 => ?_) (fun c8 => ?_)
        · replace hF := (if_neg c8).symm.trans hF
          refine ab_aload_n C 0 rfl rfl dX9_tryHolding_43 ?_
          refine ab_g9 (v := .ref (a0 + 1)) C lf_X9_7 hB0.1 rfl dX9_tryHolding_44 ?_
          refine ab_bipush (v := (52 : Int32)) C dX9_tryHolding_47 (by decide) ?_
          refine ab_iload C 4 rfl dX9_tryHolding_49 ?_
          refine ab_iadd C dX9_tryHolding_51 ?_
          obtain ⟨v9, hxv9, hF⟩ := Option.bind_eq_some_iff.mp hF
          refine ab_iald C (X9_r0 hB0) hxv9 dX9_tryHolding_52 ?_
          obtain ⟨w10, hxw10, hF⟩ := Option.bind_eq_some_iff.mp hF
          refine ab_iast C (X9_r2 hB0) hxw10 dX9_tryHolding_53 (fun g11 eg11 og11 => ?_)
          have hB0 : X9_at g11 a0 (sA Z4 2 w10) := X9_w2 hB0 eg11 og11
          have hFr : ∀ q, (q < a0 ∨ a0 + 20 ≤ q) → g11 q = h q := fun q u0 => (og11 q (by omega)).trans (hFr q u0)
          obtain ⟨v12, qv12⟩ : ∃ y : Int32, y = (v3 + (1 : Int32)) := ⟨_, rfl⟩
          replace hF := aLet_e hF v12 qv12
          refine ab_iinc (lv' := [(4, .int v12), (0, .ref a0), (1, .int x1), (2, .int x2), (3, .int x3)]) C 4 rfl dX9_tryHolding_54 (by rw [qv12]; rfl) (by decide) rfl ?_
          refine ab_goto C 7 dX9_tryHolding_57 (by decide) ?_
          refine aV.sub (lv' := [(0, .ref a0), (1, .int x1), (2, .int x2), (3, .int x3), (4, .int v12)]) [1, 2, 3, 4, 0] rfl ?_
          exact ih7 v12 (sA Z4 2 w10) g11 hB0 hFr res7 hF KX7
        · replace hF := (if_pos c8).symm.trans hF
          refine ab_iconst (v := (0 : Int32)) C dX9_tryHolding_39 (by decide) ?_
          refine ab_goto C 53 dX9_tryHolding_40 (by decide) ?_
          obtain ⟨w13, hxw13, hF⟩ := Option.bind_eq_some_iff.mp hF
          refine ab_iast C (X9_r2 hB0) hxw13 dX9_tryHolding_53 (fun g14 eg14 og14 => ?_)
          have hB0 : X9_at g14 a0 (sA Z4 2 w13) := X9_w2 hB0 eg14 og14
          have hFr : ∀ q, (q < a0 ∨ a0 + 20 ≤ q) → g14 q = h q := fun q u0 => (og14 q (by omega)).trans (hFr q u0)
          obtain ⟨v15, qv15⟩ : ∃ y : Int32, y = (v3 + (1 : Int32)) := ⟨_, rfl⟩
          replace hF := aLet_e hF v15 qv15
          refine ab_iinc (lv' := [(4, .int v15), (0, .ref a0), (1, .int x1), (2, .int x2), (3, .int x3)]) C 4 rfl dX9_tryHolding_54 (by rw [qv15]; rfl) (by decide) rfl ?_
          refine ab_goto C 7 dX9_tryHolding_57 (by decide) ?_
          refine aV.sub (lv' := [(0, .ref a0), (1, .int x1), (2, .int x2), (3, .int x3), (4, .int v15)]) [1, 2, 3, 4, 0] rfl ?_
          exact ih7 v15 (sA Z4 2 w13) g14 hB0 hFr res7 hF KX7
  refine aV.sub (lv' := [(0, .ref a0), (1, .int x1), (2, .int x2), (3, .int x3), (4, .int (0 : Int32))]) [1, 2, 3, 4, 0] rfl ?_
  obtain ⟨e16, he16, hF⟩ := Option.bind_eq_some_iff.mp hF
  refine L7 aFu (0 : Int32) v1 g2 hB0 hFr e16 he16 (fun g17 hB0 hFr => ?_)
  refine ab_iconst (v := (0 : Int32)) C dX9_tryHolding_60 (by decide) ?_
  refine ab_istore (lv' := [(4, .int (0 : Int32)), (0, .ref a0), (1, .int x1), (2, .int x2), (3, .int x3)]) C dX9_tryHolding_61 (by decide) rfl ?_
  have L63 : ∀ (n63 : Nat) (v18 : Int32) (Z19 : Rec) (g20 : aH), (X9_at g20 a0 Z19) → (∀ q, (q < a0 ∨ a0 + 20 ≤ q) → g20 q = h q) → ∀ (res63 : Rec), X9_tryHolding_L63 x2 x1 n63 v18 Z19 = some res63 → (∀ (q9 : aH), (X9_at q9 a0 res63) → (∀ q, (q < a0 ∨ a0 + 20 ≤ q) → q9 q = h q) → aV X G 5 93 [(0, .ref a0), (1, .int x1), (2, .int x2), (3, .int x3)] [] q9 nx 0 0) → aV X G 5 63 [(0, .ref a0), (1, .int x1), (2, .int x2), (3, .int x3), (4, .int v18)] [] g20 nx 0 0 := by
    intro n63
    induction n63 with
    | zero => intro v18 Z19 g20 hB0 hFr res63 hF KX63; cases (show (none : Option (Rec)) = some res63 from hF)
    | succ n63 ih63 =>
      intro v18 Z19 g20 hB0 hFr res63 hF KX63
      rw [X9_tryHolding_L63] at hF
      refine ab_iload C 4 rfl dX9_tryHolding_63 ?_
      refine ab_iload_n C 2 rfl rfl dX9_tryHolding_65 ?_
      refine ab_icmp_ge C 93 dX9_tryHolding_66 (by decide) (fun c21 => ?_) (fun c21 => ?_)
      · replace hF := (if_pos c21).symm.trans hF
        obtain rfl := Option.some.inj hF
        refine aV.sub (lv' := [(0, .ref a0), (1, .int x1), (2, .int x2), (3, .int x3)]) [0, 1, 2, 3] rfl ?_
        exact KX63 g20 hB0 hFr
      · replace hF := (if_neg c21).symm.trans hF
        refine ab_aload_n C 0 rfl rfl dX9_tryHolding_69 ?_
        refine ab_g9 (v := .ref (a0 + 3)) C lf_X9_16 hB0.1 rfl dX9_tryHolding_70 ?_
        refine ab_bipush (v := (52 : Int32)) C dX9_tryHolding_73 (by decide) ?_
        refine ab_aload_n C 0 rfl rfl dX9_tryHolding_75 ?_
        refine ab_g9 (v := .ref (a0 + 8)) C lf_X9_32 hB0.1 rfl dX9_tryHolding_76 ?_
        refine ab_iload C 4 rfl dX9_tryHolding_79 ?_
        obtain ⟨v22, hxv22, hF⟩ := Option.bind_eq_some_iff.mp hF
        refine ab_iald C (X9_r11 hB0) hxv22 dX9_tryHolding_81 ?_
        refine ab_iadd C dX9_tryHolding_82 ?_
        refine ab_iload_n C 1 rfl rfl dX9_tryHolding_83 ?_
        refine ab_iconst (v := (1 : Int32)) C dX9_tryHolding_84 (by decide) ?_
        refine ab_iadd C dX9_tryHolding_85 ?_
        obtain ⟨w23, hxw23, hF⟩ := Option.bind_eq_some_iff.mp hF
        refine ab_iast C (X9_r2 hB0) hxw23 dX9_tryHolding_86 (fun g24 eg24 og24 => ?_)
        have hB0 : X9_at g24 a0 (sA Z19 2 w23) := X9_w2 hB0 eg24 og24
        have hFr : ∀ q, (q < a0 ∨ a0 + 20 ≤ q) → g24 q = h q := fun q u0 => (og24 q (by omega)).trans (hFr q u0)
        obtain ⟨v25, qv25⟩ : ∃ y : Int32, y = (v18 + (1 : Int32)) := ⟨_, rfl⟩
        replace hF := aLet_e hF v25 qv25
        refine ab_iinc (lv' := [(4, .int v25), (0, .ref a0), (1, .int x1), (2, .int x2), (3, .int x3)]) C 4 rfl dX9_tryHolding_87 (by rw [qv25]; rfl) (by decide) rfl ?_
        refine ab_goto C 63 dX9_tryHolding_90 (by decide) ?_
        refine aV.sub (lv' := [(0, .ref a0), (1, .int x1), (2, .int x2), (3, .int x3), (4, .int v25)]) [1, 2, 3, 4, 0] rfl ?_
        exact ih63 v25 (sA Z19 2 w23) g24 hB0 hFr res63 hF KX63
  refine aV.sub (lv' := [(0, .ref a0), (1, .int x1), (2, .int x2), (3, .int x3), (4, .int (0 : Int32))]) [1, 2, 3, 4, 0] rfl ?_
  obtain ⟨e26, he26, hF⟩ := Option.bind_eq_some_iff.mp hF
  refine L63 aFu (0 : Int32) e16 g17 hB0 hFr e26 he26 (fun g27 hB0 hFr => ?_)
  refine ab_aload_n C 0 rfl rfl dX9_tryHolding_93 ?_
  refine ab_dup C rfl dX9_tryHolding_94 ?_
  refine ab_g9 (v := .int (e26.1 21)) C lf_X9_234 hB0.1 rfl dX9_tryHolding_95 ?_
  refine ab_iconst (v := (1 : Int32)) C dX9_tryHolding_98 (by decide) ?_
  refine ab_iadd C dX9_tryHolding_99 ?_
  refine ab_p9 (ty := .int) C lf_X9_234 rfl (by decide +kernel) rfl rfl (Nat.le_of_ble_eq_true rfl) hB0.1 dX9_tryHolding_100 (fun g28 eg28 og28 => ?_)
  have hB0 : X9_at g28 a0 (sI e26 21 ((e26.1 21) + (1 : Int32))) := X9_p21 hB0 eg28 og28
  have hFr : ∀ q, (q < a0 ∨ a0 + 20 ≤ q) → g28 q = h q := fun q u0 => (og28 q (by omega)).trans (hFr q u0)
  refine ab_aload_n C 0 rfl rfl dX9_tryHolding_103 ?_
  refine ab_g9 (v := .ref (a0 + 3)) C lf_X9_16 hB0.1 rfl dX9_tryHolding_104 ?_
  refine ab_iload_n C 1 rfl rfl dX9_tryHolding_107 ?_
  obtain ⟨v29, hxv29, hF⟩ := Option.bind_eq_some_iff.mp hF
  refine ab_cSR (v := .int v29) (st := []) C lm_X9_149 (X9_says_ok (xl X) (X9_r2 hB0) (r := v29) hxv29) rfl rfl (by decide) ⟨Nat.zero_le _, Nat.zero_le _⟩ (Nat.le_of_ble_eq_true rfl) dX9_tryHolding_108 ?_
  refine ab_iload_n C 3 rfl rfl dX9_tryHolding_111 ?_
  refine ab_icmp_ne C 156 dX9_tryHolding_112 (by decide) (fun c30 => ?_) (fun c30 => ?_)
  · replace hF := (if_neg c30).symm.trans hF
    obtain rfl := Option.some.inj hF
    exact ab_vret C R0 dX9_tryHolding_156 ⟨rfl, rfl, hB0, hFr⟩
  · replace hF := (if_pos c30).symm.trans hF
    refine ab_aload_n C 0 rfl rfl dX9_tryHolding_115 ?_
    refine ab_dup C rfl dX9_tryHolding_116 ?_
    refine ab_g9 (v := .int ((sI e26 21 ((e26.1 21) + (1 : Int32))).1 20)) C lf_X9_237 hB0.1 rfl dX9_tryHolding_117 ?_
    refine ab_iconst (v := (1 : Int32)) C dX9_tryHolding_120 (by decide) ?_
    refine ab_iadd C dX9_tryHolding_121 ?_
    refine ab_p9 (ty := .int) C lf_X9_237 rfl (by decide +kernel) rfl rfl (Nat.le_of_ble_eq_true rfl) hB0.1 dX9_tryHolding_122 (fun g31 eg31 og31 => ?_)
    have hB0 : X9_at g31 a0 (sI (sI e26 21 ((e26.1 21) + (1 : Int32))) 20 (((sI e26 21 ((e26.1 21) + (1 : Int32))).1 20) + (1 : Int32))) := X9_p20 hB0 eg31 og31
    have hFr : ∀ q, (q < a0 ∨ a0 + 20 ≤ q) → g31 q = h q := fun q u0 => (og31 q (by omega)).trans (hFr q u0)
    refine ab_iconst (v := (0 : Int32)) C dX9_tryHolding_125 (by decide) ?_
    refine ab_istore (lv' := [(4, .int (0 : Int32)), (0, .ref a0), (1, .int x1), (2, .int x2), (3, .int x3)]) C dX9_tryHolding_126 (by decide) rfl ?_
    have L128 : ∀ (n128 : Nat) (v32 : Int32) (Z33 : Rec) (g34 : aH), (X9_at g34 a0 Z33) → (∀ q, (q < a0 ∨ a0 + 20 ≤ q) → g34 q = h q) → ∀ (res128 : Rec), X9_tryHolding_L128 x2 n128 v32 Z33 = some res128 → (∀ (q9 : aH), (X9_at q9 a0 res128) → (∀ q, (q < a0 ∨ a0 + 20 ≤ q) → q9 q = h q) → aV X G 5 156 [] [] q9 nx 0 0) → aV X G 5 128 [(0, .ref a0), (2, .int x2), (4, .int v32)] [] g34 nx 0 0 := by
      intro n128
      induction n128 with
      | zero => intro v32 Z33 g34 hB0 hFr res128 hF KX128; cases (show (none : Option (Rec)) = some res128 from hF)
      | succ n128 ih128 =>
        intro v32 Z33 g34 hB0 hFr res128 hF KX128
        rw [X9_tryHolding_L128] at hF
        refine ab_iload C 2 rfl dX9_tryHolding_128 ?_
        refine ab_iload_n C 1 rfl rfl dX9_tryHolding_130 ?_
        refine ab_icmp_ge C 156 dX9_tryHolding_131 (by decide) (fun c35 => ?_) (fun c35 => ?_)
        · replace hF := (if_pos c35).symm.trans hF
          obtain rfl := Option.some.inj hF
          refine aV.sub (lv' := []) [] rfl ?_
          exact KX128 g34 hB0 hFr
        · replace hF := (if_neg c35).symm.trans hF
          refine ab_aload_n C 0 rfl rfl dX9_tryHolding_134 ?_
          refine ab_g9 (v := .ref (a0 + 14)) C lf_X9_50 hB0.1 rfl dX9_tryHolding_135 ?_
          refine ab_aload_n C 0 rfl rfl dX9_tryHolding_138 ?_
          refine ab_g9 (v := .ref (a0 + 8)) C lf_X9_32 hB0.1 rfl dX9_tryHolding_139 ?_
          refine ab_iload C 2 rfl dX9_tryHolding_142 ?_
          obtain ⟨v36, hxv36, hF⟩ := Option.bind_eq_some_iff.mp hF
          refine ab_iald C (X9_r11 hB0) hxv36 dX9_tryHolding_144 ?_
          refine ab_dup2_11 C rfl rfl dX9_tryHolding_145 ?_
          obtain ⟨v37, hxv37, hF⟩ := Option.bind_eq_some_iff.mp hF
          refine ab_iald C (X9_r19 hB0) hxv37 dX9_tryHolding_146 ?_
          refine ab_iconst (v := (1 : Int32)) C dX9_tryHolding_147 (by decide) ?_
          refine ab_iadd C dX9_tryHolding_148 ?_
          obtain ⟨w38, hxw38, hF⟩ := Option.bind_eq_some_iff.mp hF
          refine ab_iast C (X9_r19 hB0) hxw38 dX9_tryHolding_149 (fun g39 eg39 og39 => ?_)
          have hB0 : X9_at g39 a0 (sA Z33 19 w38) := X9_w19 hB0 eg39 og39
          have hFr : ∀ q, (q < a0 ∨ a0 + 20 ≤ q) → g39 q = h q := fun q u0 => (og39 q (by omega)).trans (hFr q u0)
          obtain ⟨v40, qv40⟩ : ∃ y : Int32, y = (v32 + (1 : Int32)) := ⟨_, rfl⟩
          replace hF := aLet_e hF v40 qv40
          refine ab_iinc (lv' := [(4, .int v40), (0, .ref a0), (2, .int x2)]) C 2 rfl dX9_tryHolding_150 (by rw [qv40]; rfl) (by decide) rfl ?_
          refine ab_goto C 128 dX9_tryHolding_153 (by decide) ?_
          refine aV.sub (lv' := [(0, .ref a0), (2, .int x2), (4, .int v40)]) [1, 2, 0] rfl ?_
          exact ih128 v40 (sA Z33 19 w38) g39 hB0 hFr res128 hF KX128
    refine aV.sub (lv' := [(0, .ref a0), (2, .int x2), (4, .int (0 : Int32))]) [1, 3, 0] rfl ?_
    obtain ⟨e41, he41, hF⟩ := Option.bind_eq_some_iff.mp hF
    refine L128 aFu (0 : Int32) (sI (sI e26 21 ((e26.1 21) + (1 : Int32))) 20 (((sI e26 21 ((e26.1 21) + (1 : Int32))).1 20) + (1 : Int32))) g31 hB0 hFr e41 he41 (fun g42 hB0 hFr => ?_)
    obtain rfl := Option.some.inj hF
    exact ab_vret C R0 dX9_tryHolding_156 ⟨rfl, rfl, hB0, hFr⟩
theorem dX9_holdings_0 : decode cX9_holdings 0 = .ok (.aload_n 0, 1) := by decide +kernel
theorem dX9_holdings_1 : decode cX9_holdings 1 = .ok (.iload_n 1, 1) := by decide +kernel
theorem dX9_holdings_2 : decode cX9_holdings 2 = .ok (.invokevirtual 153, 3) := by decide +kernel
theorem dX9_holdings_5 : decode cX9_holdings 5 = .ok (.ifCond .eq 40, 3) := by decide +kernel
theorem dX9_holdings_8 : decode cX9_holdings 8 = .ok (.iload_n 2, 1) := by decide +kernel
theorem dX9_holdings_9 : decode cX9_holdings 9 = .ok (.i2l, 1) := by decide +kernel
theorem dX9_holdings_10 : decode cX9_holdings 10 = .ok (.lconst 1, 1) := by decide +kernel
theorem dX9_holdings_11 : decode cX9_holdings 11 = .ok (.ldc2_w 240, 3) := by decide +kernel
theorem dX9_holdings_14 : decode cX9_holdings 14 = .ok (.invokestatic 69, 3) := by decide +kernel
theorem dX9_holdings_17 : decode cX9_holdings 17 = .ok (.ifCond .eq 28, 3) := by decide +kernel
theorem dX9_holdings_20 : decode cX9_holdings 20 = .ok (.iload_n 3, 1) := by decide +kernel
theorem dX9_holdings_21 : decode cX9_holdings 21 = .ok (.i2l, 1) := by decide +kernel
theorem dX9_holdings_22 : decode cX9_holdings 22 = .ok (.lconst 0, 1) := by decide +kernel
theorem dX9_holdings_23 : decode cX9_holdings 23 = .ok (.ldc2_w 242, 3) := by decide +kernel
theorem dX9_holdings_26 : decode cX9_holdings 26 = .ok (.invokestatic 69, 3) := by decide +kernel
theorem dX9_holdings_29 : decode cX9_holdings 29 = .ok (.ifCond .eq 16, 3) := by decide +kernel
theorem dX9_holdings_32 : decode cX9_holdings 32 = .ok (.iload 4, 2) := by decide +kernel
theorem dX9_holdings_34 : decode cX9_holdings 34 = .ok (.i2l, 1) := by decide +kernel
theorem dX9_holdings_35 : decode cX9_holdings 35 = .ok (.lconst 0, 1) := by decide +kernel
theorem dX9_holdings_36 : decode cX9_holdings 36 = .ok (.ldc2_w 171, 3) := by decide +kernel
theorem dX9_holdings_39 : decode cX9_holdings 39 = .ok (.invokestatic 69, 3) := by decide +kernel
theorem dX9_holdings_42 : decode cX9_holdings 42 = .ok (.ifCond .ne 5, 3) := by decide +kernel
theorem dX9_holdings_45 : decode cX9_holdings 45 = .ok (.iconst (-1), 1) := by decide +kernel
theorem dX9_holdings_46 : decode cX9_holdings 46 = .ok (.ireturn, 1) := by decide +kernel
theorem dX9_holdings_47 : decode cX9_holdings 47 = .ok (.aload_n 0, 1) := by decide +kernel
theorem dX9_holdings_48 : decode cX9_holdings 48 = .ok (.iconst 0, 1) := by decide +kernel
theorem dX9_holdings_49 : decode cX9_holdings 49 = .ok (.putfield 237, 3) := by decide +kernel
theorem dX9_holdings_52 : decode cX9_holdings 52 = .ok (.aload_n 0, 1) := by decide +kernel
theorem dX9_holdings_53 : decode cX9_holdings 53 = .ok (.iconst 0, 1) := by decide +kernel
theorem dX9_holdings_54 : decode cX9_holdings 54 = .ok (.putfield 234, 3) := by decide +kernel
theorem dX9_holdings_57 : decode cX9_holdings 57 = .ok (.iconst 0, 1) := by decide +kernel
theorem dX9_holdings_58 : decode cX9_holdings 58 = .ok (.istore 5, 2) := by decide +kernel
theorem dX9_holdings_60 : decode cX9_holdings 60 = .ok (.iload 5, 2) := by decide +kernel
theorem dX9_holdings_62 : decode cX9_holdings 62 = .ok (.bipush 36, 2) := by decide +kernel
theorem dX9_holdings_64 : decode cX9_holdings 64 = .ok (.if_icmp .ge 17, 3) := by decide +kernel
theorem dX9_holdings_67 : decode cX9_holdings 67 = .ok (.aload_n 0, 1) := by decide +kernel
theorem dX9_holdings_68 : decode cX9_holdings 68 = .ok (.getfield 50, 3) := by decide +kernel
theorem dX9_holdings_71 : decode cX9_holdings 71 = .ok (.iload 5, 2) := by decide +kernel
theorem dX9_holdings_73 : decode cX9_holdings 73 = .ok (.iconst 0, 1) := by decide +kernel
theorem dX9_holdings_74 : decode cX9_holdings 74 = .ok (.iastore, 1) := by decide +kernel
theorem dX9_holdings_75 : decode cX9_holdings 75 = .ok (.iinc 5 1, 3) := by decide +kernel
theorem dX9_holdings_78 : decode cX9_holdings 78 = .ok (.goto (-18), 3) := by decide +kernel
theorem dX9_holdings_81 : decode cX9_holdings 81 = .ok (.iconst 0, 1) := by decide +kernel
theorem dX9_holdings_82 : decode cX9_holdings 82 = .ok (.istore 5, 2) := by decide +kernel
theorem dX9_holdings_84 : decode cX9_holdings 84 = .ok (.iload 5, 2) := by decide +kernel
theorem dX9_holdings_86 : decode cX9_holdings 86 = .ok (.bipush 36, 2) := by decide +kernel
theorem dX9_holdings_88 : decode cX9_holdings 88 = .ok (.if_icmp .ge 172, 3) := by decide +kernel
theorem dX9_holdings_91 : decode cX9_holdings 91 = .ok (.aload_n 0, 1) := by decide +kernel
theorem dX9_holdings_92 : decode cX9_holdings 92 = .ok (.getfield 32, 3) := by decide +kernel
theorem dX9_holdings_95 : decode cX9_holdings 95 = .ok (.iconst 0, 1) := by decide +kernel
theorem dX9_holdings_96 : decode cX9_holdings 96 = .ok (.iload 5, 2) := by decide +kernel
theorem dX9_holdings_98 : decode cX9_holdings 98 = .ok (.iastore, 1) := by decide +kernel
theorem dX9_holdings_99 : decode cX9_holdings 99 = .ok (.iload_n 2, 1) := by decide +kernel
theorem dX9_holdings_100 : decode cX9_holdings 100 = .ok (.iconst 1, 1) := by decide +kernel
theorem dX9_holdings_101 : decode cX9_holdings 101 = .ok (.if_icmp .ne 22, 3) := by decide +kernel
theorem dX9_holdings_104 : decode cX9_holdings 104 = .ok (.aload_n 0, 1) := by decide +kernel
theorem dX9_holdings_105 : decode cX9_holdings 105 = .ok (.getfield 7, 3) := by decide +kernel
theorem dX9_holdings_108 : decode cX9_holdings 108 = .ok (.iload 5, 2) := by decide +kernel
theorem dX9_holdings_110 : decode cX9_holdings 110 = .ok (.invokestatic 133, 3) := by decide +kernel
theorem dX9_holdings_113 : decode cX9_holdings 113 = .ok (.ifCond .eq 10, 3) := by decide +kernel
theorem dX9_holdings_116 : decode cX9_holdings 116 = .ok (.aload_n 0, 1) := by decide +kernel
theorem dX9_holdings_117 : decode cX9_holdings 117 = .ok (.iload_n 1, 1) := by decide +kernel
theorem dX9_holdings_118 : decode cX9_holdings 118 = .ok (.iload_n 2, 1) := by decide +kernel
theorem dX9_holdings_119 : decode cX9_holdings 119 = .ok (.iload_n 3, 1) := by decide +kernel
theorem dX9_holdings_120 : decode cX9_holdings 120 = .ok (.invokevirtual 244, 3) := by decide +kernel
theorem dX9_holdings_123 : decode cX9_holdings 123 = .ok (.iload 5, 2) := by decide +kernel
theorem dX9_holdings_125 : decode cX9_holdings 125 = .ok (.iconst 1, 1) := by decide +kernel
theorem dX9_holdings_126 : decode cX9_holdings 126 = .ok (.iadd, 1) := by decide +kernel
theorem dX9_holdings_127 : decode cX9_holdings 127 = .ok (.istore 6, 2) := by decide +kernel
theorem dX9_holdings_129 : decode cX9_holdings 129 = .ok (.iload 6, 2) := by decide +kernel
theorem dX9_holdings_131 : decode cX9_holdings 131 = .ok (.bipush 36, 2) := by decide +kernel
theorem dX9_holdings_133 : decode cX9_holdings 133 = .ok (.if_icmp .ge 121, 3) := by decide +kernel
theorem dX9_holdings_136 : decode cX9_holdings 136 = .ok (.iload_n 2, 1) := by decide +kernel
theorem dX9_holdings_137 : decode cX9_holdings 137 = .ok (.iconst 1, 1) := by decide +kernel
theorem dX9_holdings_138 : decode cX9_holdings 138 = .ok (.if_icmp .le 116, 3) := by decide +kernel
theorem dX9_holdings_141 : decode cX9_holdings 141 = .ok (.aload_n 0, 1) := by decide +kernel
theorem dX9_holdings_142 : decode cX9_holdings 142 = .ok (.getfield 7, 3) := by decide +kernel
theorem dX9_holdings_145 : decode cX9_holdings 145 = .ok (.iload 5, 2) := by decide +kernel
theorem dX9_holdings_147 : decode cX9_holdings 147 = .ok (.invokestatic 133, 3) := by decide +kernel
theorem dX9_holdings_150 : decode cX9_holdings 150 = .ok (.ifCond .eq 104, 3) := by decide +kernel
theorem dX9_holdings_153 : decode cX9_holdings 153 = .ok (.aload_n 0, 1) := by decide +kernel
theorem dX9_holdings_154 : decode cX9_holdings 154 = .ok (.getfield 32, 3) := by decide +kernel
theorem dX9_holdings_157 : decode cX9_holdings 157 = .ok (.iconst 1, 1) := by decide +kernel
theorem dX9_holdings_158 : decode cX9_holdings 158 = .ok (.iload 6, 2) := by decide +kernel
theorem dX9_holdings_160 : decode cX9_holdings 160 = .ok (.iastore, 1) := by decide +kernel
theorem dX9_holdings_161 : decode cX9_holdings 161 = .ok (.iload_n 2, 1) := by decide +kernel
theorem dX9_holdings_162 : decode cX9_holdings 162 = .ok (.iconst 2, 1) := by decide +kernel
theorem dX9_holdings_163 : decode cX9_holdings 163 = .ok (.if_icmp .ne 22, 3) := by decide +kernel
theorem dX9_holdings_166 : decode cX9_holdings 166 = .ok (.aload_n 0, 1) := by decide +kernel
theorem dX9_holdings_167 : decode cX9_holdings 167 = .ok (.getfield 7, 3) := by decide +kernel
theorem dX9_holdings_170 : decode cX9_holdings 170 = .ok (.iload 6, 2) := by decide +kernel
theorem dX9_holdings_172 : decode cX9_holdings 172 = .ok (.invokestatic 133, 3) := by decide +kernel
theorem dX9_holdings_175 : decode cX9_holdings 175 = .ok (.ifCond .eq 10, 3) := by decide +kernel
theorem dX9_holdings_178 : decode cX9_holdings 178 = .ok (.aload_n 0, 1) := by decide +kernel
theorem dX9_holdings_179 : decode cX9_holdings 179 = .ok (.iload_n 1, 1) := by decide +kernel
theorem dX9_holdings_180 : decode cX9_holdings 180 = .ok (.iload_n 2, 1) := by decide +kernel
theorem dX9_holdings_181 : decode cX9_holdings 181 = .ok (.iload_n 3, 1) := by decide +kernel
theorem dX9_holdings_182 : decode cX9_holdings 182 = .ok (.invokevirtual 244, 3) := by decide +kernel
theorem dX9_holdings_185 : decode cX9_holdings 185 = .ok (.iload 6, 2) := by decide +kernel
theorem dX9_holdings_187 : decode cX9_holdings 187 = .ok (.iconst 1, 1) := by decide +kernel
theorem dX9_holdings_188 : decode cX9_holdings 188 = .ok (.iadd, 1) := by decide +kernel
theorem dX9_holdings_189 : decode cX9_holdings 189 = .ok (.istore 7, 2) := by decide +kernel
theorem dX9_holdings_191 : decode cX9_holdings 191 = .ok (.iload 7, 2) := by decide +kernel
theorem dX9_holdings_193 : decode cX9_holdings 193 = .ok (.bipush 36, 2) := by decide +kernel
theorem dX9_holdings_195 : decode cX9_holdings 195 = .ok (.if_icmp .ge 53, 3) := by decide +kernel
theorem dX9_holdings_198 : decode cX9_holdings 198 = .ok (.iload_n 2, 1) := by decide +kernel
theorem dX9_holdings_199 : decode cX9_holdings 199 = .ok (.iconst 2, 1) := by decide +kernel
theorem dX9_holdings_200 : decode cX9_holdings 200 = .ok (.if_icmp .le 48, 3) := by decide +kernel
theorem dX9_holdings_203 : decode cX9_holdings 203 = .ok (.aload_n 0, 1) := by decide +kernel
theorem dX9_holdings_204 : decode cX9_holdings 204 = .ok (.getfield 7, 3) := by decide +kernel
theorem dX9_holdings_207 : decode cX9_holdings 207 = .ok (.iload 6, 2) := by decide +kernel
theorem dX9_holdings_209 : decode cX9_holdings 209 = .ok (.invokestatic 133, 3) := by decide +kernel
theorem dX9_holdings_212 : decode cX9_holdings 212 = .ok (.ifCond .eq 36, 3) := by decide +kernel
theorem dX9_holdings_215 : decode cX9_holdings 215 = .ok (.aload_n 0, 1) := by decide +kernel
theorem dX9_holdings_216 : decode cX9_holdings 216 = .ok (.getfield 32, 3) := by decide +kernel
theorem dX9_holdings_219 : decode cX9_holdings 219 = .ok (.iconst 2, 1) := by decide +kernel
theorem dX9_holdings_220 : decode cX9_holdings 220 = .ok (.iload 7, 2) := by decide +kernel
theorem dX9_holdings_222 : decode cX9_holdings 222 = .ok (.iastore, 1) := by decide +kernel
theorem dX9_holdings_223 : decode cX9_holdings 223 = .ok (.aload_n 0, 1) := by decide +kernel
theorem dX9_holdings_224 : decode cX9_holdings 224 = .ok (.getfield 7, 3) := by decide +kernel
theorem dX9_holdings_227 : decode cX9_holdings 227 = .ok (.iload 7, 2) := by decide +kernel
theorem dX9_holdings_229 : decode cX9_holdings 229 = .ok (.invokestatic 133, 3) := by decide +kernel
theorem dX9_holdings_232 : decode cX9_holdings 232 = .ok (.ifCond .eq 10, 3) := by decide +kernel
theorem dX9_holdings_235 : decode cX9_holdings 235 = .ok (.aload_n 0, 1) := by decide +kernel
theorem dX9_holdings_236 : decode cX9_holdings 236 = .ok (.iload_n 1, 1) := by decide +kernel
theorem dX9_holdings_237 : decode cX9_holdings 237 = .ok (.iload_n 2, 1) := by decide +kernel
theorem dX9_holdings_238 : decode cX9_holdings 238 = .ok (.iload_n 3, 1) := by decide +kernel
theorem dX9_holdings_239 : decode cX9_holdings 239 = .ok (.invokevirtual 244, 3) := by decide +kernel
theorem dX9_holdings_242 : decode cX9_holdings 242 = .ok (.iinc 7 1, 3) := by decide +kernel
theorem dX9_holdings_245 : decode cX9_holdings 245 = .ok (.goto (-54), 3) := by decide +kernel
theorem dX9_holdings_248 : decode cX9_holdings 248 = .ok (.iinc 6 1, 3) := by decide +kernel
theorem dX9_holdings_251 : decode cX9_holdings 251 = .ok (.goto (-122), 3) := by decide +kernel
theorem dX9_holdings_254 : decode cX9_holdings 254 = .ok (.iinc 5 1, 3) := by decide +kernel
theorem dX9_holdings_257 : decode cX9_holdings 257 = .ok (.goto (-173), 3) := by decide +kernel
theorem dX9_holdings_260 : decode cX9_holdings 260 = .ok (.bipush (-4), 2) := by decide +kernel
theorem dX9_holdings_262 : decode cX9_holdings 262 = .ok (.istore 5, 2) := by decide +kernel
theorem dX9_holdings_264 : decode cX9_holdings 264 = .ok (.iconst 0, 1) := by decide +kernel
theorem dX9_holdings_265 : decode cX9_holdings 265 = .ok (.istore 6, 2) := by decide +kernel
theorem dX9_holdings_267 : decode cX9_holdings 267 = .ok (.iconst 0, 1) := by decide +kernel
theorem dX9_holdings_268 : decode cX9_holdings 268 = .ok (.istore 7, 2) := by decide +kernel
theorem dX9_holdings_270 : decode cX9_holdings 270 = .ok (.iload 7, 2) := by decide +kernel
theorem dX9_holdings_272 : decode cX9_holdings 272 = .ok (.bipush 36, 2) := by decide +kernel
theorem dX9_holdings_274 : decode cX9_holdings 274 = .ok (.if_icmp .ge 99, 3) := by decide +kernel
theorem dX9_holdings_277 : decode cX9_holdings 277 = .ok (.aload_n 0, 1) := by decide +kernel
theorem dX9_holdings_278 : decode cX9_holdings 278 = .ok (.getfield 237, 3) := by decide +kernel
theorem dX9_holdings_281 : decode cX9_holdings 281 = .ok (.ifCond .le 92, 3) := by decide +kernel
theorem dX9_holdings_284 : decode cX9_holdings 284 = .ok (.iconst 2, 1) := by decide +kernel
theorem dX9_holdings_285 : decode cX9_holdings 285 = .ok (.aload_n 0, 1) := by decide +kernel
theorem dX9_holdings_286 : decode cX9_holdings 286 = .ok (.getfield 50, 3) := by decide +kernel
theorem dX9_holdings_289 : decode cX9_holdings 289 = .ok (.iload 7, 2) := by decide +kernel
theorem dX9_holdings_291 : decode cX9_holdings 291 = .ok (.iaload, 1) := by decide +kernel
theorem dX9_holdings_292 : decode cX9_holdings 292 = .ok (.imul, 1) := by decide +kernel
theorem dX9_holdings_293 : decode cX9_holdings 293 = .ok (.aload_n 0, 1) := by decide +kernel
theorem dX9_holdings_294 : decode cX9_holdings 294 = .ok (.getfield 237, 3) := by decide +kernel
theorem dX9_holdings_297 : decode cX9_holdings 297 = .ok (.if_icmp .le 20, 3) := by decide +kernel
theorem dX9_holdings_300 : decode cX9_holdings 300 = .ok (.iconst 2, 1) := by decide +kernel
theorem dX9_holdings_301 : decode cX9_holdings 301 = .ok (.aload_n 0, 1) := by decide +kernel
theorem dX9_holdings_302 : decode cX9_holdings 302 = .ok (.getfield 50, 3) := by decide +kernel
theorem dX9_holdings_305 : decode cX9_holdings 305 = .ok (.iload 7, 2) := by decide +kernel
theorem dX9_holdings_307 : decode cX9_holdings 307 = .ok (.iaload, 1) := by decide +kernel
theorem dX9_holdings_308 : decode cX9_holdings 308 = .ok (.imul, 1) := by decide +kernel
theorem dX9_holdings_309 : decode cX9_holdings 309 = .ok (.aload_n 0, 1) := by decide +kernel
theorem dX9_holdings_310 : decode cX9_holdings 310 = .ok (.getfield 237, 3) := by decide +kernel
theorem dX9_holdings_313 : decode cX9_holdings 313 = .ok (.isub, 1) := by decide +kernel
theorem dX9_holdings_314 : decode cX9_holdings 314 = .ok (.goto 17, 3) := by decide +kernel
theorem dX9_holdings_317 : decode cX9_holdings 317 = .ok (.aload_n 0, 1) := by decide +kernel
theorem dX9_holdings_318 : decode cX9_holdings 318 = .ok (.getfield 237, 3) := by decide +kernel
theorem dX9_holdings_321 : decode cX9_holdings 321 = .ok (.iconst 2, 1) := by decide +kernel
theorem dX9_holdings_322 : decode cX9_holdings 322 = .ok (.aload_n 0, 1) := by decide +kernel
theorem dX9_holdings_323 : decode cX9_holdings 323 = .ok (.getfield 50, 3) := by decide +kernel
theorem dX9_holdings_326 : decode cX9_holdings 326 = .ok (.iload 7, 2) := by decide +kernel
theorem dX9_holdings_328 : decode cX9_holdings 328 = .ok (.iaload, 1) := by decide +kernel
theorem dX9_holdings_329 : decode cX9_holdings 329 = .ok (.imul, 1) := by decide +kernel
theorem dX9_holdings_330 : decode cX9_holdings 330 = .ok (.isub, 1) := by decide +kernel
theorem dX9_holdings_331 : decode cX9_holdings 331 = .ok (.istore 8, 2) := by decide +kernel
theorem dX9_holdings_333 : decode cX9_holdings 333 = .ok (.aload_n 0, 1) := by decide +kernel
theorem dX9_holdings_334 : decode cX9_holdings 334 = .ok (.getfield 7, 3) := by decide +kernel
theorem dX9_holdings_337 : decode cX9_holdings 337 = .ok (.iload 7, 2) := by decide +kernel
theorem dX9_holdings_339 : decode cX9_holdings 339 = .ok (.invokestatic 133, 3) := by decide +kernel
theorem dX9_holdings_342 : decode cX9_holdings 342 = .ok (.ifCond .eq 25, 3) := by decide +kernel
theorem dX9_holdings_345 : decode cX9_holdings 345 = .ok (.iload 5, 2) := by decide +kernel
theorem dX9_holdings_347 : decode cX9_holdings 347 = .ok (.bipush (-4), 2) := by decide +kernel
theorem dX9_holdings_349 : decode cX9_holdings 349 = .ok (.if_icmp .eq 10, 3) := by decide +kernel
theorem dX9_holdings_352 : decode cX9_holdings 352 = .ok (.iload 8, 2) := by decide +kernel
theorem dX9_holdings_354 : decode cX9_holdings 354 = .ok (.iload 6, 2) := by decide +kernel
theorem dX9_holdings_356 : decode cX9_holdings 356 = .ok (.if_icmp .ge 11, 3) := by decide +kernel
theorem dX9_holdings_359 : decode cX9_holdings 359 = .ok (.iload 7, 2) := by decide +kernel
theorem dX9_holdings_361 : decode cX9_holdings 361 = .ok (.istore 5, 2) := by decide +kernel
theorem dX9_holdings_363 : decode cX9_holdings 363 = .ok (.iload 8, 2) := by decide +kernel
theorem dX9_holdings_365 : decode cX9_holdings 365 = .ok (.istore 6, 2) := by decide +kernel
theorem dX9_holdings_367 : decode cX9_holdings 367 = .ok (.iinc 7 1, 3) := by decide +kernel
theorem dX9_holdings_370 : decode cX9_holdings 370 = .ok (.goto (-100), 3) := by decide +kernel
theorem dX9_holdings_373 : decode cX9_holdings 373 = .ok (.iload 4, 2) := by decide +kernel
theorem dX9_holdings_375 : decode cX9_holdings 375 = .ok (.ifCond .ne 10, 3) := by decide +kernel
theorem dX9_holdings_378 : decode cX9_holdings 378 = .ok (.aload_n 0, 1) := by decide +kernel
theorem dX9_holdings_379 : decode cX9_holdings 379 = .ok (.getfield 237, 3) := by decide +kernel
theorem dX9_holdings_382 : decode cX9_holdings 382 = .ok (.goto 33, 3) := by decide +kernel
theorem dX9_holdings_385 : decode cX9_holdings 385 = .ok (.iload 4, 2) := by decide +kernel
theorem dX9_holdings_387 : decode cX9_holdings 387 = .ok (.iconst 1, 1) := by decide +kernel
theorem dX9_holdings_388 : decode cX9_holdings 388 = .ok (.if_icmp .ne 10, 3) := by decide +kernel
theorem dX9_holdings_391 : decode cX9_holdings 391 = .ok (.aload_n 0, 1) := by decide +kernel
theorem dX9_holdings_392 : decode cX9_holdings 392 = .ok (.getfield 234, 3) := by decide +kernel
theorem dX9_holdings_395 : decode cX9_holdings 395 = .ok (.goto 20, 3) := by decide +kernel
theorem dX9_holdings_398 : decode cX9_holdings 398 = .ok (.iload 5, 2) := by decide +kernel
theorem dX9_holdings_400 : decode cX9_holdings 400 = .ok (.bipush (-4), 2) := by decide +kernel
theorem dX9_holdings_402 : decode cX9_holdings 402 = .ok (.if_icmp .ne 8, 3) := by decide +kernel
theorem dX9_holdings_405 : decode cX9_holdings 405 = .ok (.bipush (-4), 2) := by decide +kernel
theorem dX9_holdings_407 : decode cX9_holdings 407 = .ok (.goto 8, 3) := by decide +kernel
theorem dX9_holdings_410 : decode cX9_holdings 410 = .ok (.iload 5, 2) := by decide +kernel
theorem dX9_holdings_412 : decode cX9_holdings 412 = .ok (.invokestatic 219, 3) := by decide +kernel
theorem dX9_holdings_415 : decode cX9_holdings 415 = .ok (.ireturn, 1) := by decide +kernel
def X9_holdings_L60 : Nat → Int32 → Rec → Option (Rec)
  | 0, _, _ => none
  | n60 + 1, v8, Z9 => if (36 : Int32) ≤ v8 then
      some Z9
    else
      (wrI (Z9.2.1 19) 36 v8 (0 : Int32)).bind fun w12 =>
      aLet (v8 + (1 : Int32)) fun v14 =>
      X9_holdings_L60 n60 v14 (sA Z9 19 w12)
def X9_holdings_L191 (x2 : Int32) (v26 : Int32) (x1 : Int32) (x3 : Int32) : Nat → Int32 → Rec → Option (Rec)
  | 0, _, _ => none
  | n191 + 1, v38, Z39 => if (36 : Int32) ≤ v38 then
      some Z39
    else
      if x2 ≤ (2 : Int32) then
        some Z39
      else
        (X9_isIn (Z39.2.1 0) v26).bind fun v43 =>
        if v43 = 0 then
          some Z39
        else
          (wrI (Z39.2.1 11) 3 (2 : Int32) v38).bind fun w45 =>
          (X9_isIn ((sA Z39 11 w45).2.1 0) v38).bind fun v47 =>
          if v47 = 0 then
            aLet (v38 + (1 : Int32)) fun v49 =>
            X9_holdings_L191 x2 v26 x1 x3 n191 v49 (sA Z39 11 w45)
          else
            (X9_tryHolding (sA Z39 11 w45) x1 x2 x3).bind fun v50 =>
            aLet (v38 + (1 : Int32)) fun v52 =>
            X9_holdings_L191 x2 v26 x1 x3 n191 v52 v50
def X9_holdings_J185 (v26 : Int32) (x2 : Int32) (x1 : Int32) (x3 : Int32) (k129 : Int32 → Rec → Option (Rec)) (Z35 : Rec) : Option (Rec) :=
  aLet (v26 + (1 : Int32)) fun v37 =>
  (X9_holdings_L191 x2 v26 x1 x3 aFu v37 Z35).bind fun e53 =>
  aLet (v26 + (1 : Int32)) fun v55 =>
  k129 v55 e53
def X9_holdings_L129 (x2 : Int32) (v17 : Int32) (x1 : Int32) (x3 : Int32) : Nat → Int32 → Rec → Option (Rec)
  | 0, _, _ => none
  | n129 + 1, v26, Z27 => if (36 : Int32) ≤ v26 then
      some Z27
    else
      if x2 ≤ (1 : Int32) then
        some Z27
      else
        (X9_isIn (Z27.2.1 0) v17).bind fun v31 =>
        if v31 = 0 then
          some Z27
        else
          (wrI (Z27.2.1 11) 3 (1 : Int32) v26).bind fun w33 =>
          if x2 = (2 : Int32) then
            (X9_isIn ((sA Z27 11 w33).2.1 0) v26).bind fun v57 =>
            if v57 = 0 then
              X9_holdings_J185 v26 x2 x1 x3 (X9_holdings_L129 x2 v17 x1 x3 n129) (sA Z27 11 w33)
            else
              (X9_tryHolding (sA Z27 11 w33) x1 x2 x3).bind fun v59 =>
              X9_holdings_J185 v26 x2 x1 x3 (X9_holdings_L129 x2 v17 x1 x3 n129) v59
          else
            X9_holdings_J185 v26 x2 x1 x3 (X9_holdings_L129 x2 v17 x1 x3 n129) (sA Z27 11 w33)
def X9_holdings_J123 (v17 : Int32) (x2 : Int32) (x1 : Int32) (x3 : Int32) (k84 : Int32 → Rec → Option (Rec)) (Z23 : Rec) : Option (Rec) :=
  aLet (v17 + (1 : Int32)) fun v25 =>
  (X9_holdings_L129 x2 v17 x1 x3 aFu v25 Z23).bind fun e61 =>
  aLet (v17 + (1 : Int32)) fun v63 =>
  k84 v63 e61
def X9_holdings_L84 (x2 : Int32) (x1 : Int32) (x3 : Int32) : Nat → Int32 → Rec → Option (Rec)
  | 0, _, _ => none
  | n84 + 1, v17, Z18 => if (36 : Int32) ≤ v17 then
      some Z18
    else
      (wrI (Z18.2.1 11) 3 (0 : Int32) v17).bind fun w21 =>
      if x2 = (1 : Int32) then
        (X9_isIn ((sA Z18 11 w21).2.1 0) v17).bind fun v65 =>
        if v65 = 0 then
          X9_holdings_J123 v17 x2 x1 x3 (X9_holdings_L84 x2 x1 x3 n84) (sA Z18 11 w21)
        else
          (X9_tryHolding (sA Z18 11 w21) x1 x2 x3).bind fun v67 =>
          X9_holdings_J123 v17 x2 x1 x3 (X9_holdings_L84 x2 x1 x3 n84) v67
      else
        X9_holdings_J123 v17 x2 x1 x3 (X9_holdings_L84 x2 x1 x3 n84) (sA Z18 11 w21)
def X9_holdings_J331 (e69 : (Rec)) (v73 : Int32) (v71 : Int32) (v72 : Int32) (k270 : Int32 → Int32 → Int32 → Option (Int32)) (v77 : Int32) : Option (Int32) :=
  (X9_isIn (e69.2.1 0) v73).bind fun v78 =>
  if v78 = 0 then
    aLet (v73 + (1 : Int32)) fun v80 =>
    k270 v71 v72 v80
  else
    if v71 = (-4 : Int32) then
      aLet (v73 + (1 : Int32)) fun v82 =>
      k270 v73 v77 v82
    else
      if v72 ≤ v77 then
        aLet (v73 + (1 : Int32)) fun v84 =>
        k270 v71 v72 v84
      else
        aLet (v73 + (1 : Int32)) fun v85 =>
        k270 v73 v77 v85
def X9_holdings_L270 (e69 : (Rec)) : Nat → Int32 → Int32 → Int32 → Option (Int32)
  | 0, _, _, _ => none
  | n270 + 1, v71, v72, v73 => if (36 : Int32) ≤ v73 then
      some v71
    else
      if (e69.1 20) ≤ 0 then
        some v71
      else
        (rdI (e69.2.1 19) 36 v73).bind fun v76 =>
        if ((2 : Int32) * v76) ≤ (e69.1 20) then
          (rdI (e69.2.1 19) 36 v73).bind fun v87 =>
          X9_holdings_J331 e69 v73 v71 v72 (X9_holdings_L270 e69 n270) ((e69.1 20) - ((2 : Int32) * v87))
        else
          (rdI (e69.2.1 19) 36 v73).bind fun v88 =>
          X9_holdings_J331 e69 v73 v71 v72 (X9_holdings_L270 e69 n270) (((2 : Int32) * v88) - (e69.1 20))
def X9_holdings (S0 : Rec) (x1 : Int32) (x2 : Int32) (x3 : Int32) (x4 : Int32) : Option (Int32 × Rec) :=
  (X9_isHolder S0 x1).bind fun v1 =>
  if v1 = 0 then
    some ((-1 : Int32), S0)
  else
    if (X9_in (x2.toInt64) (1 : Int64) (3 : Int64)) = 0 then
      some ((-1 : Int32), S0)
    else
      if (X9_in (x3.toInt64) (0 : Int64) (31 : Int64)) = 0 then
        some ((-1 : Int32), S0)
      else
        if (X9_in (x4.toInt64) (0 : Int64) (2 : Int64)) = 0 then
          some ((-1 : Int32), S0)
        else
          (X9_holdings_L60 aFu (0 : Int32) (sI (sI S0 20 (0 : Int32)) 21 (0 : Int32))).bind fun e15 =>
          (X9_holdings_L84 x2 x1 x3 aFu (0 : Int32) e15).bind fun e69 =>
          (X9_holdings_L270 e69 aFu (-4 : Int32) (0 : Int32) (0 : Int32)).bind fun e89 =>
          if x4 = 0 then
            some ((e69.1 20), e69)
          else
            if x4 = (1 : Int32) then
              some ((e69.1 21), e69)
            else
              if e89 = (-4 : Int32) then
                some ((-4 : Int32), e69)
              else
                some ((X9_numberOf e89), e69)
set_option maxRecDepth 100000 in
set_option maxHeartbeats 4000000 in
theorem X9_holdings_ok (l : Launch) {h : aH} {nx : Nat} {a0 : Nat} {S0 : Rec} {x1 : Int32} {x2 : Int32} {x3 : Int32} {x4 : Int32} (hB0 : X9_at h a0 S0) {r : Int32 × Rec} (hF : X9_holdings S0 x1 x2 x3 x4 = some r) : aOk l 5 0 0 yX9_holdings cX9_holdings 9 (some .int) [.ref a0, .int x1, .int x2, .int x3, .int x4] h nx (aMt (some (.int r.1)) nx (fun h1 => X9_at h1 a0 r.2 ∧ (∀ q, (q < a0 ∨ a0 + 20 ≤ q) → h1 q = h q))) := by
  refine aOk.of (by decide +kernel) (Nat.le_of_ble_eq_true rfl) (fun X G hX C R0 _ => ?_)
  subst hX
  show aV X G 9 0 [(0, .ref a0), (1, .int x1), (2, .int x2), (3, .int x3), (4, .int x4)] [] h nx 0 0
  have hFr : ∀ q, (q < a0 ∨ a0 + 20 ≤ q) → h q = h q := fun _ _ => rfl
  rw [X9_holdings] at hF
  refine ab_aload_n C 0 rfl rfl dX9_holdings_0 ?_
  refine ab_iload_n C 1 rfl rfl dX9_holdings_1 ?_
  obtain ⟨v1, hxv1, hF⟩ := Option.bind_eq_some_iff.mp hF
  refine ab_cVR (v := .int v1) (st := []) C lm_X9_153 (X9_isHolder_ok (xl X) hB0 (r := v1) hxv1) [.int x1] rfl hB0.1 rfl rfl rfl (by decide) ⟨Nat.zero_le _, Nat.zero_le _⟩ (Nat.le_of_ble_eq_true rfl) dX9_holdings_2 ?_
  refine ab_if_eq C 45 dX9_holdings_5 (by decide) (fun c2 => ?_) (fun c2 => ?_)
  · replace hF := (if_pos c2).symm.trans hF
    refine ab_iconst (v := (-1 : Int32)) C dX9_holdings_45 (by decide) ?_
    obtain rfl := Option.some.inj hF
    exact ab_iret C R0 rfl dX9_holdings_46 ⟨rfl, rfl, hB0, hFr⟩
  · replace hF := (if_neg c2).symm.trans hF
    refine ab_iload_n C 2 rfl rfl dX9_holdings_8 ?_
    refine ab_i2l C dX9_holdings_9 ?_
    refine ab_lconst (v := (1 : Int64)) C dX9_holdings_10 (by decide) ?_
    refine ab_ldc2 (v := (3 : Int64)) C dX9_holdings_11 lq_X9_240 ?_
    refine ab_cSR (v := .int (X9_in (x2.toInt64) (1 : Int64) (3 : Int64))) (st := []) C lm_X9_69 (X9_in_ok (xl X) (r := (X9_in (x2.toInt64) (1 : Int64) (3 : Int64))) rfl) rfl rfl (by decide) ⟨Nat.zero_le _, Nat.zero_le _⟩ (Nat.le_of_ble_eq_true rfl) dX9_holdings_14 ?_
    refine ab_if_eq C 45 dX9_holdings_17 (by decide) (fun c3 => ?_) (fun c3 => ?_)
    · replace hF := (if_pos c3).symm.trans hF
      refine ab_iconst (v := (-1 : Int32)) C dX9_holdings_45 (by decide) ?_
      obtain rfl := Option.some.inj hF
      exact ab_iret C R0 rfl dX9_holdings_46 ⟨rfl, rfl, hB0, hFr⟩
    · replace hF := (if_neg c3).symm.trans hF
      refine ab_iload_n C 3 rfl rfl dX9_holdings_20 ?_
      refine ab_i2l C dX9_holdings_21 ?_
      refine ab_lconst (v := (0 : Int64)) C dX9_holdings_22 (by decide) ?_
      refine ab_ldc2 (v := (31 : Int64)) C dX9_holdings_23 lq_X9_242 ?_
      refine ab_cSR (v := .int (X9_in (x3.toInt64) (0 : Int64) (31 : Int64))) (st := []) C lm_X9_69 (X9_in_ok (xl X) (r := (X9_in (x3.toInt64) (0 : Int64) (31 : Int64))) rfl) rfl rfl (by decide) ⟨Nat.zero_le _, Nat.zero_le _⟩ (Nat.le_of_ble_eq_true rfl) dX9_holdings_26 ?_
      refine ab_if_eq C 45 dX9_holdings_29 (by decide) (fun c4 => ?_) (fun c4 => ?_)
      · replace hF := (if_pos c4).symm.trans hF
        refine ab_iconst (v := (-1 : Int32)) C dX9_holdings_45 (by decide) ?_
        obtain rfl := Option.some.inj hF
        exact ab_iret C R0 rfl dX9_holdings_46 ⟨rfl, rfl, hB0, hFr⟩
      · replace hF := (if_neg c4).symm.trans hF
        refine ab_iload C 4 rfl dX9_holdings_32 ?_
        refine ab_i2l C dX9_holdings_34 ?_
        refine ab_lconst (v := (0 : Int64)) C dX9_holdings_35 (by decide) ?_
        refine ab_ldc2 (v := (2 : Int64)) C dX9_holdings_36 lq_X9_171 ?_
        refine ab_cSR (v := .int (X9_in (x4.toInt64) (0 : Int64) (2 : Int64))) (st := []) C lm_X9_69 (X9_in_ok (xl X) (r := (X9_in (x4.toInt64) (0 : Int64) (2 : Int64))) rfl) rfl rfl (by decide) ⟨Nat.zero_le _, Nat.zero_le _⟩ (Nat.le_of_ble_eq_true rfl) dX9_holdings_39 ?_
        refine ab_if_ne C 47 dX9_holdings_42 (by decide) (fun c5 => ?_) (fun c5 => ?_)
        · replace hF := (if_neg c5).symm.trans hF
          refine ab_aload_n C 0 rfl rfl dX9_holdings_47 ?_
          refine ab_iconst (v := (0 : Int32)) C dX9_holdings_48 (by decide) ?_
          refine ab_p9 (ty := .int) C lf_X9_237 rfl (by decide +kernel) rfl rfl (Nat.le_of_ble_eq_true rfl) hB0.1 dX9_holdings_49 (fun g6 eg6 og6 => ?_)
          have hB0 : X9_at g6 a0 (sI S0 20 (0 : Int32)) := X9_p20 hB0 eg6 og6
          have hFr : ∀ q, (q < a0 ∨ a0 + 20 ≤ q) → g6 q = h q := fun q u0 => (og6 q (by omega)).trans (hFr q u0)
          refine ab_aload_n C 0 rfl rfl dX9_holdings_52 ?_
          refine ab_iconst (v := (0 : Int32)) C dX9_holdings_53 (by decide) ?_
          refine ab_p9 (ty := .int) C lf_X9_234 rfl (by decide +kernel) rfl rfl (Nat.le_of_ble_eq_true rfl) hB0.1 dX9_holdings_54 (fun g7 eg7 og7 => ?_)
          have hB0 : X9_at g7 a0 (sI (sI S0 20 (0 : Int32)) 21 (0 : Int32)) := X9_p21 hB0 eg7 og7
          have hFr : ∀ q, (q < a0 ∨ a0 + 20 ≤ q) → g7 q = h q := fun q u0 => (og7 q (by omega)).trans (hFr q u0)
          refine ab_iconst (v := (0 : Int32)) C dX9_holdings_57 (by decide) ?_
          refine ab_istore (lv' := [(5, .int (0 : Int32)), (0, .ref a0), (1, .int x1), (2, .int x2), (3, .int x3), (4, .int x4)]) C dX9_holdings_58 (by decide) rfl ?_
          have L60 : ∀ (n60 : Nat) (v8 : Int32) (Z9 : Rec) (g10 : aH), (X9_at g10 a0 Z9) → (∀ q, (q < a0 ∨ a0 + 20 ≤ q) → g10 q = h q) → ∀ (res60 : Rec), X9_holdings_L60 n60 v8 Z9 = some res60 → (∀ (q9 : aH), (X9_at q9 a0 res60) → (∀ q, (q < a0 ∨ a0 + 20 ≤ q) → q9 q = h q) → aV X G 9 81 [(0, .ref a0), (1, .int x1), (2, .int x2), (3, .int x3), (4, .int x4)] [] q9 nx 0 0) → aV X G 9 60 [(0, .ref a0), (1, .int x1), (2, .int x2), (3, .int x3), (4, .int x4), (5, .int v8)] [] g10 nx 0 0 := by
            intro n60
            induction n60 with
            | zero => intro v8 Z9 g10 hB0 hFr res60 hF KX60; cases (show (none : Option (Rec)) = some res60 from hF)
            | succ n60 ih60 =>
              intro v8 Z9 g10 hB0 hFr res60 hF KX60
              rw [X9_holdings_L60] at hF
              refine ab_iload C 5 rfl dX9_holdings_60 ?_
              refine ab_bipush (v := (36 : Int32)) C dX9_holdings_62 (by decide) ?_
              refine ab_icmp_ge C 81 dX9_holdings_64 (by decide) (fun c11 => ?_) (fun c11 => ?_)
              · replace hF := (if_pos c11).symm.trans hF
                obtain rfl := Option.some.inj hF
                refine aV.sub (lv' := [(0, .ref a0), (1, .int x1), (2, .int x2), (3, .int x3), (4, .int x4)]) [0, 1, 2, 3, 4] rfl ?_
                exact KX60 g10 hB0 hFr
              · replace hF := (if_neg c11).symm.trans hF
                refine ab_aload_n C 0 rfl rfl dX9_holdings_67 ?_
                refine ab_g9 (v := .ref (a0 + 14)) C lf_X9_50 hB0.1 rfl dX9_holdings_68 ?_
                refine ab_iload C 5 rfl dX9_holdings_71 ?_
                refine ab_iconst (v := (0 : Int32)) C dX9_holdings_73 (by decide) ?_
                obtain ⟨w12, hxw12, hF⟩ := Option.bind_eq_some_iff.mp hF
                refine ab_iast C (X9_r19 hB0) hxw12 dX9_holdings_74 (fun g13 eg13 og13 => ?_)
                have hB0 : X9_at g13 a0 (sA Z9 19 w12) := X9_w19 hB0 eg13 og13
                have hFr : ∀ q, (q < a0 ∨ a0 + 20 ≤ q) → g13 q = h q := fun q u0 => (og13 q (by omega)).trans (hFr q u0)
                obtain ⟨v14, qv14⟩ : ∃ y : Int32, y = (v8 + (1 : Int32)) := ⟨_, rfl⟩
                replace hF := aLet_e hF v14 qv14
                refine ab_iinc (lv' := [(5, .int v14), (0, .ref a0), (1, .int x1), (2, .int x2), (3, .int x3), (4, .int x4)]) C 5 rfl dX9_holdings_75 (by rw [qv14]; rfl) (by decide) rfl ?_
                refine ab_goto C 60 dX9_holdings_78 (by decide) ?_
                refine aV.sub (lv' := [(0, .ref a0), (1, .int x1), (2, .int x2), (3, .int x3), (4, .int x4), (5, .int v14)]) [1, 2, 3, 4, 5, 0] rfl ?_
                exact ih60 v14 (sA Z9 19 w12) g13 hB0 hFr res60 hF KX60
          refine aV.sub (lv' := [(0, .ref a0), (1, .int x1), (2, .int x2), (3, .int x3), (4, .int x4), (5, .int (0 : Int32))]) [1, 2, 3, 4, 5, 0] rfl ?_
          obtain ⟨e15, he15, hF⟩ := Option.bind_eq_some_iff.mp hF
          refine L60 aFu (0 : Int32) (sI (sI S0 20 (0 : Int32)) 21 (0 : Int32)) g7 hB0 hFr e15 he15 (fun g16 hB0 hFr => ?_)
          refine ab_iconst (v := (0 : Int32)) C dX9_holdings_81 (by decide) ?_
          refine ab_istore (lv' := [(5, .int (0 : Int32)), (0, .ref a0), (1, .int x1), (2, .int x2), (3, .int x3), (4, .int x4)]) C dX9_holdings_82 (by decide) rfl ?_
          have L84 : ∀ (n84 : Nat) (v17 : Int32) (Z18 : Rec) (g19 : aH), (X9_at g19 a0 Z18) → (∀ q, (q < a0 ∨ a0 + 20 ≤ q) → g19 q = h q) → ∀ (res84 : Rec), X9_holdings_L84 x2 x1 x3 n84 v17 Z18 = some res84 → (∀ (q9 : aH), (X9_at q9 a0 res84) → (∀ q, (q < a0 ∨ a0 + 20 ≤ q) → q9 q = h q) → aV X G 9 260 [(0, .ref a0), (4, .int x4)] [] q9 nx 0 0) → aV X G 9 84 [(0, .ref a0), (1, .int x1), (2, .int x2), (3, .int x3), (4, .int x4), (5, .int v17)] [] g19 nx 0 0 := by
            intro n84
            induction n84 with
            | zero => intro v17 Z18 g19 hB0 hFr res84 hF KX84; cases (show (none : Option (Rec)) = some res84 from hF)
            | succ n84 ih84 =>
              intro v17 Z18 g19 hB0 hFr res84 hF KX84
              rw [X9_holdings_L84] at hF
              refine ab_iload C 5 rfl dX9_holdings_84 ?_
              refine ab_bipush (v := (36 : Int32)) C dX9_holdings_86 (by decide) ?_
              refine ab_icmp_ge C 260 dX9_holdings_88 (by decide) (fun c20 => ?_) (fun c20 => ?_)
              · replace hF := (if_pos c20).symm.trans hF
                obtain rfl := Option.some.inj hF
                refine aV.sub (lv' := [(0, .ref a0), (4, .int x4)]) [0, 4] rfl ?_
                exact KX84 g19 hB0 hFr
              · replace hF := (if_neg c20).symm.trans hF
                refine ab_aload_n C 0 rfl rfl dX9_holdings_91 ?_
                refine ab_g9 (v := .ref (a0 + 8)) C lf_X9_32 hB0.1 rfl dX9_holdings_92 ?_
                refine ab_iconst (v := (0 : Int32)) C dX9_holdings_95 (by decide) ?_
                refine ab_iload C 5 rfl dX9_holdings_96 ?_
                obtain ⟨w21, hxw21, hF⟩ := Option.bind_eq_some_iff.mp hF
                refine ab_iast C (X9_r11 hB0) hxw21 dX9_holdings_98 (fun g22 eg22 og22 => ?_)
                have hB0 : X9_at g22 a0 (sA Z18 11 w21) := X9_w11 hB0 eg22 og22
                have hFr : ∀ q, (q < a0 ∨ a0 + 20 ≤ q) → g22 q = h q := fun q u0 => (og22 q (by omega)).trans (hFr q u0)
                refine ab_iload_n C 2 rfl rfl dX9_holdings_99 ?_
                refine ab_iconst (v := (1 : Int32)) C dX9_holdings_100 (by decide) ?_
                have J123 : ∀ (Z23 : Rec) (g24 : aH), (X9_at g24 a0 Z23) → (∀ q, (q < a0 ∨ a0 + 20 ≤ q) → g24 q = h q) → X9_holdings_J123 v17 x2 x1 x3 (X9_holdings_L84 x2 x1 x3 n84) Z23 = some res84 → aV X G 9 123 [(0, .ref a0), (1, .int x1), (2, .int x2), (3, .int x3), (4, .int x4), (5, .int v17)] [] g24 nx 0 0 := by
                  intro Z23 g24 hB0 hFr hF
                  rw [X9_holdings_J123] at hF
                  refine ab_iload C 5 rfl dX9_holdings_123 ?_
                  refine ab_iconst (v := (1 : Int32)) C dX9_holdings_125 (by decide) ?_
                  refine ab_iadd C dX9_holdings_126 ?_
                  refine ab_topi (fun v25 qv25 => ?_)
                  replace hF := aLet_e hF v25 qv25
                  refine ab_istore (lv' := [(6, .int v25), (0, .ref a0), (1, .int x1), (2, .int x2), (3, .int x3), (4, .int x4), (5, .int v17)]) C dX9_holdings_127 (by decide) rfl ?_
                  have L129 : ∀ (n129 : Nat) (v26 : Int32) (Z27 : Rec) (g28 : aH), (X9_at g28 a0 Z27) → (∀ q, (q < a0 ∨ a0 + 20 ≤ q) → g28 q = h q) → ∀ (res129 : Rec), X9_holdings_L129 x2 v17 x1 x3 n129 v26 Z27 = some res129 → (∀ (q9 : aH), (X9_at q9 a0 res129) → (∀ q, (q < a0 ∨ a0 + 20 ≤ q) → q9 q = h q) → aV X G 9 254 [(0, .ref a0), (1, .int x1), (2, .int x2), (3, .int x3), (4, .int x4), (5, .int v17)] [] q9 nx 0 0) → aV X G 9 129 [(0, .ref a0), (1, .int x1), (2, .int x2), (3, .int x3), (4, .int x4), (5, .int v17), (6, .int v26)] [] g28 nx 0 0 := by
                    intro n129
                    induction n129 with
                    | zero => intro v26 Z27 g28 hB0 hFr res129 hF KX129; cases (show (none : Option (Rec)) = some res129 from hF)
                    | succ n129 ih129 =>
                      intro v26 Z27 g28 hB0 hFr res129 hF KX129
                      rw [X9_holdings_L129] at hF
                      refine ab_iload C 6 rfl dX9_holdings_129 ?_
                      refine ab_bipush (v := (36 : Int32)) C dX9_holdings_131 (by decide) ?_
                      refine ab_icmp_ge C 254 dX9_holdings_133 (by decide) (fun c29 => ?_) (fun c29 => ?_)
                      · replace hF := (if_pos c29).symm.trans hF
                        obtain rfl := Option.some.inj hF
                        refine aV.sub (lv' := [(0, .ref a0), (1, .int x1), (2, .int x2), (3, .int x3), (4, .int x4), (5, .int v17)]) [0, 1, 2, 3, 4, 5] rfl ?_
                        exact KX129 g28 hB0 hFr
                      · replace hF := (if_neg c29).symm.trans hF
                        refine ab_iload_n C 2 rfl rfl dX9_holdings_136 ?_
                        refine ab_iconst (v := (1 : Int32)) C dX9_holdings_137 (by decide) ?_
                        refine ab_icmp_le C 254 dX9_holdings_138 (by decide) (fun c30 => ?_) (fun c30 => ?_)
                        · replace hF := (if_pos c30).symm.trans hF
                          obtain rfl := Option.some.inj hF
                          refine aV.sub (lv' := [(0, .ref a0), (1, .int x1), (2, .int x2), (3, .int x3), (4, .int x4), (5, .int v17)]) [0, 1, 2, 3, 4, 5] rfl ?_
                          exact KX129 g28 hB0 hFr
                        · replace hF := (if_neg c30).symm.trans hF
                          refine ab_aload_n C 0 rfl rfl dX9_holdings_141 ?_
                          refine ab_g9 (v := .ref (a0 + 1)) C lf_X9_7 hB0.1 rfl dX9_holdings_142 ?_
                          refine ab_iload C 5 rfl dX9_holdings_145 ?_
                          obtain ⟨v31, hxv31, hF⟩ := Option.bind_eq_some_iff.mp hF
                          refine ab_cSR (v := .int v31) (st := []) C lm_X9_133 (X9_isIn_ok (xl X) (X9_r0 hB0) (r := v31) hxv31) rfl rfl (by decide) ⟨Nat.zero_le _, Nat.zero_le _⟩ (Nat.le_of_ble_eq_true rfl) dX9_holdings_147 ?_
                          refine ab_if_eq C 254 dX9_holdings_150 (by decide) (fun c32 => ?_) (fun c32 => ?_)
                          · replace hF := (if_pos c32).symm.trans hF
                            obtain rfl := Option.some.inj hF
                            refine aV.sub (lv' := [(0, .ref a0), (1, .int x1), (2, .int x2), (3, .int x3), (4, .int x4), (5, .int v17)]) [0, 1, 2, 3, 4, 5] rfl ?_
                            exact KX129 g28 hB0 hFr
                          · replace hF := (if_neg c32).symm.trans hF
                            refine ab_aload_n C 0 rfl rfl dX9_holdings_153 ?_
                            refine ab_g9 (v := .ref (a0 + 8)) C lf_X9_32 hB0.1 rfl dX9_holdings_154 ?_
                            refine ab_iconst (v := (1 : Int32)) C dX9_holdings_157 (by decide) ?_
                            refine ab_iload C 6 rfl dX9_holdings_158 ?_
                            obtain ⟨w33, hxw33, hF⟩ := Option.bind_eq_some_iff.mp hF
                            refine ab_iast C (X9_r11 hB0) hxw33 dX9_holdings_160 (fun g34 eg34 og34 => ?_)
                            have hB0 : X9_at g34 a0 (sA Z27 11 w33) := X9_w11 hB0 eg34 og34
                            have hFr : ∀ q, (q < a0 ∨ a0 + 20 ≤ q) → g34 q = h q := fun q u0 => (og34 q (by omega)).trans (hFr q u0)
                            refine ab_iload_n C 2 rfl rfl dX9_holdings_161 ?_
                            refine ab_iconst (v := (2 : Int32)) C dX9_holdings_162 (by decide) ?_
                            have J185 : ∀ (Z35 : Rec) (g36 : aH), (X9_at g36 a0 Z35) → (∀ q, (q < a0 ∨ a0 + 20 ≤ q) → g36 q = h q) → X9_holdings_J185 v26 x2 x1 x3 (X9_holdings_L129 x2 v17 x1 x3 n129) Z35 = some res129 → aV X G 9 185 [(0, .ref a0), (1, .int x1), (2, .int x2), (3, .int x3), (4, .int x4), (5, .int v17), (6, .int v26)] [] g36 nx 0 0 := by
                              intro Z35 g36 hB0 hFr hF
                              rw [X9_holdings_J185] at hF
                              refine ab_iload C 6 rfl dX9_holdings_185 ?_
                              refine ab_iconst (v := (1 : Int32)) C dX9_holdings_187 (by decide) ?_
                              refine ab_iadd C dX9_holdings_188 ?_
                              refine ab_topi (fun v37 qv37 => ?_)
                              replace hF := aLet_e hF v37 qv37
                              refine ab_istore (lv' := [(7, .int v37), (0, .ref a0), (1, .int x1), (2, .int x2), (3, .int x3), (4, .int x4), (5, .int v17), (6, .int v26)]) C dX9_holdings_189 (by decide) rfl ?_
                              have L191 : ∀ (n191 : Nat) (v38 : Int32) (Z39 : Rec) (g40 : aH), (X9_at g40 a0 Z39) → (∀ q, (q < a0 ∨ a0 + 20 ≤ q) → g40 q = h q) → ∀ (res191 : Rec), X9_holdings_L191 x2 v26 x1 x3 n191 v38 Z39 = some res191 → (∀ (q9 : aH), (X9_at q9 a0 res191) → (∀ q, (q < a0 ∨ a0 + 20 ≤ q) → q9 q = h q) → aV X G 9 248 [(0, .ref a0), (1, .int x1), (2, .int x2), (3, .int x3), (4, .int x4), (5, .int v17), (6, .int v26)] [] q9 nx 0 0) → aV X G 9 191 [(0, .ref a0), (1, .int x1), (2, .int x2), (3, .int x3), (4, .int x4), (5, .int v17), (6, .int v26), (7, .int v38)] [] g40 nx 0 0 := by
                                intro n191
                                induction n191 with
                                | zero => intro v38 Z39 g40 hB0 hFr res191 hF KX191; cases (show (none : Option (Rec)) = some res191 from hF)
                                | succ n191 ih191 =>
                                  intro v38 Z39 g40 hB0 hFr res191 hF KX191
                                  rw [X9_holdings_L191] at hF
                                  refine ab_iload C 7 rfl dX9_holdings_191 ?_
                                  refine ab_bipush (v := (36 : Int32)) C dX9_holdings_193 (by decide) ?_
                                  refine ab_icmp_ge C 248 dX9_holdings_195 (by decide) (fun c41 => ?_) (fun c41 => ?_)
                                  · replace hF := (if_pos c41).symm.trans hF
                                    obtain rfl := Option.some.inj hF
                                    refine aV.sub (lv' := [(0, .ref a0), (1, .int x1), (2, .int x2), (3, .int x3), (4, .int x4), (5, .int v17), (6, .int v26)]) [0, 1, 2, 3, 4, 5, 6] rfl ?_
                                    exact KX191 g40 hB0 hFr
                                  · replace hF := (if_neg c41).symm.trans hF
                                    refine ab_iload_n C 2 rfl rfl dX9_holdings_198 ?_
                                    refine ab_iconst (v := (2 : Int32)) C dX9_holdings_199 (by decide) ?_
                                    refine ab_icmp_le C 248 dX9_holdings_200 (by decide) (fun c42 => ?_) (fun c42 => ?_)
                                    · replace hF := (if_pos c42).symm.trans hF
                                      obtain rfl := Option.some.inj hF
                                      refine aV.sub (lv' := [(0, .ref a0), (1, .int x1), (2, .int x2), (3, .int x3), (4, .int x4), (5, .int v17), (6, .int v26)]) [0, 1, 2, 3, 4, 5, 6] rfl ?_
                                      exact KX191 g40 hB0 hFr
                                    · replace hF := (if_neg c42).symm.trans hF
                                      refine ab_aload_n C 0 rfl rfl dX9_holdings_203 ?_
                                      refine ab_g9 (v := .ref (a0 + 1)) C lf_X9_7 hB0.1 rfl dX9_holdings_204 ?_
                                      refine ab_iload C 6 rfl dX9_holdings_207 ?_
                                      obtain ⟨v43, hxv43, hF⟩ := Option.bind_eq_some_iff.mp hF
                                      refine ab_cSR (v := .int v43) (st := []) C lm_X9_133 (X9_isIn_ok (xl X) (X9_r0 hB0) (r := v43) hxv43) rfl rfl (by decide) ⟨Nat.zero_le _, Nat.zero_le _⟩ (Nat.le_of_ble_eq_true rfl) dX9_holdings_209 ?_
                                      refine ab_if_eq C 248 dX9_holdings_212 (by decide) (fun c44 => ?_) (fun c44 => ?_)
                                      · replace hF := (if_pos c44).symm.trans hF
                                        obtain rfl := Option.some.inj hF
                                        refine aV.sub (lv' := [(0, .ref a0), (1, .int x1), (2, .int x2), (3, .int x3), (4, .int x4), (5, .int v17), (6, .int v26)]) [0, 1, 2, 3, 4, 5, 6] rfl ?_
                                        exact KX191 g40 hB0 hFr
                                      · replace hF := (if_neg c44).symm.trans hF
                                        refine ab_aload_n C 0 rfl rfl dX9_holdings_215 ?_
                                        refine ab_g9 (v := .ref (a0 + 8)) C lf_X9_32 hB0.1 rfl dX9_holdings_216 ?_
                                        refine ab_iconst (v := (2 : Int32)) C dX9_holdings_219 (by decide) ?_
                                        refine ab_iload C 7 rfl dX9_holdings_220 ?_
                                        obtain ⟨w45, hxw45, hF⟩ := Option.bind_eq_some_iff.mp hF
                                        refine ab_iast C (X9_r11 hB0) hxw45 dX9_holdings_222 (fun g46 eg46 og46 => ?_)
                                        have hB0 : X9_at g46 a0 (sA Z39 11 w45) := X9_w11 hB0 eg46 og46
                                        have hFr : ∀ q, (q < a0 ∨ a0 + 20 ≤ q) → g46 q = h q := fun q u0 => (og46 q (by omega)).trans (hFr q u0)
                                        refine ab_aload_n C 0 rfl rfl dX9_holdings_223 ?_
                                        refine ab_g9 (v := .ref (a0 + 1)) C lf_X9_7 hB0.1 rfl dX9_holdings_224 ?_
                                        refine ab_iload C 7 rfl dX9_holdings_227 ?_
                                        obtain ⟨v47, hxv47, hF⟩ := Option.bind_eq_some_iff.mp hF
                                        refine ab_cSR (v := .int v47) (st := []) C lm_X9_133 (X9_isIn_ok (xl X) (X9_r0 hB0) (r := v47) hxv47) rfl rfl (by decide) ⟨Nat.zero_le _, Nat.zero_le _⟩ (Nat.le_of_ble_eq_true rfl) dX9_holdings_229 ?_
                                        refine ab_if_eq C 242 dX9_holdings_232 (by decide) (fun c48 => ?_) (fun c48 => ?_)
                                        · replace hF := (if_pos c48).symm.trans hF
                                          obtain ⟨v49, qv49⟩ : ∃ y : Int32, y = (v38 + (1 : Int32)) := ⟨_, rfl⟩
                                          replace hF := aLet_e hF v49 qv49
                                          refine ab_iinc (lv' := [(7, .int v49), (0, .ref a0), (1, .int x1), (2, .int x2), (3, .int x3), (4, .int x4), (5, .int v17), (6, .int v26)]) C 7 rfl dX9_holdings_242 (by rw [qv49]; rfl) (by decide) rfl ?_
                                          refine ab_goto C 191 dX9_holdings_245 (by decide) ?_
                                          refine aV.sub (lv' := [(0, .ref a0), (1, .int x1), (2, .int x2), (3, .int x3), (4, .int x4), (5, .int v17), (6, .int v26), (7, .int v49)]) [1, 2, 3, 4, 5, 6, 7, 0] rfl ?_
                                          exact ih191 v49 (sA Z39 11 w45) g46 hB0 hFr res191 hF KX191
                                        · replace hF := (if_neg c48).symm.trans hF
                                          refine ab_aload_n C 0 rfl rfl dX9_holdings_235 ?_
                                          refine ab_iload_n C 1 rfl rfl dX9_holdings_236 ?_
                                          refine ab_iload_n C 2 rfl rfl dX9_holdings_237 ?_
                                          refine ab_iload_n C 3 rfl rfl dX9_holdings_238 ?_
                                          obtain ⟨v50, hxv50, hF⟩ := Option.bind_eq_some_iff.mp hF
                                          refine ab_cVN (st := []) C lm_X9_244 (X9_tryHolding_ok (xl X) hB0 (r := v50) hxv50) [.int x1, .int x2, .int x3] rfl hB0.1 rfl rfl rfl (by decide) ⟨Nat.zero_le _, Nat.zero_le _⟩ (Nat.le_of_ble_eq_true rfl) dX9_holdings_239 (fun g51 pg51 => ?_)
                                          obtain ⟨k0, Og51⟩ := pg51
                                          have hB0 : X9_at g51 a0 v50 := k0
                                          have hFr : ∀ q, (q < a0 ∨ a0 + 20 ≤ q) → g51 q = h q := fun q u0 => (Og51 q (by omega)).trans (hFr q u0)
                                          obtain ⟨v52, qv52⟩ : ∃ y : Int32, y = (v38 + (1 : Int32)) := ⟨_, rfl⟩
                                          replace hF := aLet_e hF v52 qv52
                                          refine ab_iinc (lv' := [(7, .int v52), (0, .ref a0), (1, .int x1), (2, .int x2), (3, .int x3), (4, .int x4), (5, .int v17), (6, .int v26)]) C 7 rfl dX9_holdings_242 (by rw [qv52]; rfl) (by decide) rfl ?_
                                          refine ab_goto C 191 dX9_holdings_245 (by decide) ?_
                                          refine aV.sub (lv' := [(0, .ref a0), (1, .int x1), (2, .int x2), (3, .int x3), (4, .int x4), (5, .int v17), (6, .int v26), (7, .int v52)]) [1, 2, 3, 4, 5, 6, 7, 0] rfl ?_
                                          exact ih191 v52 v50 g51 hB0 hFr res191 hF KX191
                              refine aV.sub (lv' := [(0, .ref a0), (1, .int x1), (2, .int x2), (3, .int x3), (4, .int x4), (5, .int v17), (6, .int v26), (7, .int v37)]) [1, 2, 3, 4, 5, 6, 7, 0] rfl ?_
                              obtain ⟨e53, he53, hF⟩ := Option.bind_eq_some_iff.mp hF
                              refine L191 aFu v37 Z35 g36 hB0 hFr e53 he53 (fun g54 hB0 hFr => ?_)
                              obtain ⟨v55, qv55⟩ : ∃ y : Int32, y = (v26 + (1 : Int32)) := ⟨_, rfl⟩
                              replace hF := aLet_e hF v55 qv55
                              refine ab_iinc (lv' := [(6, .int v55), (0, .ref a0), (1, .int x1), (2, .int x2), (3, .int x3), (4, .int x4), (5, .int v17)]) C 6 rfl dX9_holdings_248 (by rw [qv55]; rfl) (by decide) rfl ?_
                              refine ab_goto C 129 dX9_holdings_251 (by decide) ?_
                              refine aV.sub (lv' := [(0, .ref a0), (1, .int x1), (2, .int x2), (3, .int x3), (4, .int x4), (5, .int v17), (6, .int v55)]) [1, 2, 3, 4, 5, 6, 0] rfl ?_
                              exact ih129 v55 e53 g54 hB0 hFr res129 hF KX129
                            refine ab_icmp_ne C 185 dX9_holdings_163 (by decide) (fun c56 => ?_) (fun c56 => ?_)
                            · replace hF := (if_neg c56).symm.trans hF
                              exact J185 (sA Z27 11 w33) g34 hB0 hFr hF
                            · replace hF := (if_pos c56).symm.trans hF
                              refine ab_aload_n C 0 rfl rfl dX9_holdings_166 ?_
                              refine ab_g9 (v := .ref (a0 + 1)) C lf_X9_7 hB0.1 rfl dX9_holdings_167 ?_
                              refine ab_iload C 6 rfl dX9_holdings_170 ?_
                              obtain ⟨v57, hxv57, hF⟩ := Option.bind_eq_some_iff.mp hF
                              refine ab_cSR (v := .int v57) (st := []) C lm_X9_133 (X9_isIn_ok (xl X) (X9_r0 hB0) (r := v57) hxv57) rfl rfl (by decide) ⟨Nat.zero_le _, Nat.zero_le _⟩ (Nat.le_of_ble_eq_true rfl) dX9_holdings_172 ?_
                              refine ab_if_eq C 185 dX9_holdings_175 (by decide) (fun c58 => ?_) (fun c58 => ?_)
                              · replace hF := (if_pos c58).symm.trans hF
                                exact J185 (sA Z27 11 w33) g34 hB0 hFr hF
                              · replace hF := (if_neg c58).symm.trans hF
                                refine ab_aload_n C 0 rfl rfl dX9_holdings_178 ?_
                                refine ab_iload_n C 1 rfl rfl dX9_holdings_179 ?_
                                refine ab_iload_n C 2 rfl rfl dX9_holdings_180 ?_
                                refine ab_iload_n C 3 rfl rfl dX9_holdings_181 ?_
                                obtain ⟨v59, hxv59, hF⟩ := Option.bind_eq_some_iff.mp hF
                                refine ab_cVN (st := []) C lm_X9_244 (X9_tryHolding_ok (xl X) hB0 (r := v59) hxv59) [.int x1, .int x2, .int x3] rfl hB0.1 rfl rfl rfl (by decide) ⟨Nat.zero_le _, Nat.zero_le _⟩ (Nat.le_of_ble_eq_true rfl) dX9_holdings_182 (fun g60 pg60 => ?_)
                                obtain ⟨k0, Og60⟩ := pg60
                                have hB0 : X9_at g60 a0 v59 := k0
                                have hFr : ∀ q, (q < a0 ∨ a0 + 20 ≤ q) → g60 q = h q := fun q u0 => (Og60 q (by omega)).trans (hFr q u0)
                                exact J185 v59 g60 hB0 hFr hF
                  refine aV.sub (lv' := [(0, .ref a0), (1, .int x1), (2, .int x2), (3, .int x3), (4, .int x4), (5, .int v17), (6, .int v25)]) [1, 2, 3, 4, 5, 6, 0] rfl ?_
                  obtain ⟨e61, he61, hF⟩ := Option.bind_eq_some_iff.mp hF
                  refine L129 aFu v25 Z23 g24 hB0 hFr e61 he61 (fun g62 hB0 hFr => ?_)
                  obtain ⟨v63, qv63⟩ : ∃ y : Int32, y = (v17 + (1 : Int32)) := ⟨_, rfl⟩
                  replace hF := aLet_e hF v63 qv63
                  refine ab_iinc (lv' := [(5, .int v63), (0, .ref a0), (1, .int x1), (2, .int x2), (3, .int x3), (4, .int x4)]) C 5 rfl dX9_holdings_254 (by rw [qv63]; rfl) (by decide) rfl ?_
                  refine ab_goto C 84 dX9_holdings_257 (by decide) ?_
                  refine aV.sub (lv' := [(0, .ref a0), (1, .int x1), (2, .int x2), (3, .int x3), (4, .int x4), (5, .int v63)]) [1, 2, 3, 4, 5, 0] rfl ?_
                  exact ih84 v63 e61 g62 hB0 hFr res84 hF KX84
                refine ab_icmp_ne C 123 dX9_holdings_101 (by decide) (fun c64 => ?_) (fun c64 => ?_)
                · replace hF := (if_neg c64).symm.trans hF
                  exact J123 (sA Z18 11 w21) g22 hB0 hFr hF
                · replace hF := (if_pos c64).symm.trans hF
                  refine ab_aload_n C 0 rfl rfl dX9_holdings_104 ?_
                  refine ab_g9 (v := .ref (a0 + 1)) C lf_X9_7 hB0.1 rfl dX9_holdings_105 ?_
                  refine ab_iload C 5 rfl dX9_holdings_108 ?_
                  obtain ⟨v65, hxv65, hF⟩ := Option.bind_eq_some_iff.mp hF
                  refine ab_cSR (v := .int v65) (st := []) C lm_X9_133 (X9_isIn_ok (xl X) (X9_r0 hB0) (r := v65) hxv65) rfl rfl (by decide) ⟨Nat.zero_le _, Nat.zero_le _⟩ (Nat.le_of_ble_eq_true rfl) dX9_holdings_110 ?_
                  refine ab_if_eq C 123 dX9_holdings_113 (by decide) (fun c66 => ?_) (fun c66 => ?_)
                  · replace hF := (if_pos c66).symm.trans hF
                    exact J123 (sA Z18 11 w21) g22 hB0 hFr hF
                  · replace hF := (if_neg c66).symm.trans hF
                    refine ab_aload_n C 0 rfl rfl dX9_holdings_116 ?_
                    refine ab_iload_n C 1 rfl rfl dX9_holdings_117 ?_
                    refine ab_iload_n C 2 rfl rfl dX9_holdings_118 ?_
                    refine ab_iload_n C 3 rfl rfl dX9_holdings_119 ?_
                    obtain ⟨v67, hxv67, hF⟩ := Option.bind_eq_some_iff.mp hF
                    refine ab_cVN (st := []) C lm_X9_244 (X9_tryHolding_ok (xl X) hB0 (r := v67) hxv67) [.int x1, .int x2, .int x3] rfl hB0.1 rfl rfl rfl (by decide) ⟨Nat.zero_le _, Nat.zero_le _⟩ (Nat.le_of_ble_eq_true rfl) dX9_holdings_120 (fun g68 pg68 => ?_)
                    obtain ⟨k0, Og68⟩ := pg68
                    have hB0 : X9_at g68 a0 v67 := k0
                    have hFr : ∀ q, (q < a0 ∨ a0 + 20 ≤ q) → g68 q = h q := fun q u0 => (Og68 q (by omega)).trans (hFr q u0)
                    exact J123 v67 g68 hB0 hFr hF
          refine aV.sub (lv' := [(0, .ref a0), (1, .int x1), (2, .int x2), (3, .int x3), (4, .int x4), (5, .int (0 : Int32))]) [1, 2, 3, 4, 5, 0] rfl ?_
          obtain ⟨e69, he69, hF⟩ := Option.bind_eq_some_iff.mp hF
          refine L84 aFu (0 : Int32) e15 g16 hB0 hFr e69 he69 (fun g70 hB0 hFr => ?_)
          refine ab_bipush (v := (-4 : Int32)) C dX9_holdings_260 (by decide) ?_
          refine ab_istore (lv' := [(5, .int (-4 : Int32)), (0, .ref a0), (4, .int x4)]) C dX9_holdings_262 (by decide) rfl ?_
          refine ab_iconst (v := (0 : Int32)) C dX9_holdings_264 (by decide) ?_
          refine ab_istore (lv' := [(6, .int (0 : Int32)), (5, .int (-4 : Int32)), (0, .ref a0), (4, .int x4)]) C dX9_holdings_265 (by decide) rfl ?_
          refine ab_iconst (v := (0 : Int32)) C dX9_holdings_267 (by decide) ?_
          refine ab_istore (lv' := [(7, .int (0 : Int32)), (6, .int (0 : Int32)), (5, .int (-4 : Int32)), (0, .ref a0), (4, .int x4)]) C dX9_holdings_268 (by decide) rfl ?_
          have L270 : ∀ (n270 : Nat) (v71 : Int32) (v72 : Int32) (v73 : Int32), ∀ (res270 : Int32), X9_holdings_L270 e69 n270 v71 v72 v73 = some res270 → (aV X G 9 373 [(0, .ref a0), (4, .int x4), (5, .int res270)] [] g70 nx 0 0) → aV X G 9 270 [(0, .ref a0), (4, .int x4), (5, .int v71), (6, .int v72), (7, .int v73)] [] g70 nx 0 0 := by
            intro n270
            induction n270 with
            | zero => intro v71 v72 v73 res270 hF KX270; cases (show (none : Option (Int32)) = some res270 from hF)
            | succ n270 ih270 =>
              intro v71 v72 v73 res270 hF KX270
              rw [X9_holdings_L270] at hF
              refine ab_iload C 4 rfl dX9_holdings_270 ?_
              refine ab_bipush (v := (36 : Int32)) C dX9_holdings_272 (by decide) ?_
              refine ab_icmp_ge C 373 dX9_holdings_274 (by decide) (fun c74 => ?_) (fun c74 => ?_)
              · replace hF := (if_pos c74).symm.trans hF
                obtain rfl := Option.some.inj hF
                refine aV.sub (lv' := [(0, .ref a0), (4, .int x4), (5, .int v71)]) [0, 1, 2] rfl ?_
                exact KX270
              · replace hF := (if_neg c74).symm.trans hF
                refine ab_aload_n C 0 rfl rfl dX9_holdings_277 ?_
                refine ab_g9 (v := .int (e69.1 20)) C lf_X9_237 hB0.1 rfl dX9_holdings_278 ?_
                refine ab_if_le C 373 dX9_holdings_281 (by decide) (fun c75 => ?_) (fun c75 => ?_)
                · replace hF := (if_pos c75).symm.trans hF
                  obtain rfl := Option.some.inj hF
                  refine aV.sub (lv' := [(0, .ref a0), (4, .int x4), (5, .int v71)]) [0, 1, 2] rfl ?_
                  exact KX270
                · replace hF := (if_neg c75).symm.trans hF
                  refine ab_iconst (v := (2 : Int32)) C dX9_holdings_284 (by decide) ?_
                  refine ab_aload_n C 0 rfl rfl dX9_holdings_285 ?_
                  refine ab_g9 (v := .ref (a0 + 14)) C lf_X9_50 hB0.1 rfl dX9_holdings_286 ?_
                  refine ab_iload C 4 rfl dX9_holdings_289 ?_
                  obtain ⟨v76, hxv76, hF⟩ := Option.bind_eq_some_iff.mp hF
                  refine ab_iald C (X9_r19 hB0) hxv76 dX9_holdings_291 ?_
                  refine ab_imul C dX9_holdings_292 ?_
                  refine ab_aload_n C 0 rfl rfl dX9_holdings_293 ?_
                  refine ab_g9 (v := .int (e69.1 20)) C lf_X9_237 hB0.1 rfl dX9_holdings_294 ?_
                  have J331 : ∀ (v77 : Int32), X9_holdings_J331 e69 v73 v71 v72 (X9_holdings_L270 e69 n270) v77 = some res270 → aV X G 9 331 [(0, .ref a0), (4, .int x4), (5, .int v71), (6, .int v72), (7, .int v73)] [.int v77] g70 nx 0 0 := by
                    intro v77 hF
                    rw [X9_holdings_J331] at hF
                    refine ab_istore (lv' := [(8, .int v77), (0, .ref a0), (4, .int x4), (5, .int v71), (6, .int v72), (7, .int v73)]) C dX9_holdings_331 (by decide) rfl ?_
                    refine ab_aload_n C 1 rfl rfl dX9_holdings_333 ?_
                    refine ab_g9 (v := .ref (a0 + 1)) C lf_X9_7 hB0.1 rfl dX9_holdings_334 ?_
                    refine ab_iload C 5 rfl dX9_holdings_337 ?_
                    obtain ⟨v78, hxv78, hF⟩ := Option.bind_eq_some_iff.mp hF
                    refine ab_cSR (v := .int v78) (st := []) C lm_X9_133 (X9_isIn_ok (xl X) (X9_r0 hB0) (r := v78) hxv78) rfl rfl (by decide) ⟨Nat.zero_le _, Nat.zero_le _⟩ (Nat.le_of_ble_eq_true rfl) dX9_holdings_339 ?_
                    refine ab_if_eq C 367 dX9_holdings_342 (by decide) (fun c79 => ?_) (fun c79 => ?_)
                    · replace hF := (if_pos c79).symm.trans hF
                      obtain ⟨v80, qv80⟩ : ∃ y : Int32, y = (v73 + (1 : Int32)) := ⟨_, rfl⟩
                      replace hF := aLet_e hF v80 qv80
                      refine ab_iinc (lv' := [(7, .int v80), (8, .int v77), (0, .ref a0), (4, .int x4), (5, .int v71), (6, .int v72)]) C 5 rfl dX9_holdings_367 (by rw [qv80]; rfl) (by decide) rfl ?_
                      refine ab_goto C 270 dX9_holdings_370 (by decide) ?_
                      refine aV.sub (lv' := [(0, .ref a0), (4, .int x4), (5, .int v71), (6, .int v72), (7, .int v80)]) [2, 3, 4, 5, 0] rfl ?_
                      exact ih270 v71 v72 v80 res270 hF KX270
                    · replace hF := (if_neg c79).symm.trans hF
                      refine ab_iload C 3 rfl dX9_holdings_345 ?_
                      refine ab_bipush (v := (-4 : Int32)) C dX9_holdings_347 (by decide) ?_
                      refine ab_icmp_eq C 359 dX9_holdings_349 (by decide) (fun c81 => ?_) (fun c81 => ?_)
                      · replace hF := (if_pos c81).symm.trans hF
                        refine ab_iload C 5 rfl dX9_holdings_359 ?_
                        refine ab_istore (lv' := [(5, .int v73), (8, .int v77), (0, .ref a0), (4, .int x4), (6, .int v72), (7, .int v73)]) C dX9_holdings_361 (by decide) rfl ?_
                        refine ab_iload C 1 rfl dX9_holdings_363 ?_
                        refine ab_istore (lv' := [(6, .int v77), (5, .int v73), (8, .int v77), (0, .ref a0), (4, .int x4), (7, .int v73)]) C dX9_holdings_365 (by decide) rfl ?_
                        obtain ⟨v82, qv82⟩ : ∃ y : Int32, y = (v73 + (1 : Int32)) := ⟨_, rfl⟩
                        replace hF := aLet_e hF v82 qv82
                        refine ab_iinc (lv' := [(7, .int v82), (6, .int v77), (5, .int v73), (8, .int v77), (0, .ref a0), (4, .int x4)]) C 5 rfl dX9_holdings_367 (by rw [qv82]; rfl) (by decide) rfl ?_
                        refine ab_goto C 270 dX9_holdings_370 (by decide) ?_
                        refine aV.sub (lv' := [(0, .ref a0), (4, .int x4), (5, .int v73), (6, .int v77), (7, .int v82)]) [4, 5, 2, 1, 0] rfl ?_
                        exact ih270 v73 v77 v82 res270 hF KX270
                      · replace hF := (if_neg c81).symm.trans hF
                        refine ab_iload C 0 rfl dX9_holdings_352 ?_
                        refine ab_iload C 4 rfl dX9_holdings_354 ?_
                        refine ab_icmp_ge C 367 dX9_holdings_356 (by decide) (fun c83 => ?_) (fun c83 => ?_)
                        · replace hF := (if_pos c83).symm.trans hF
                          obtain ⟨v84, qv84⟩ : ∃ y : Int32, y = (v73 + (1 : Int32)) := ⟨_, rfl⟩
                          replace hF := aLet_e hF v84 qv84
                          refine ab_iinc (lv' := [(7, .int v84), (8, .int v77), (0, .ref a0), (4, .int x4), (5, .int v71), (6, .int v72)]) C 5 rfl dX9_holdings_367 (by rw [qv84]; rfl) (by decide) rfl ?_
                          refine ab_goto C 270 dX9_holdings_370 (by decide) ?_
                          refine aV.sub (lv' := [(0, .ref a0), (4, .int x4), (5, .int v71), (6, .int v72), (7, .int v84)]) [2, 3, 4, 5, 0] rfl ?_
                          exact ih270 v71 v72 v84 res270 hF KX270
                        · replace hF := (if_neg c83).symm.trans hF
                          refine ab_iload C 5 rfl dX9_holdings_359 ?_
                          refine ab_istore (lv' := [(5, .int v73), (8, .int v77), (0, .ref a0), (4, .int x4), (6, .int v72), (7, .int v73)]) C dX9_holdings_361 (by decide) rfl ?_
                          refine ab_iload C 1 rfl dX9_holdings_363 ?_
                          refine ab_istore (lv' := [(6, .int v77), (5, .int v73), (8, .int v77), (0, .ref a0), (4, .int x4), (7, .int v73)]) C dX9_holdings_365 (by decide) rfl ?_
                          obtain ⟨v85, qv85⟩ : ∃ y : Int32, y = (v73 + (1 : Int32)) := ⟨_, rfl⟩
                          replace hF := aLet_e hF v85 qv85
                          refine ab_iinc (lv' := [(7, .int v85), (6, .int v77), (5, .int v73), (8, .int v77), (0, .ref a0), (4, .int x4)]) C 5 rfl dX9_holdings_367 (by rw [qv85]; rfl) (by decide) rfl ?_
                          refine ab_goto C 270 dX9_holdings_370 (by decide) ?_
                          refine aV.sub (lv' := [(0, .ref a0), (4, .int x4), (5, .int v73), (6, .int v77), (7, .int v85)]) [4, 5, 2, 1, 0] rfl ?_
                          exact ih270 v73 v77 v85 res270 hF KX270
                  refine ab_icmp_le C 317 dX9_holdings_297 (by decide) (fun c86 => ?_) (fun c86 => ?_)
                  · replace hF := (if_pos c86).symm.trans hF
                    refine ab_aload_n C 0 rfl rfl dX9_holdings_317 ?_
                    refine ab_g9 (v := .int (e69.1 20)) C lf_X9_237 hB0.1 rfl dX9_holdings_318 ?_
                    refine ab_iconst (v := (2 : Int32)) C dX9_holdings_321 (by decide) ?_
                    refine ab_aload_n C 0 rfl rfl dX9_holdings_322 ?_
                    refine ab_g9 (v := .ref (a0 + 14)) C lf_X9_50 hB0.1 rfl dX9_holdings_323 ?_
                    refine ab_iload C 4 rfl dX9_holdings_326 ?_
                    obtain ⟨v87, hxv87, hF⟩ := Option.bind_eq_some_iff.mp hF
                    refine ab_iald C (X9_r19 hB0) hxv87 dX9_holdings_328 ?_
                    refine ab_imul C dX9_holdings_329 ?_
                    refine ab_isub C dX9_holdings_330 ?_
                    exact J331 ((e69.1 20) - ((2 : Int32) * v87)) hF
                  · replace hF := (if_neg c86).symm.trans hF
                    refine ab_iconst (v := (2 : Int32)) C dX9_holdings_300 (by decide) ?_
                    refine ab_aload_n C 0 rfl rfl dX9_holdings_301 ?_
                    refine ab_g9 (v := .ref (a0 + 14)) C lf_X9_50 hB0.1 rfl dX9_holdings_302 ?_
                    refine ab_iload C 4 rfl dX9_holdings_305 ?_
                    obtain ⟨v88, hxv88, hF⟩ := Option.bind_eq_some_iff.mp hF
                    refine ab_iald C (X9_r19 hB0) hxv88 dX9_holdings_307 ?_
                    refine ab_imul C dX9_holdings_308 ?_
                    refine ab_aload_n C 0 rfl rfl dX9_holdings_309 ?_
                    refine ab_g9 (v := .int (e69.1 20)) C lf_X9_237 hB0.1 rfl dX9_holdings_310 ?_
                    refine ab_isub C dX9_holdings_313 ?_
                    refine ab_goto C 331 dX9_holdings_314 (by decide) ?_
                    exact J331 (((2 : Int32) * v88) - (e69.1 20)) hF
          refine aV.sub (lv' := [(0, .ref a0), (4, .int x4), (5, .int (-4 : Int32)), (6, .int (0 : Int32)), (7, .int (0 : Int32))]) [3, 4, 2, 1, 0] rfl ?_
          obtain ⟨e89, he89, hF⟩ := Option.bind_eq_some_iff.mp hF
          refine L270 aFu (-4 : Int32) (0 : Int32) (0 : Int32) e89 he89 ?_
          refine ab_iload C 1 rfl dX9_holdings_373 ?_
          refine ab_if_ne C 385 dX9_holdings_375 (by decide) (fun c90 => ?_) (fun c90 => ?_)
          · replace hF := (if_neg c90).symm.trans hF
            refine ab_iload C 1 rfl dX9_holdings_385 ?_
            refine ab_iconst (v := (1 : Int32)) C dX9_holdings_387 (by decide) ?_
            refine ab_icmp_ne C 398 dX9_holdings_388 (by decide) (fun c91 => ?_) (fun c91 => ?_)
            · replace hF := (if_neg c91).symm.trans hF
              refine ab_iload C 2 rfl dX9_holdings_398 ?_
              refine ab_bipush (v := (-4 : Int32)) C dX9_holdings_400 (by decide) ?_
              refine ab_icmp_ne C 410 dX9_holdings_402 (by decide) (fun c92 => ?_) (fun c92 => ?_)
              · replace hF := (if_neg c92).symm.trans hF
                refine ab_iload C 2 rfl dX9_holdings_410 ?_
                refine ab_cSR (v := .int (X9_numberOf e89)) (st := []) C lm_X9_219 (X9_numberOf_ok (xl X) (r := (X9_numberOf e89)) rfl) rfl rfl (by decide) ⟨Nat.zero_le _, Nat.zero_le _⟩ (Nat.le_of_ble_eq_true rfl) dX9_holdings_412 ?_
                obtain rfl := Option.some.inj hF
                exact ab_iret C R0 rfl dX9_holdings_415 ⟨rfl, rfl, hB0, hFr⟩
              · replace hF := (if_pos c92).symm.trans hF
                refine ab_bipush (v := (-4 : Int32)) C dX9_holdings_405 (by decide) ?_
                refine ab_goto C 415 dX9_holdings_407 (by decide) ?_
                obtain rfl := Option.some.inj hF
                exact ab_iret C R0 rfl dX9_holdings_415 ⟨rfl, rfl, hB0, hFr⟩
            · replace hF := (if_pos c91).symm.trans hF
              refine ab_aload_n C 0 rfl rfl dX9_holdings_391 ?_
              refine ab_g9 (v := .int (e69.1 21)) C lf_X9_234 hB0.1 rfl dX9_holdings_392 ?_
              refine ab_goto C 415 dX9_holdings_395 (by decide) ?_
              obtain rfl := Option.some.inj hF
              exact ab_iret C R0 rfl dX9_holdings_415 ⟨rfl, rfl, hB0, hFr⟩
          · replace hF := (if_pos c90).symm.trans hF
            refine ab_aload_n C 0 rfl rfl dX9_holdings_378 ?_
            refine ab_g9 (v := .int (e69.1 20)) C lf_X9_237 hB0.1 rfl dX9_holdings_379 ?_
            refine ab_goto C 415 dX9_holdings_382 (by decide) ?_
            obtain rfl := Option.some.inj hF
            exact ab_iret C R0 rfl dX9_holdings_415 ⟨rfl, rfl, hB0, hFr⟩
        · replace hF := (if_pos c5).symm.trans hF
          refine ab_iconst (v := (-1 : Int32)) C dX9_holdings_45 (by decide) ?_
          obtain rfl := Option.some.inj hF
          exact ab_iret C R0 rfl dX9_holdings_46 ⟨rfl, rfl, hB0, hFr⟩
theorem dX9_worth_0 : decode cX9_worth 0 = .ok (.aload_n 0, 1) := by decide +kernel
theorem dX9_worth_1 : decode cX9_worth 1 = .ok (.getfield 16, 3) := by decide +kernel
theorem dX9_worth_4 : decode cX9_worth 4 = .ok (.aload_n 0, 1) := by decide +kernel
theorem dX9_worth_5 : decode cX9_worth 5 = .ok (.getfield 247, 3) := by decide +kernel
theorem dX9_worth_8 : decode cX9_worth 8 = .ok (.invokestatic 149, 3) := by decide +kernel
theorem dX9_worth_11 : decode cX9_worth 11 = .ok (.invokestatic 165, 3) := by decide +kernel
theorem dX9_worth_14 : decode cX9_worth 14 = .ok (.aload_n 0, 1) := by decide +kernel
theorem dX9_worth_15 : decode cX9_worth 15 = .ok (.getfield 16, 3) := by decide +kernel
theorem dX9_worth_18 : decode cX9_worth 18 = .ok (.aload_n 0, 1) := by decide +kernel
theorem dX9_worth_19 : decode cX9_worth 19 = .ok (.getfield 250, 3) := by decide +kernel
theorem dX9_worth_22 : decode cX9_worth 22 = .ok (.invokestatic 149, 3) := by decide +kernel
theorem dX9_worth_25 : decode cX9_worth 25 = .ok (.invokestatic 165, 3) := by decide +kernel
theorem dX9_worth_28 : decode cX9_worth 28 = .ok (.isub, 1) := by decide +kernel
theorem dX9_worth_29 : decode cX9_worth 29 = .ok (.ireturn, 1) := by decide +kernel
def X9_worth (S0 : Rec) : Option (Int32) :=
  (X9_says (S0.2.1 2) (S0.1 24)).bind fun v1 =>
  (X9_bits v1).bind fun v2 =>
  (X9_says (S0.2.1 2) (S0.1 25)).bind fun v3 =>
  (X9_bits v3).bind fun v4 =>
  some (v2 - v4)
set_option maxRecDepth 100000 in
set_option maxHeartbeats 4000000 in
theorem X9_worth_ok (l : Launch) {h : aH} {nx : Nat} {a0 : Nat} {S0 : Rec} (hB0 : X9_at h a0 S0) {r : Int32} (hF : X9_worth S0 = some r) : aOk l 4 0 0 yX9_worth cX9_worth 1 (some .int) [.ref a0] h nx (aRd (.int r) h nx) := by
  refine aOk.of (by decide +kernel) (Nat.le_of_ble_eq_true rfl) (fun X G hX C R0 _ => ?_)
  subst hX
  show aV X G 1 0 [(0, .ref a0)] [] h nx 0 0
  rw [X9_worth] at hF
  refine ab_aload_n C 0 rfl rfl dX9_worth_0 ?_
  refine ab_g9 (v := .ref (a0 + 3)) C lf_X9_16 hB0.1 rfl dX9_worth_1 ?_
  refine ab_aload_n C 0 rfl rfl dX9_worth_4 ?_
  refine ab_g9 (v := .int (S0.1 24)) C lf_X9_247 hB0.1 rfl dX9_worth_5 ?_
  obtain ⟨v1, hxv1, hF⟩ := Option.bind_eq_some_iff.mp hF
  refine ab_cSR (v := .int v1) (st := []) C lm_X9_149 (X9_says_ok (xl X) (X9_r2 hB0) (r := v1) hxv1) rfl rfl (by decide) ⟨Nat.zero_le _, Nat.zero_le _⟩ (Nat.le_of_ble_eq_true rfl) dX9_worth_8 ?_
  obtain ⟨v2, hxv2, hF⟩ := Option.bind_eq_some_iff.mp hF
  refine ab_cSR (v := .int v2) (st := []) C lm_X9_165 (X9_bits_ok (xl X) (r := v2) hxv2) rfl rfl (by decide) ⟨Nat.zero_le _, Nat.zero_le _⟩ (Nat.le_of_ble_eq_true rfl) dX9_worth_11 ?_
  refine ab_aload_n C 0 rfl rfl dX9_worth_14 ?_
  refine ab_g9 (v := .ref (a0 + 3)) C lf_X9_16 hB0.1 rfl dX9_worth_15 ?_
  refine ab_aload_n C 0 rfl rfl dX9_worth_18 ?_
  refine ab_g9 (v := .int (S0.1 25)) C lf_X9_250 hB0.1 rfl dX9_worth_19 ?_
  obtain ⟨v3, hxv3, hF⟩ := Option.bind_eq_some_iff.mp hF
  refine ab_cSR (v := .int v3) (st := [.int v2]) C lm_X9_149 (X9_says_ok (xl X) (X9_r2 hB0) (r := v3) hxv3) rfl rfl (by decide) ⟨Nat.zero_le _, Nat.zero_le _⟩ (Nat.le_of_ble_eq_true rfl) dX9_worth_22 ?_
  obtain ⟨v4, hxv4, hF⟩ := Option.bind_eq_some_iff.mp hF
  refine ab_cSR (v := .int v4) (st := [.int v2]) C lm_X9_165 (X9_bits_ok (xl X) (r := v4) hxv4) rfl rfl (by decide) ⟨Nat.zero_le _, Nat.zero_le _⟩ (Nat.le_of_ble_eq_true rfl) dX9_worth_25 ?_
  refine ab_isub C dX9_worth_28 ?_
  obtain rfl := Option.some.inj hF
  exact ab_iret C R0 rfl dX9_worth_29 ⟨rfl, rfl, rfl⟩
theorem dX9_isFree_0 : decode cX9_isFree 0 = .ok (.aload_n 0, 1) := by decide +kernel
theorem dX9_isFree_1 : decode cX9_isFree 1 = .ok (.getfield 16, 3) := by decide +kernel
theorem dX9_isFree_4 : decode cX9_isFree 4 = .ok (.bipush 52, 2) := by decide +kernel
theorem dX9_isFree_6 : decode cX9_isFree 6 = .ok (.aload_n 0, 1) := by decide +kernel
theorem dX9_isFree_7 : decode cX9_isFree 7 = .ok (.getfield 53, 3) := by decide +kernel
theorem dX9_isFree_10 : decode cX9_isFree 10 = .ok (.iload_n 1, 1) := by decide +kernel
theorem dX9_isFree_11 : decode cX9_isFree 11 = .ok (.iaload, 1) := by decide +kernel
theorem dX9_isFree_12 : decode cX9_isFree 12 = .ok (.iadd, 1) := by decide +kernel
theorem dX9_isFree_13 : decode cX9_isFree 13 = .ok (.iaload, 1) := by decide +kernel
theorem dX9_isFree_14 : decode cX9_isFree 14 = .ok (.ifCond .ne 7, 3) := by decide +kernel
theorem dX9_isFree_17 : decode cX9_isFree 17 = .ok (.iconst 1, 1) := by decide +kernel
theorem dX9_isFree_18 : decode cX9_isFree 18 = .ok (.goto 4, 3) := by decide +kernel
theorem dX9_isFree_21 : decode cX9_isFree 21 = .ok (.iconst 0, 1) := by decide +kernel
theorem dX9_isFree_22 : decode cX9_isFree 22 = .ok (.ireturn, 1) := by decide +kernel
def X9_isFree (S0 : Rec) (x1 : Int32) : Option (Int32) :=
  (rdI (S0.2.1 22) 6 x1).bind fun v1 =>
  (rdI (S0.2.1 2) 96 ((52 : Int32) + v1)).bind fun v2 =>
  if v2 = 0 then
    some (1 : Int32)
  else
    some (0 : Int32)
set_option maxRecDepth 100000 in
set_option maxHeartbeats 4000000 in
theorem X9_isFree_ok (l : Launch) {h : aH} {nx : Nat} {a0 : Nat} {S0 : Rec} {x1 : Int32} (hB0 : X9_at h a0 S0) {r : Int32} (hF : X9_isFree S0 x1 = some r) : aOk l 0 0 0 yX9_isFree cX9_isFree 2 (some .boolean) [.ref a0, .int x1] h nx (aRd (.int r) h nx) := by
  refine aOk.of (by decide +kernel) (Nat.le_of_ble_eq_true rfl) (fun X G hX C R0 _ => ?_)
  subst hX
  show aV X G 2 0 [(0, .ref a0), (1, .int x1)] [] h nx 0 0
  rw [X9_isFree] at hF
  refine ab_aload_n C 0 rfl rfl dX9_isFree_0 ?_
  refine ab_g9 (v := .ref (a0 + 3)) C lf_X9_16 hB0.1 rfl dX9_isFree_1 ?_
  refine ab_bipush (v := (52 : Int32)) C dX9_isFree_4 (by decide) ?_
  refine ab_aload_n C 0 rfl rfl dX9_isFree_6 ?_
  refine ab_g9 (v := .ref (a0 + 15)) C lf_X9_53 hB0.1 rfl dX9_isFree_7 ?_
  refine ab_iload_n C 1 rfl rfl dX9_isFree_10 ?_
  obtain ⟨v1, hxv1, hF⟩ := Option.bind_eq_some_iff.mp hF
  refine ab_iald C (X9_r22 hB0) hxv1 dX9_isFree_11 ?_
  refine ab_iadd C dX9_isFree_12 ?_
  obtain ⟨v2, hxv2, hF⟩ := Option.bind_eq_some_iff.mp hF
  refine ab_iald C (X9_r2 hB0) hxv2 dX9_isFree_13 ?_
  refine ab_if_ne C 21 dX9_isFree_14 (by decide) (fun c3 => ?_) (fun c3 => ?_)
  · replace hF := (if_neg c3).symm.trans hF
    refine ab_iconst (v := (0 : Int32)) C dX9_isFree_21 (by decide) ?_
    obtain rfl := Option.some.inj hF
    exact ab_iret C R0 rfl dX9_isFree_22 ⟨rfl, rfl, rfl⟩
  · replace hF := (if_pos c3).symm.trans hF
    refine ab_iconst (v := (1 : Int32)) C dX9_isFree_17 (by decide) ?_
    refine ab_goto C 22 dX9_isFree_18 (by decide) ?_
    obtain rfl := Option.some.inj hF
    exact ab_iret C R0 rfl dX9_isFree_22 ⟨rfl, rfl, rfl⟩
theorem dX9_lastTurn_0 : decode cX9_lastTurn 0 = .ok (.aload_n 0, 1) := by decide +kernel
theorem dX9_lastTurn_1 : decode cX9_lastTurn 1 = .ok (.invokevirtual 253, 3) := by decide +kernel
theorem dX9_lastTurn_4 : decode cX9_lastTurn 4 = .ok (.istore_n 1, 1) := by decide +kernel
theorem dX9_lastTurn_5 : decode cX9_lastTurn 5 = .ok (.iconst 0, 1) := by decide +kernel
theorem dX9_lastTurn_6 : decode cX9_lastTurn 6 = .ok (.istore_n 2, 1) := by decide +kernel
theorem dX9_lastTurn_7 : decode cX9_lastTurn 7 = .ok (.iload_n 2, 1) := by decide +kernel
theorem dX9_lastTurn_8 : decode cX9_lastTurn 8 = .ok (.aload_n 0, 1) := by decide +kernel
theorem dX9_lastTurn_9 : decode cX9_lastTurn 9 = .ok (.getfield 256, 3) := by decide +kernel
theorem dX9_lastTurn_12 : decode cX9_lastTurn 12 = .ok (.if_icmp .ge 68, 3) := by decide +kernel
theorem dX9_lastTurn_15 : decode cX9_lastTurn 15 = .ok (.aload_n 0, 1) := by decide +kernel
theorem dX9_lastTurn_16 : decode cX9_lastTurn 16 = .ok (.iload_n 2, 1) := by decide +kernel
theorem dX9_lastTurn_17 : decode cX9_lastTurn 17 = .ok (.invokevirtual 259, 3) := by decide +kernel
theorem dX9_lastTurn_20 : decode cX9_lastTurn 20 = .ok (.ifCond .eq 54, 3) := by decide +kernel
theorem dX9_lastTurn_23 : decode cX9_lastTurn 23 = .ok (.aload_n 0, 1) := by decide +kernel
theorem dX9_lastTurn_24 : decode cX9_lastTurn 24 = .ok (.getfield 16, 3) := by decide +kernel
theorem dX9_lastTurn_27 : decode cX9_lastTurn 27 = .ok (.bipush 52, 2) := by decide +kernel
theorem dX9_lastTurn_29 : decode cX9_lastTurn 29 = .ok (.aload_n 0, 1) := by decide +kernel
theorem dX9_lastTurn_30 : decode cX9_lastTurn 30 = .ok (.getfield 53, 3) := by decide +kernel
theorem dX9_lastTurn_33 : decode cX9_lastTurn 33 = .ok (.iload_n 2, 1) := by decide +kernel
theorem dX9_lastTurn_34 : decode cX9_lastTurn 34 = .ok (.iaload, 1) := by decide +kernel
theorem dX9_lastTurn_35 : decode cX9_lastTurn 35 = .ok (.iadd, 1) := by decide +kernel
theorem dX9_lastTurn_36 : decode cX9_lastTurn 36 = .ok (.aload_n 0, 1) := by decide +kernel
theorem dX9_lastTurn_37 : decode cX9_lastTurn 37 = .ok (.getfield 250, 3) := by decide +kernel
theorem dX9_lastTurn_40 : decode cX9_lastTurn 40 = .ok (.iconst 1, 1) := by decide +kernel
theorem dX9_lastTurn_41 : decode cX9_lastTurn 41 = .ok (.iadd, 1) := by decide +kernel
theorem dX9_lastTurn_42 : decode cX9_lastTurn 42 = .ok (.iastore, 1) := by decide +kernel
theorem dX9_lastTurn_43 : decode cX9_lastTurn 43 = .ok (.aload_n 0, 1) := by decide +kernel
theorem dX9_lastTurn_44 : decode cX9_lastTurn 44 = .ok (.invokevirtual 253, 3) := by decide +kernel
theorem dX9_lastTurn_47 : decode cX9_lastTurn 47 = .ok (.istore_n 3, 1) := by decide +kernel
theorem dX9_lastTurn_48 : decode cX9_lastTurn 48 = .ok (.iload_n 3, 1) := by decide +kernel
theorem dX9_lastTurn_49 : decode cX9_lastTurn 49 = .ok (.iload_n 1, 1) := by decide +kernel
theorem dX9_lastTurn_50 : decode cX9_lastTurn 50 = .ok (.if_icmp .ge 7, 3) := by decide +kernel
theorem dX9_lastTurn_53 : decode cX9_lastTurn 53 = .ok (.iload_n 3, 1) := by decide +kernel
theorem dX9_lastTurn_54 : decode cX9_lastTurn 54 = .ok (.goto 4, 3) := by decide +kernel
theorem dX9_lastTurn_57 : decode cX9_lastTurn 57 = .ok (.iload_n 1, 1) := by decide +kernel
theorem dX9_lastTurn_58 : decode cX9_lastTurn 58 = .ok (.istore_n 1, 1) := by decide +kernel
theorem dX9_lastTurn_59 : decode cX9_lastTurn 59 = .ok (.aload_n 0, 1) := by decide +kernel
theorem dX9_lastTurn_60 : decode cX9_lastTurn 60 = .ok (.getfield 16, 3) := by decide +kernel
theorem dX9_lastTurn_63 : decode cX9_lastTurn 63 = .ok (.bipush 52, 2) := by decide +kernel
theorem dX9_lastTurn_65 : decode cX9_lastTurn 65 = .ok (.aload_n 0, 1) := by decide +kernel
theorem dX9_lastTurn_66 : decode cX9_lastTurn 66 = .ok (.getfield 53, 3) := by decide +kernel
theorem dX9_lastTurn_69 : decode cX9_lastTurn 69 = .ok (.iload_n 2, 1) := by decide +kernel
theorem dX9_lastTurn_70 : decode cX9_lastTurn 70 = .ok (.iaload, 1) := by decide +kernel
theorem dX9_lastTurn_71 : decode cX9_lastTurn 71 = .ok (.iadd, 1) := by decide +kernel
theorem dX9_lastTurn_72 : decode cX9_lastTurn 72 = .ok (.iconst 0, 1) := by decide +kernel
theorem dX9_lastTurn_73 : decode cX9_lastTurn 73 = .ok (.iastore, 1) := by decide +kernel
theorem dX9_lastTurn_74 : decode cX9_lastTurn 74 = .ok (.iinc 2 1, 3) := by decide +kernel
theorem dX9_lastTurn_77 : decode cX9_lastTurn 77 = .ok (.goto (-70), 3) := by decide +kernel
theorem dX9_lastTurn_80 : decode cX9_lastTurn 80 = .ok (.iload_n 1, 1) := by decide +kernel
theorem dX9_lastTurn_81 : decode cX9_lastTurn 81 = .ok (.ireturn, 1) := by decide +kernel
def X9_lastTurn_J58 (Z4 : Rec) (w11 : (Nat → Int32)) (v3 : Int32) (k7 : Int32 → Int32 → Rec → Option (Int32 × Rec)) (v14 : Int32) : Option (Int32 × Rec) :=
  (rdI ((sA Z4 2 w11).2.1 22) 6 v3).bind fun v15 =>
  (wrI ((sA Z4 2 w11).2.1 2) 96 ((52 : Int32) + v15) (0 : Int32)).bind fun w16 =>
  aLet (v3 + (1 : Int32)) fun v18 =>
  k7 v14 v18 (sA (sA Z4 2 w11) 2 w16)
def X9_lastTurn_L7 : Nat → Int32 → Int32 → Rec → Option (Int32 × Rec)
  | 0, _, _, _ => none
  | n7 + 1, v2, v3, Z4 => if (Z4.1 23) ≤ v3 then
      some (v2, Z4)
    else
      (X9_isFree Z4 v3).bind fun v7 =>
      if v7 = 0 then
        aLet (v3 + (1 : Int32)) fun v9 =>
        X9_lastTurn_L7 n7 v2 v9 Z4
      else
        (rdI (Z4.2.1 22) 6 v3).bind fun v10 =>
        (wrI (Z4.2.1 2) 96 ((52 : Int32) + v10) ((Z4.1 25) + (1 : Int32))).bind fun w11 =>
        (X9_worth (sA Z4 2 w11)).bind fun v13 =>
        if v2 ≤ v13 then
          X9_lastTurn_J58 Z4 w11 v3 (X9_lastTurn_L7 n7) v2
        else
          X9_lastTurn_J58 Z4 w11 v3 (X9_lastTurn_L7 n7) v13
def X9_lastTurn (S0 : Rec) : Option (Int32 × Rec) :=
  (X9_worth S0).bind fun v1 =>
  (X9_lastTurn_L7 aFu v1 (0 : Int32) S0).bind fun e20 =>
  some (e20.1, e20.2)
set_option maxRecDepth 100000 in
set_option maxHeartbeats 4000000 in
theorem X9_lastTurn_ok (l : Launch) {h : aH} {nx : Nat} {a0 : Nat} {S0 : Rec} (hB0 : X9_at h a0 S0) {r : Int32 × Rec} (hF : X9_lastTurn S0 = some r) : aOk l 5 0 0 yX9_lastTurn cX9_lastTurn 4 (some .int) [.ref a0] h nx (aMt (some (.int r.1)) nx (fun h1 => X9_at h1 a0 r.2 ∧ (∀ q, (q < a0 ∨ a0 + 20 ≤ q) → h1 q = h q))) := by
  refine aOk.of (by decide +kernel) (Nat.le_of_ble_eq_true rfl) (fun X G hX C R0 _ => ?_)
  subst hX
  show aV X G 4 0 [(0, .ref a0)] [] h nx 0 0
  have hFr : ∀ q, (q < a0 ∨ a0 + 20 ≤ q) → h q = h q := fun _ _ => rfl
  rw [X9_lastTurn] at hF
  refine ab_aload_n C 0 rfl rfl dX9_lastTurn_0 ?_
  obtain ⟨v1, hxv1, hF⟩ := Option.bind_eq_some_iff.mp hF
  refine ab_cVR (v := .int v1) (st := []) C lm_X9_253 (X9_worth_ok (xl X) hB0 (r := v1) hxv1) [] rfl hB0.1 rfl rfl rfl (by decide) ⟨Nat.zero_le _, Nat.zero_le _⟩ (Nat.le_of_ble_eq_true rfl) dX9_lastTurn_1 ?_
  refine ab_istore_n (lv' := [(1, .int v1), (0, .ref a0)]) C dX9_lastTurn_4 rfl (by decide) rfl ?_
  refine ab_iconst (v := (0 : Int32)) C dX9_lastTurn_5 (by decide) ?_
  refine ab_istore_n (lv' := [(2, .int (0 : Int32)), (1, .int v1), (0, .ref a0)]) C dX9_lastTurn_6 rfl (by decide) rfl ?_
  have L7 : ∀ (n7 : Nat) (v2 : Int32) (v3 : Int32) (Z4 : Rec) (g5 : aH), (X9_at g5 a0 Z4) → (∀ q, (q < a0 ∨ a0 + 20 ≤ q) → g5 q = h q) → ∀ (res7 : Int32 × Rec), X9_lastTurn_L7 n7 v2 v3 Z4 = some res7 → (∀ (q9 : aH), (X9_at q9 a0 res7.2) → (∀ q, (q < a0 ∨ a0 + 20 ≤ q) → q9 q = h q) → aV X G 4 80 [(1, .int res7.1)] [] q9 nx 0 0) → aV X G 4 7 [(0, .ref a0), (1, .int v2), (2, .int v3)] [] g5 nx 0 0 := by
    intro n7
    induction n7 with
    | zero => intro v2 v3 Z4 g5 hB0 hFr res7 hF KX7; cases (show (none : Option (Int32 × Rec)) = some res7 from hF)
    | succ n7 ih7 =>
      intro v2 v3 Z4 g5 hB0 hFr res7 hF KX7
      rw [X9_lastTurn_L7] at hF
      refine ab_iload_n C 2 rfl rfl dX9_lastTurn_7 ?_
      refine ab_aload_n C 0 rfl rfl dX9_lastTurn_8 ?_
      refine ab_g9 (v := .int (Z4.1 23)) C lf_X9_256 hB0.1 rfl dX9_lastTurn_9 ?_
      refine ab_icmp_ge C 80 dX9_lastTurn_12 (by decide) (fun c6 => ?_) (fun c6 => ?_)
      · replace hF := (if_pos c6).symm.trans hF
        obtain rfl := Option.some.inj hF
        refine aV.sub (lv' := [(1, .int v2)]) [1] rfl ?_
        exact KX7 g5 hB0 hFr
      · replace hF := (if_neg c6).symm.trans hF
        refine ab_aload_n C 0 rfl rfl dX9_lastTurn_15 ?_
        refine ab_iload_n C 2 rfl rfl dX9_lastTurn_16 ?_
        obtain ⟨v7, hxv7, hF⟩ := Option.bind_eq_some_iff.mp hF
        refine ab_cVR (v := .int v7) (st := []) C lm_X9_259 (X9_isFree_ok (xl X) hB0 (r := v7) hxv7) [.int v3] rfl hB0.1 rfl rfl rfl (by decide) ⟨Nat.zero_le _, Nat.zero_le _⟩ (Nat.le_of_ble_eq_true rfl) dX9_lastTurn_17 ?_
        refine ab_if_eq C 74 dX9_lastTurn_20 (by decide) (fun c8 => ?_) (fun c8 => ?_)
        · replace hF := (if_pos c8).symm.trans hF
          obtain ⟨v9, qv9⟩ : ∃ y : Int32, y = (v3 + (1 : Int32)) := ⟨_, rfl⟩
          replace hF := aLet_e hF v9 qv9
          refine ab_iinc (lv' := [(2, .int v9), (0, .ref a0), (1, .int v2)]) C 2 rfl dX9_lastTurn_74 (by rw [qv9]; rfl) (by decide) rfl ?_
          refine ab_goto C 7 dX9_lastTurn_77 (by decide) ?_
          refine aV.sub (lv' := [(0, .ref a0), (1, .int v2), (2, .int v9)]) [1, 2, 0] rfl ?_
          exact ih7 v2 v9 Z4 g5 hB0 hFr res7 hF KX7
        · replace hF := (if_neg c8).symm.trans hF
          refine ab_aload_n C 0 rfl rfl dX9_lastTurn_23 ?_
          refine ab_g9 (v := .ref (a0 + 3)) C lf_X9_16 hB0.1 rfl dX9_lastTurn_24 ?_
          refine ab_bipush (v := (52 : Int32)) C dX9_lastTurn_27 (by decide) ?_
          refine ab_aload_n C 0 rfl rfl dX9_lastTurn_29 ?_
          refine ab_g9 (v := .ref (a0 + 15)) C lf_X9_53 hB0.1 rfl dX9_lastTurn_30 ?_
          refine ab_iload_n C 2 rfl rfl dX9_lastTurn_33 ?_
          obtain ⟨v10, hxv10, hF⟩ := Option.bind_eq_some_iff.mp hF
          refine ab_iald C (X9_r22 hB0) hxv10 dX9_lastTurn_34 ?_
          refine ab_iadd C dX9_lastTurn_35 ?_
          refine ab_aload_n C 0 rfl rfl dX9_lastTurn_36 ?_
          refine ab_g9 (v := .int (Z4.1 25)) C lf_X9_250 hB0.1 rfl dX9_lastTurn_37 ?_
          refine ab_iconst (v := (1 : Int32)) C dX9_lastTurn_40 (by decide) ?_
          refine ab_iadd C dX9_lastTurn_41 ?_
          obtain ⟨w11, hxw11, hF⟩ := Option.bind_eq_some_iff.mp hF
          refine ab_iast C (X9_r2 hB0) hxw11 dX9_lastTurn_42 (fun g12 eg12 og12 => ?_)
          have hB0 : X9_at g12 a0 (sA Z4 2 w11) := X9_w2 hB0 eg12 og12
          have hFr : ∀ q, (q < a0 ∨ a0 + 20 ≤ q) → g12 q = h q := fun q u0 => (og12 q (by omega)).trans (hFr q u0)
          refine ab_aload_n C 0 rfl rfl dX9_lastTurn_43 ?_
          obtain ⟨v13, hxv13, hF⟩ := Option.bind_eq_some_iff.mp hF
          refine ab_cVR (v := .int v13) (st := []) C lm_X9_253 (X9_worth_ok (xl X) hB0 (r := v13) hxv13) [] rfl hB0.1 rfl rfl rfl (by decide) ⟨Nat.zero_le _, Nat.zero_le _⟩ (Nat.le_of_ble_eq_true rfl) dX9_lastTurn_44 ?_
          refine ab_istore_n (lv' := [(3, .int v13), (0, .ref a0), (1, .int v2), (2, .int v3)]) C dX9_lastTurn_47 rfl (by decide) rfl ?_
          refine ab_iload_n C 0 rfl rfl dX9_lastTurn_48 ?_
          refine ab_iload_n C 2 rfl rfl dX9_lastTurn_49 ?_
          have J58 : ∀ (v14 : Int32), X9_lastTurn_J58 Z4 w11 v3 (X9_lastTurn_L7 n7) v14 = some res7 → aV X G 4 58 [(0, .ref a0), (2, .int v3)] [.int v14] g12 nx 0 0 := by
            intro v14 hF
            rw [X9_lastTurn_J58] at hF
            refine ab_istore_n (lv' := [(1, .int v14), (0, .ref a0), (2, .int v3)]) C dX9_lastTurn_58 rfl (by decide) rfl ?_
            refine ab_aload_n C 1 rfl rfl dX9_lastTurn_59 ?_
            refine ab_g9 (v := .ref (a0 + 3)) C lf_X9_16 hB0.1 rfl dX9_lastTurn_60 ?_
            refine ab_bipush (v := (52 : Int32)) C dX9_lastTurn_63 (by decide) ?_
            refine ab_aload_n C 1 rfl rfl dX9_lastTurn_65 ?_
            refine ab_g9 (v := .ref (a0 + 15)) C lf_X9_53 hB0.1 rfl dX9_lastTurn_66 ?_
            refine ab_iload_n C 2 rfl rfl dX9_lastTurn_69 ?_
            obtain ⟨v15, hxv15, hF⟩ := Option.bind_eq_some_iff.mp hF
            refine ab_iald C (X9_r22 hB0) hxv15 dX9_lastTurn_70 ?_
            refine ab_iadd C dX9_lastTurn_71 ?_
            refine ab_iconst (v := (0 : Int32)) C dX9_lastTurn_72 (by decide) ?_
            obtain ⟨w16, hxw16, hF⟩ := Option.bind_eq_some_iff.mp hF
            refine ab_iast C (X9_r2 hB0) hxw16 dX9_lastTurn_73 (fun g17 eg17 og17 => ?_)
            have hB0 : X9_at g17 a0 (sA (sA Z4 2 w11) 2 w16) := X9_w2 hB0 eg17 og17
            have hFr : ∀ q, (q < a0 ∨ a0 + 20 ≤ q) → g17 q = h q := fun q u0 => (og17 q (by omega)).trans (hFr q u0)
            obtain ⟨v18, qv18⟩ : ∃ y : Int32, y = (v3 + (1 : Int32)) := ⟨_, rfl⟩
            replace hF := aLet_e hF v18 qv18
            refine ab_iinc (lv' := [(2, .int v18), (1, .int v14), (0, .ref a0)]) C 2 rfl dX9_lastTurn_74 (by rw [qv18]; rfl) (by decide) rfl ?_
            refine ab_goto C 7 dX9_lastTurn_77 (by decide) ?_
            refine aV.sub (lv' := [(0, .ref a0), (1, .int v14), (2, .int v18)]) [2, 1, 0] rfl ?_
            exact ih7 v14 v18 (sA (sA Z4 2 w11) 2 w16) g17 hB0 hFr res7 hF KX7
          refine ab_icmp_ge C 57 dX9_lastTurn_50 (by decide) (fun c19 => ?_) (fun c19 => ?_)
          · replace hF := (if_pos c19).symm.trans hF
            refine ab_iload_n C 2 rfl rfl dX9_lastTurn_57 ?_
            refine aV.sub (lv' := [(0, .ref a0), (2, .int v3)]) [1, 3] rfl ?_
            exact J58 v2 hF
          · replace hF := (if_neg c19).symm.trans hF
            refine ab_iload_n C 0 rfl rfl dX9_lastTurn_53 ?_
            refine ab_goto C 58 dX9_lastTurn_54 (by decide) ?_
            refine aV.sub (lv' := [(0, .ref a0), (2, .int v3)]) [1, 3] rfl ?_
            exact J58 v13 hF
  refine aV.sub (lv' := [(0, .ref a0), (1, .int v1), (2, .int (0 : Int32))]) [2, 1, 0] rfl ?_
  obtain ⟨e20, he20, hF⟩ := Option.bind_eq_some_iff.mp hF
  refine L7 aFu v1 (0 : Int32) S0 h hB0 hFr e20 he20 (fun g21 hB0 hFr => ?_)
  refine ab_iload_n C 0 rfl rfl dX9_lastTurn_80 ?_
  obtain rfl := Option.some.inj hF
  exact ab_iret C R0 rfl dX9_lastTurn_81 ⟨rfl, rfl, hB0, hFr⟩
theorem dX9_lastButOne_0 : decode cX9_lastButOne 0 = .ok (.aload_n 0, 1) := by decide +kernel
theorem dX9_lastButOne_1 : decode cX9_lastButOne 1 = .ok (.invokevirtual 262, 3) := by decide +kernel
theorem dX9_lastButOne_4 : decode cX9_lastButOne 4 = .ok (.istore_n 1, 1) := by decide +kernel
theorem dX9_lastButOne_5 : decode cX9_lastButOne 5 = .ok (.iconst 0, 1) := by decide +kernel
theorem dX9_lastButOne_6 : decode cX9_lastButOne 6 = .ok (.istore_n 2, 1) := by decide +kernel
theorem dX9_lastButOne_7 : decode cX9_lastButOne 7 = .ok (.iload_n 2, 1) := by decide +kernel
theorem dX9_lastButOne_8 : decode cX9_lastButOne 8 = .ok (.aload_n 0, 1) := by decide +kernel
theorem dX9_lastButOne_9 : decode cX9_lastButOne 9 = .ok (.getfield 256, 3) := by decide +kernel
theorem dX9_lastButOne_12 : decode cX9_lastButOne 12 = .ok (.if_icmp .ge 68, 3) := by decide +kernel
theorem dX9_lastButOne_15 : decode cX9_lastButOne 15 = .ok (.aload_n 0, 1) := by decide +kernel
theorem dX9_lastButOne_16 : decode cX9_lastButOne 16 = .ok (.iload_n 2, 1) := by decide +kernel
theorem dX9_lastButOne_17 : decode cX9_lastButOne 17 = .ok (.invokevirtual 259, 3) := by decide +kernel
theorem dX9_lastButOne_20 : decode cX9_lastButOne 20 = .ok (.ifCond .eq 54, 3) := by decide +kernel
theorem dX9_lastButOne_23 : decode cX9_lastButOne 23 = .ok (.aload_n 0, 1) := by decide +kernel
theorem dX9_lastButOne_24 : decode cX9_lastButOne 24 = .ok (.getfield 16, 3) := by decide +kernel
theorem dX9_lastButOne_27 : decode cX9_lastButOne 27 = .ok (.bipush 52, 2) := by decide +kernel
theorem dX9_lastButOne_29 : decode cX9_lastButOne 29 = .ok (.aload_n 0, 1) := by decide +kernel
theorem dX9_lastButOne_30 : decode cX9_lastButOne 30 = .ok (.getfield 53, 3) := by decide +kernel
theorem dX9_lastButOne_33 : decode cX9_lastButOne 33 = .ok (.iload_n 2, 1) := by decide +kernel
theorem dX9_lastButOne_34 : decode cX9_lastButOne 34 = .ok (.iaload, 1) := by decide +kernel
theorem dX9_lastButOne_35 : decode cX9_lastButOne 35 = .ok (.iadd, 1) := by decide +kernel
theorem dX9_lastButOne_36 : decode cX9_lastButOne 36 = .ok (.aload_n 0, 1) := by decide +kernel
theorem dX9_lastButOne_37 : decode cX9_lastButOne 37 = .ok (.getfield 247, 3) := by decide +kernel
theorem dX9_lastButOne_40 : decode cX9_lastButOne 40 = .ok (.iconst 1, 1) := by decide +kernel
theorem dX9_lastButOne_41 : decode cX9_lastButOne 41 = .ok (.iadd, 1) := by decide +kernel
theorem dX9_lastButOne_42 : decode cX9_lastButOne 42 = .ok (.iastore, 1) := by decide +kernel
theorem dX9_lastButOne_43 : decode cX9_lastButOne 43 = .ok (.aload_n 0, 1) := by decide +kernel
theorem dX9_lastButOne_44 : decode cX9_lastButOne 44 = .ok (.invokevirtual 262, 3) := by decide +kernel
theorem dX9_lastButOne_47 : decode cX9_lastButOne 47 = .ok (.istore_n 3, 1) := by decide +kernel
theorem dX9_lastButOne_48 : decode cX9_lastButOne 48 = .ok (.iload_n 3, 1) := by decide +kernel
theorem dX9_lastButOne_49 : decode cX9_lastButOne 49 = .ok (.iload_n 1, 1) := by decide +kernel
theorem dX9_lastButOne_50 : decode cX9_lastButOne 50 = .ok (.if_icmp .le 7, 3) := by decide +kernel
theorem dX9_lastButOne_53 : decode cX9_lastButOne 53 = .ok (.iload_n 3, 1) := by decide +kernel
theorem dX9_lastButOne_54 : decode cX9_lastButOne 54 = .ok (.goto 4, 3) := by decide +kernel
theorem dX9_lastButOne_57 : decode cX9_lastButOne 57 = .ok (.iload_n 1, 1) := by decide +kernel
theorem dX9_lastButOne_58 : decode cX9_lastButOne 58 = .ok (.istore_n 1, 1) := by decide +kernel
theorem dX9_lastButOne_59 : decode cX9_lastButOne 59 = .ok (.aload_n 0, 1) := by decide +kernel
theorem dX9_lastButOne_60 : decode cX9_lastButOne 60 = .ok (.getfield 16, 3) := by decide +kernel
theorem dX9_lastButOne_63 : decode cX9_lastButOne 63 = .ok (.bipush 52, 2) := by decide +kernel
theorem dX9_lastButOne_65 : decode cX9_lastButOne 65 = .ok (.aload_n 0, 1) := by decide +kernel
theorem dX9_lastButOne_66 : decode cX9_lastButOne 66 = .ok (.getfield 53, 3) := by decide +kernel
theorem dX9_lastButOne_69 : decode cX9_lastButOne 69 = .ok (.iload_n 2, 1) := by decide +kernel
theorem dX9_lastButOne_70 : decode cX9_lastButOne 70 = .ok (.iaload, 1) := by decide +kernel
theorem dX9_lastButOne_71 : decode cX9_lastButOne 71 = .ok (.iadd, 1) := by decide +kernel
theorem dX9_lastButOne_72 : decode cX9_lastButOne 72 = .ok (.iconst 0, 1) := by decide +kernel
theorem dX9_lastButOne_73 : decode cX9_lastButOne 73 = .ok (.iastore, 1) := by decide +kernel
theorem dX9_lastButOne_74 : decode cX9_lastButOne 74 = .ok (.iinc 2 1, 3) := by decide +kernel
theorem dX9_lastButOne_77 : decode cX9_lastButOne 77 = .ok (.goto (-70), 3) := by decide +kernel
theorem dX9_lastButOne_80 : decode cX9_lastButOne 80 = .ok (.iload_n 1, 1) := by decide +kernel
theorem dX9_lastButOne_81 : decode cX9_lastButOne 81 = .ok (.ireturn, 1) := by decide +kernel
def X9_lastButOne_J58 (v14 : (Int32 × Rec)) (v4 : Int32) (k7 : Int32 → Int32 → Rec → Option (Int32 × Rec)) (v16 : Int32) : Option (Int32 × Rec) :=
  (rdI (v14.2.2.1 22) 6 v4).bind fun v17 =>
  (wrI (v14.2.2.1 2) 96 ((52 : Int32) + v17) (0 : Int32)).bind fun w18 =>
  aLet (v4 + (1 : Int32)) fun v20 =>
  k7 v16 v20 (sA v14.2 2 w18)
def X9_lastButOne_L7 : Nat → Int32 → Int32 → Rec → Option (Int32 × Rec)
  | 0, _, _, _ => none
  | n7 + 1, v3, v4, Z5 => if (Z5.1 23) ≤ v4 then
      some (v3, Z5)
    else
      (X9_isFree Z5 v4).bind fun v8 =>
      if v8 = 0 then
        aLet (v4 + (1 : Int32)) fun v10 =>
        X9_lastButOne_L7 n7 v3 v10 Z5
      else
        (rdI (Z5.2.1 22) 6 v4).bind fun v11 =>
        (wrI (Z5.2.1 2) 96 ((52 : Int32) + v11) ((Z5.1 24) + (1 : Int32))).bind fun w12 =>
        (X9_lastTurn (sA Z5 2 w12)).bind fun v14 =>
        if v14.1 ≤ v3 then
          X9_lastButOne_J58 v14 v4 (X9_lastButOne_L7 n7) v3
        else
          X9_lastButOne_J58 v14 v4 (X9_lastButOne_L7 n7) v14.1
def X9_lastButOne (S0 : Rec) : Option (Int32 × Rec) :=
  (X9_lastTurn S0).bind fun v1 =>
  (X9_lastButOne_L7 aFu v1.1 (0 : Int32) v1.2).bind fun e22 =>
  some (e22.1, e22.2)
set_option maxRecDepth 100000 in
set_option maxHeartbeats 4000000 in
theorem X9_lastButOne_ok (l : Launch) {h : aH} {nx : Nat} {a0 : Nat} {S0 : Rec} (hB0 : X9_at h a0 S0) {r : Int32 × Rec} (hF : X9_lastButOne S0 = some r) : aOk l 6 0 0 yX9_lastButOne cX9_lastButOne 4 (some .int) [.ref a0] h nx (aMt (some (.int r.1)) nx (fun h1 => X9_at h1 a0 r.2 ∧ (∀ q, (q < a0 ∨ a0 + 20 ≤ q) → h1 q = h q))) := by
  refine aOk.of (by decide +kernel) (Nat.le_of_ble_eq_true rfl) (fun X G hX C R0 _ => ?_)
  subst hX
  show aV X G 4 0 [(0, .ref a0)] [] h nx 0 0
  have hFr : ∀ q, (q < a0 ∨ a0 + 20 ≤ q) → h q = h q := fun _ _ => rfl
  rw [X9_lastButOne] at hF
  refine ab_aload_n C 0 rfl rfl dX9_lastButOne_0 ?_
  obtain ⟨v1, hxv1, hF⟩ := Option.bind_eq_some_iff.mp hF
  refine ab_cVM (v := .int v1.1) (st := []) C lm_X9_262 (X9_lastTurn_ok (xl X) hB0 (r := v1) hxv1) [] rfl hB0.1 rfl rfl rfl (by decide) ⟨Nat.zero_le _, Nat.zero_le _⟩ (Nat.le_of_ble_eq_true rfl) dX9_lastButOne_1 (fun g2 pg2 => ?_)
  obtain ⟨k0, Og2⟩ := pg2
  have hB0 : X9_at g2 a0 v1.2 := k0
  have hFr : ∀ q, (q < a0 ∨ a0 + 20 ≤ q) → g2 q = h q := fun q u0 => (Og2 q (by omega)).trans (hFr q u0)
  refine ab_istore_n (lv' := [(1, .int v1.1), (0, .ref a0)]) C dX9_lastButOne_4 rfl (by decide) rfl ?_
  refine ab_iconst (v := (0 : Int32)) C dX9_lastButOne_5 (by decide) ?_
  refine ab_istore_n (lv' := [(2, .int (0 : Int32)), (1, .int v1.1), (0, .ref a0)]) C dX9_lastButOne_6 rfl (by decide) rfl ?_
  have L7 : ∀ (n7 : Nat) (v3 : Int32) (v4 : Int32) (Z5 : Rec) (g6 : aH), (X9_at g6 a0 Z5) → (∀ q, (q < a0 ∨ a0 + 20 ≤ q) → g6 q = h q) → ∀ (res7 : Int32 × Rec), X9_lastButOne_L7 n7 v3 v4 Z5 = some res7 → (∀ (q9 : aH), (X9_at q9 a0 res7.2) → (∀ q, (q < a0 ∨ a0 + 20 ≤ q) → q9 q = h q) → aV X G 4 80 [(1, .int res7.1)] [] q9 nx 0 0) → aV X G 4 7 [(0, .ref a0), (1, .int v3), (2, .int v4)] [] g6 nx 0 0 := by
    intro n7
    induction n7 with
    | zero => intro v3 v4 Z5 g6 hB0 hFr res7 hF KX7; cases (show (none : Option (Int32 × Rec)) = some res7 from hF)
    | succ n7 ih7 =>
      intro v3 v4 Z5 g6 hB0 hFr res7 hF KX7
      rw [X9_lastButOne_L7] at hF
      refine ab_iload_n C 2 rfl rfl dX9_lastButOne_7 ?_
      refine ab_aload_n C 0 rfl rfl dX9_lastButOne_8 ?_
      refine ab_g9 (v := .int (Z5.1 23)) C lf_X9_256 hB0.1 rfl dX9_lastButOne_9 ?_
      refine ab_icmp_ge C 80 dX9_lastButOne_12 (by decide) (fun c7 => ?_) (fun c7 => ?_)
      · replace hF := (if_pos c7).symm.trans hF
        obtain rfl := Option.some.inj hF
        refine aV.sub (lv' := [(1, .int v3)]) [1] rfl ?_
        exact KX7 g6 hB0 hFr
      · replace hF := (if_neg c7).symm.trans hF
        refine ab_aload_n C 0 rfl rfl dX9_lastButOne_15 ?_
        refine ab_iload_n C 2 rfl rfl dX9_lastButOne_16 ?_
        obtain ⟨v8, hxv8, hF⟩ := Option.bind_eq_some_iff.mp hF
        refine ab_cVR (v := .int v8) (st := []) C lm_X9_259 (X9_isFree_ok (xl X) hB0 (r := v8) hxv8) [.int v4] rfl hB0.1 rfl rfl rfl (by decide) ⟨Nat.zero_le _, Nat.zero_le _⟩ (Nat.le_of_ble_eq_true rfl) dX9_lastButOne_17 ?_
        refine ab_if_eq C 74 dX9_lastButOne_20 (by decide) (fun c9 => ?_) (fun c9 => ?_)
        · replace hF := (if_pos c9).symm.trans hF
          obtain ⟨v10, qv10⟩ : ∃ y : Int32, y = (v4 + (1 : Int32)) := ⟨_, rfl⟩
          replace hF := aLet_e hF v10 qv10
          refine ab_iinc (lv' := [(2, .int v10), (0, .ref a0), (1, .int v3)]) C 2 rfl dX9_lastButOne_74 (by rw [qv10]; rfl) (by decide) rfl ?_
          refine ab_goto C 7 dX9_lastButOne_77 (by decide) ?_
          refine aV.sub (lv' := [(0, .ref a0), (1, .int v3), (2, .int v10)]) [1, 2, 0] rfl ?_
          exact ih7 v3 v10 Z5 g6 hB0 hFr res7 hF KX7
        · replace hF := (if_neg c9).symm.trans hF
          refine ab_aload_n C 0 rfl rfl dX9_lastButOne_23 ?_
          refine ab_g9 (v := .ref (a0 + 3)) C lf_X9_16 hB0.1 rfl dX9_lastButOne_24 ?_
          refine ab_bipush (v := (52 : Int32)) C dX9_lastButOne_27 (by decide) ?_
          refine ab_aload_n C 0 rfl rfl dX9_lastButOne_29 ?_
          refine ab_g9 (v := .ref (a0 + 15)) C lf_X9_53 hB0.1 rfl dX9_lastButOne_30 ?_
          refine ab_iload_n C 2 rfl rfl dX9_lastButOne_33 ?_
          obtain ⟨v11, hxv11, hF⟩ := Option.bind_eq_some_iff.mp hF
          refine ab_iald C (X9_r22 hB0) hxv11 dX9_lastButOne_34 ?_
          refine ab_iadd C dX9_lastButOne_35 ?_
          refine ab_aload_n C 0 rfl rfl dX9_lastButOne_36 ?_
          refine ab_g9 (v := .int (Z5.1 24)) C lf_X9_247 hB0.1 rfl dX9_lastButOne_37 ?_
          refine ab_iconst (v := (1 : Int32)) C dX9_lastButOne_40 (by decide) ?_
          refine ab_iadd C dX9_lastButOne_41 ?_
          obtain ⟨w12, hxw12, hF⟩ := Option.bind_eq_some_iff.mp hF
          refine ab_iast C (X9_r2 hB0) hxw12 dX9_lastButOne_42 (fun g13 eg13 og13 => ?_)
          have hB0 : X9_at g13 a0 (sA Z5 2 w12) := X9_w2 hB0 eg13 og13
          have hFr : ∀ q, (q < a0 ∨ a0 + 20 ≤ q) → g13 q = h q := fun q u0 => (og13 q (by omega)).trans (hFr q u0)
          refine ab_aload_n C 0 rfl rfl dX9_lastButOne_43 ?_
          obtain ⟨v14, hxv14, hF⟩ := Option.bind_eq_some_iff.mp hF
          refine ab_cVM (v := .int v14.1) (st := []) C lm_X9_262 (X9_lastTurn_ok (xl X) hB0 (r := v14) hxv14) [] rfl hB0.1 rfl rfl rfl (by decide) ⟨Nat.zero_le _, Nat.zero_le _⟩ (Nat.le_of_ble_eq_true rfl) dX9_lastButOne_44 (fun g15 pg15 => ?_)
          obtain ⟨k0, Og15⟩ := pg15
          have hB0 : X9_at g15 a0 v14.2 := k0
          have hFr : ∀ q, (q < a0 ∨ a0 + 20 ≤ q) → g15 q = h q := fun q u0 => (Og15 q (by omega)).trans (hFr q u0)
          refine ab_istore_n (lv' := [(3, .int v14.1), (0, .ref a0), (1, .int v3), (2, .int v4)]) C dX9_lastButOne_47 rfl (by decide) rfl ?_
          refine ab_iload_n C 0 rfl rfl dX9_lastButOne_48 ?_
          refine ab_iload_n C 2 rfl rfl dX9_lastButOne_49 ?_
          have J58 : ∀ (v16 : Int32), X9_lastButOne_J58 v14 v4 (X9_lastButOne_L7 n7) v16 = some res7 → aV X G 4 58 [(0, .ref a0), (2, .int v4)] [.int v16] g15 nx 0 0 := by
            intro v16 hF
            rw [X9_lastButOne_J58] at hF
            refine ab_istore_n (lv' := [(1, .int v16), (0, .ref a0), (2, .int v4)]) C dX9_lastButOne_58 rfl (by decide) rfl ?_
            refine ab_aload_n C 1 rfl rfl dX9_lastButOne_59 ?_
            refine ab_g9 (v := .ref (a0 + 3)) C lf_X9_16 hB0.1 rfl dX9_lastButOne_60 ?_
            refine ab_bipush (v := (52 : Int32)) C dX9_lastButOne_63 (by decide) ?_
            refine ab_aload_n C 1 rfl rfl dX9_lastButOne_65 ?_
            refine ab_g9 (v := .ref (a0 + 15)) C lf_X9_53 hB0.1 rfl dX9_lastButOne_66 ?_
            refine ab_iload_n C 2 rfl rfl dX9_lastButOne_69 ?_
            obtain ⟨v17, hxv17, hF⟩ := Option.bind_eq_some_iff.mp hF
            refine ab_iald C (X9_r22 hB0) hxv17 dX9_lastButOne_70 ?_
            refine ab_iadd C dX9_lastButOne_71 ?_
            refine ab_iconst (v := (0 : Int32)) C dX9_lastButOne_72 (by decide) ?_
            obtain ⟨w18, hxw18, hF⟩ := Option.bind_eq_some_iff.mp hF
            refine ab_iast C (X9_r2 hB0) hxw18 dX9_lastButOne_73 (fun g19 eg19 og19 => ?_)
            have hB0 : X9_at g19 a0 (sA v14.2 2 w18) := X9_w2 hB0 eg19 og19
            have hFr : ∀ q, (q < a0 ∨ a0 + 20 ≤ q) → g19 q = h q := fun q u0 => (og19 q (by omega)).trans (hFr q u0)
            obtain ⟨v20, qv20⟩ : ∃ y : Int32, y = (v4 + (1 : Int32)) := ⟨_, rfl⟩
            replace hF := aLet_e hF v20 qv20
            refine ab_iinc (lv' := [(2, .int v20), (1, .int v16), (0, .ref a0)]) C 2 rfl dX9_lastButOne_74 (by rw [qv20]; rfl) (by decide) rfl ?_
            refine ab_goto C 7 dX9_lastButOne_77 (by decide) ?_
            refine aV.sub (lv' := [(0, .ref a0), (1, .int v16), (2, .int v20)]) [2, 1, 0] rfl ?_
            exact ih7 v16 v20 (sA v14.2 2 w18) g19 hB0 hFr res7 hF KX7
          refine ab_icmp_le C 57 dX9_lastButOne_50 (by decide) (fun c21 => ?_) (fun c21 => ?_)
          · replace hF := (if_pos c21).symm.trans hF
            refine ab_iload_n C 2 rfl rfl dX9_lastButOne_57 ?_
            refine aV.sub (lv' := [(0, .ref a0), (2, .int v4)]) [1, 3] rfl ?_
            exact J58 v3 hF
          · replace hF := (if_neg c21).symm.trans hF
            refine ab_iload_n C 0 rfl rfl dX9_lastButOne_53 ?_
            refine ab_goto C 58 dX9_lastButOne_54 (by decide) ?_
            refine aV.sub (lv' := [(0, .ref a0), (2, .int v4)]) [1, 3] rfl ?_
            exact J58 v14.1 hF
  refine aV.sub (lv' := [(0, .ref a0), (1, .int v1.1), (2, .int (0 : Int32))]) [2, 1, 0] rfl ?_
  obtain ⟨e22, he22, hF⟩ := Option.bind_eq_some_iff.mp hF
  refine L7 aFu v1.1 (0 : Int32) v1.2 g2 hB0 hFr e22 he22 (fun g23 hB0 hFr => ?_)
  refine ab_iload_n C 0 rfl rfl dX9_lastButOne_80 ?_
  obtain rfl := Option.some.inj hF
  exact ab_iret C R0 rfl dX9_lastButOne_81 ⟨rfl, rfl, hB0, hFr⟩
theorem dX9_secondTurn_0 : decode cX9_secondTurn 0 = .ok (.aload_n 0, 1) := by decide +kernel
theorem dX9_secondTurn_1 : decode cX9_secondTurn 1 = .ok (.invokevirtual 265, 3) := by decide +kernel
theorem dX9_secondTurn_4 : decode cX9_secondTurn 4 = .ok (.istore_n 1, 1) := by decide +kernel
theorem dX9_secondTurn_5 : decode cX9_secondTurn 5 = .ok (.iconst 0, 1) := by decide +kernel
theorem dX9_secondTurn_6 : decode cX9_secondTurn 6 = .ok (.istore_n 2, 1) := by decide +kernel
theorem dX9_secondTurn_7 : decode cX9_secondTurn 7 = .ok (.iload_n 2, 1) := by decide +kernel
theorem dX9_secondTurn_8 : decode cX9_secondTurn 8 = .ok (.aload_n 0, 1) := by decide +kernel
theorem dX9_secondTurn_9 : decode cX9_secondTurn 9 = .ok (.getfield 256, 3) := by decide +kernel
theorem dX9_secondTurn_12 : decode cX9_secondTurn 12 = .ok (.if_icmp .ge 68, 3) := by decide +kernel
theorem dX9_secondTurn_15 : decode cX9_secondTurn 15 = .ok (.aload_n 0, 1) := by decide +kernel
theorem dX9_secondTurn_16 : decode cX9_secondTurn 16 = .ok (.iload_n 2, 1) := by decide +kernel
theorem dX9_secondTurn_17 : decode cX9_secondTurn 17 = .ok (.invokevirtual 259, 3) := by decide +kernel
theorem dX9_secondTurn_20 : decode cX9_secondTurn 20 = .ok (.ifCond .eq 54, 3) := by decide +kernel
theorem dX9_secondTurn_23 : decode cX9_secondTurn 23 = .ok (.aload_n 0, 1) := by decide +kernel
theorem dX9_secondTurn_24 : decode cX9_secondTurn 24 = .ok (.getfield 16, 3) := by decide +kernel
theorem dX9_secondTurn_27 : decode cX9_secondTurn 27 = .ok (.bipush 52, 2) := by decide +kernel
theorem dX9_secondTurn_29 : decode cX9_secondTurn 29 = .ok (.aload_n 0, 1) := by decide +kernel
theorem dX9_secondTurn_30 : decode cX9_secondTurn 30 = .ok (.getfield 53, 3) := by decide +kernel
theorem dX9_secondTurn_33 : decode cX9_secondTurn 33 = .ok (.iload_n 2, 1) := by decide +kernel
theorem dX9_secondTurn_34 : decode cX9_secondTurn 34 = .ok (.iaload, 1) := by decide +kernel
theorem dX9_secondTurn_35 : decode cX9_secondTurn 35 = .ok (.iadd, 1) := by decide +kernel
theorem dX9_secondTurn_36 : decode cX9_secondTurn 36 = .ok (.aload_n 0, 1) := by decide +kernel
theorem dX9_secondTurn_37 : decode cX9_secondTurn 37 = .ok (.getfield 250, 3) := by decide +kernel
theorem dX9_secondTurn_40 : decode cX9_secondTurn 40 = .ok (.iconst 1, 1) := by decide +kernel
theorem dX9_secondTurn_41 : decode cX9_secondTurn 41 = .ok (.iadd, 1) := by decide +kernel
theorem dX9_secondTurn_42 : decode cX9_secondTurn 42 = .ok (.iastore, 1) := by decide +kernel
theorem dX9_secondTurn_43 : decode cX9_secondTurn 43 = .ok (.aload_n 0, 1) := by decide +kernel
theorem dX9_secondTurn_44 : decode cX9_secondTurn 44 = .ok (.invokevirtual 265, 3) := by decide +kernel
theorem dX9_secondTurn_47 : decode cX9_secondTurn 47 = .ok (.istore_n 3, 1) := by decide +kernel
theorem dX9_secondTurn_48 : decode cX9_secondTurn 48 = .ok (.iload_n 3, 1) := by decide +kernel
theorem dX9_secondTurn_49 : decode cX9_secondTurn 49 = .ok (.iload_n 1, 1) := by decide +kernel
theorem dX9_secondTurn_50 : decode cX9_secondTurn 50 = .ok (.if_icmp .ge 7, 3) := by decide +kernel
theorem dX9_secondTurn_53 : decode cX9_secondTurn 53 = .ok (.iload_n 3, 1) := by decide +kernel
theorem dX9_secondTurn_54 : decode cX9_secondTurn 54 = .ok (.goto 4, 3) := by decide +kernel
theorem dX9_secondTurn_57 : decode cX9_secondTurn 57 = .ok (.iload_n 1, 1) := by decide +kernel
theorem dX9_secondTurn_58 : decode cX9_secondTurn 58 = .ok (.istore_n 1, 1) := by decide +kernel
theorem dX9_secondTurn_59 : decode cX9_secondTurn 59 = .ok (.aload_n 0, 1) := by decide +kernel
theorem dX9_secondTurn_60 : decode cX9_secondTurn 60 = .ok (.getfield 16, 3) := by decide +kernel
theorem dX9_secondTurn_63 : decode cX9_secondTurn 63 = .ok (.bipush 52, 2) := by decide +kernel
theorem dX9_secondTurn_65 : decode cX9_secondTurn 65 = .ok (.aload_n 0, 1) := by decide +kernel
theorem dX9_secondTurn_66 : decode cX9_secondTurn 66 = .ok (.getfield 53, 3) := by decide +kernel
theorem dX9_secondTurn_69 : decode cX9_secondTurn 69 = .ok (.iload_n 2, 1) := by decide +kernel
theorem dX9_secondTurn_70 : decode cX9_secondTurn 70 = .ok (.iaload, 1) := by decide +kernel
theorem dX9_secondTurn_71 : decode cX9_secondTurn 71 = .ok (.iadd, 1) := by decide +kernel
theorem dX9_secondTurn_72 : decode cX9_secondTurn 72 = .ok (.iconst 0, 1) := by decide +kernel
theorem dX9_secondTurn_73 : decode cX9_secondTurn 73 = .ok (.iastore, 1) := by decide +kernel
theorem dX9_secondTurn_74 : decode cX9_secondTurn 74 = .ok (.iinc 2 1, 3) := by decide +kernel
theorem dX9_secondTurn_77 : decode cX9_secondTurn 77 = .ok (.goto (-70), 3) := by decide +kernel
theorem dX9_secondTurn_80 : decode cX9_secondTurn 80 = .ok (.iload_n 1, 1) := by decide +kernel
theorem dX9_secondTurn_81 : decode cX9_secondTurn 81 = .ok (.ireturn, 1) := by decide +kernel
def X9_secondTurn_J58 (v14 : (Int32 × Rec)) (v4 : Int32) (k7 : Int32 → Int32 → Rec → Option (Int32 × Rec)) (v16 : Int32) : Option (Int32 × Rec) :=
  (rdI (v14.2.2.1 22) 6 v4).bind fun v17 =>
  (wrI (v14.2.2.1 2) 96 ((52 : Int32) + v17) (0 : Int32)).bind fun w18 =>
  aLet (v4 + (1 : Int32)) fun v20 =>
  k7 v16 v20 (sA v14.2 2 w18)
def X9_secondTurn_L7 : Nat → Int32 → Int32 → Rec → Option (Int32 × Rec)
  | 0, _, _, _ => none
  | n7 + 1, v3, v4, Z5 => if (Z5.1 23) ≤ v4 then
      some (v3, Z5)
    else
      (X9_isFree Z5 v4).bind fun v8 =>
      if v8 = 0 then
        aLet (v4 + (1 : Int32)) fun v10 =>
        X9_secondTurn_L7 n7 v3 v10 Z5
      else
        (rdI (Z5.2.1 22) 6 v4).bind fun v11 =>
        (wrI (Z5.2.1 2) 96 ((52 : Int32) + v11) ((Z5.1 25) + (1 : Int32))).bind fun w12 =>
        (X9_lastButOne (sA Z5 2 w12)).bind fun v14 =>
        if v3 ≤ v14.1 then
          X9_secondTurn_J58 v14 v4 (X9_secondTurn_L7 n7) v3
        else
          X9_secondTurn_J58 v14 v4 (X9_secondTurn_L7 n7) v14.1
def X9_secondTurn (S0 : Rec) : Option (Int32 × Rec) :=
  (X9_lastButOne S0).bind fun v1 =>
  (X9_secondTurn_L7 aFu v1.1 (0 : Int32) v1.2).bind fun e22 =>
  some (e22.1, e22.2)
set_option maxRecDepth 100000 in
set_option maxHeartbeats 4000000 in
theorem X9_secondTurn_ok (l : Launch) {h : aH} {nx : Nat} {a0 : Nat} {S0 : Rec} (hB0 : X9_at h a0 S0) {r : Int32 × Rec} (hF : X9_secondTurn S0 = some r) : aOk l 7 0 0 yX9_secondTurn cX9_secondTurn 4 (some .int) [.ref a0] h nx (aMt (some (.int r.1)) nx (fun h1 => X9_at h1 a0 r.2 ∧ (∀ q, (q < a0 ∨ a0 + 20 ≤ q) → h1 q = h q))) := by
  refine aOk.of (by decide +kernel) (Nat.le_of_ble_eq_true rfl) (fun X G hX C R0 _ => ?_)
  subst hX
  show aV X G 4 0 [(0, .ref a0)] [] h nx 0 0
  have hFr : ∀ q, (q < a0 ∨ a0 + 20 ≤ q) → h q = h q := fun _ _ => rfl
  rw [X9_secondTurn] at hF
  refine ab_aload_n C 0 rfl rfl dX9_secondTurn_0 ?_
  obtain ⟨v1, hxv1, hF⟩ := Option.bind_eq_some_iff.mp hF
  refine ab_cVM (v := .int v1.1) (st := []) C lm_X9_265 (X9_lastButOne_ok (xl X) hB0 (r := v1) hxv1) [] rfl hB0.1 rfl rfl rfl (by decide) ⟨Nat.zero_le _, Nat.zero_le _⟩ (Nat.le_of_ble_eq_true rfl) dX9_secondTurn_1 (fun g2 pg2 => ?_)
  obtain ⟨k0, Og2⟩ := pg2
  have hB0 : X9_at g2 a0 v1.2 := k0
  have hFr : ∀ q, (q < a0 ∨ a0 + 20 ≤ q) → g2 q = h q := fun q u0 => (Og2 q (by omega)).trans (hFr q u0)
  refine ab_istore_n (lv' := [(1, .int v1.1), (0, .ref a0)]) C dX9_secondTurn_4 rfl (by decide) rfl ?_
  refine ab_iconst (v := (0 : Int32)) C dX9_secondTurn_5 (by decide) ?_
  refine ab_istore_n (lv' := [(2, .int (0 : Int32)), (1, .int v1.1), (0, .ref a0)]) C dX9_secondTurn_6 rfl (by decide) rfl ?_
  have L7 : ∀ (n7 : Nat) (v3 : Int32) (v4 : Int32) (Z5 : Rec) (g6 : aH), (X9_at g6 a0 Z5) → (∀ q, (q < a0 ∨ a0 + 20 ≤ q) → g6 q = h q) → ∀ (res7 : Int32 × Rec), X9_secondTurn_L7 n7 v3 v4 Z5 = some res7 → (∀ (q9 : aH), (X9_at q9 a0 res7.2) → (∀ q, (q < a0 ∨ a0 + 20 ≤ q) → q9 q = h q) → aV X G 4 80 [(1, .int res7.1)] [] q9 nx 0 0) → aV X G 4 7 [(0, .ref a0), (1, .int v3), (2, .int v4)] [] g6 nx 0 0 := by
    intro n7
    induction n7 with
    | zero => intro v3 v4 Z5 g6 hB0 hFr res7 hF KX7; cases (show (none : Option (Int32 × Rec)) = some res7 from hF)
    | succ n7 ih7 =>
      intro v3 v4 Z5 g6 hB0 hFr res7 hF KX7
      rw [X9_secondTurn_L7] at hF
      refine ab_iload_n C 2 rfl rfl dX9_secondTurn_7 ?_
      refine ab_aload_n C 0 rfl rfl dX9_secondTurn_8 ?_
      refine ab_g9 (v := .int (Z5.1 23)) C lf_X9_256 hB0.1 rfl dX9_secondTurn_9 ?_
      refine ab_icmp_ge C 80 dX9_secondTurn_12 (by decide) (fun c7 => ?_) (fun c7 => ?_)
      · replace hF := (if_pos c7).symm.trans hF
        obtain rfl := Option.some.inj hF
        refine aV.sub (lv' := [(1, .int v3)]) [1] rfl ?_
        exact KX7 g6 hB0 hFr
      · replace hF := (if_neg c7).symm.trans hF
        refine ab_aload_n C 0 rfl rfl dX9_secondTurn_15 ?_
        refine ab_iload_n C 2 rfl rfl dX9_secondTurn_16 ?_
        obtain ⟨v8, hxv8, hF⟩ := Option.bind_eq_some_iff.mp hF
        refine ab_cVR (v := .int v8) (st := []) C lm_X9_259 (X9_isFree_ok (xl X) hB0 (r := v8) hxv8) [.int v4] rfl hB0.1 rfl rfl rfl (by decide) ⟨Nat.zero_le _, Nat.zero_le _⟩ (Nat.le_of_ble_eq_true rfl) dX9_secondTurn_17 ?_
        refine ab_if_eq C 74 dX9_secondTurn_20 (by decide) (fun c9 => ?_) (fun c9 => ?_)
        · replace hF := (if_pos c9).symm.trans hF
          obtain ⟨v10, qv10⟩ : ∃ y : Int32, y = (v4 + (1 : Int32)) := ⟨_, rfl⟩
          replace hF := aLet_e hF v10 qv10
          refine ab_iinc (lv' := [(2, .int v10), (0, .ref a0), (1, .int v3)]) C 2 rfl dX9_secondTurn_74 (by rw [qv10]; rfl) (by decide) rfl ?_
          refine ab_goto C 7 dX9_secondTurn_77 (by decide) ?_
          refine aV.sub (lv' := [(0, .ref a0), (1, .int v3), (2, .int v10)]) [1, 2, 0] rfl ?_
          exact ih7 v3 v10 Z5 g6 hB0 hFr res7 hF KX7
        · replace hF := (if_neg c9).symm.trans hF
          refine ab_aload_n C 0 rfl rfl dX9_secondTurn_23 ?_
          refine ab_g9 (v := .ref (a0 + 3)) C lf_X9_16 hB0.1 rfl dX9_secondTurn_24 ?_
          refine ab_bipush (v := (52 : Int32)) C dX9_secondTurn_27 (by decide) ?_
          refine ab_aload_n C 0 rfl rfl dX9_secondTurn_29 ?_
          refine ab_g9 (v := .ref (a0 + 15)) C lf_X9_53 hB0.1 rfl dX9_secondTurn_30 ?_
          refine ab_iload_n C 2 rfl rfl dX9_secondTurn_33 ?_
          obtain ⟨v11, hxv11, hF⟩ := Option.bind_eq_some_iff.mp hF
          refine ab_iald C (X9_r22 hB0) hxv11 dX9_secondTurn_34 ?_
          refine ab_iadd C dX9_secondTurn_35 ?_
          refine ab_aload_n C 0 rfl rfl dX9_secondTurn_36 ?_
          refine ab_g9 (v := .int (Z5.1 25)) C lf_X9_250 hB0.1 rfl dX9_secondTurn_37 ?_
          refine ab_iconst (v := (1 : Int32)) C dX9_secondTurn_40 (by decide) ?_
          refine ab_iadd C dX9_secondTurn_41 ?_
          obtain ⟨w12, hxw12, hF⟩ := Option.bind_eq_some_iff.mp hF
          refine ab_iast C (X9_r2 hB0) hxw12 dX9_secondTurn_42 (fun g13 eg13 og13 => ?_)
          have hB0 : X9_at g13 a0 (sA Z5 2 w12) := X9_w2 hB0 eg13 og13
          have hFr : ∀ q, (q < a0 ∨ a0 + 20 ≤ q) → g13 q = h q := fun q u0 => (og13 q (by omega)).trans (hFr q u0)
          refine ab_aload_n C 0 rfl rfl dX9_secondTurn_43 ?_
          obtain ⟨v14, hxv14, hF⟩ := Option.bind_eq_some_iff.mp hF
          refine ab_cVM (v := .int v14.1) (st := []) C lm_X9_265 (X9_lastButOne_ok (xl X) hB0 (r := v14) hxv14) [] rfl hB0.1 rfl rfl rfl (by decide) ⟨Nat.zero_le _, Nat.zero_le _⟩ (Nat.le_of_ble_eq_true rfl) dX9_secondTurn_44 (fun g15 pg15 => ?_)
          obtain ⟨k0, Og15⟩ := pg15
          have hB0 : X9_at g15 a0 v14.2 := k0
          have hFr : ∀ q, (q < a0 ∨ a0 + 20 ≤ q) → g15 q = h q := fun q u0 => (Og15 q (by omega)).trans (hFr q u0)
          refine ab_istore_n (lv' := [(3, .int v14.1), (0, .ref a0), (1, .int v3), (2, .int v4)]) C dX9_secondTurn_47 rfl (by decide) rfl ?_
          refine ab_iload_n C 0 rfl rfl dX9_secondTurn_48 ?_
          refine ab_iload_n C 2 rfl rfl dX9_secondTurn_49 ?_
          have J58 : ∀ (v16 : Int32), X9_secondTurn_J58 v14 v4 (X9_secondTurn_L7 n7) v16 = some res7 → aV X G 4 58 [(0, .ref a0), (2, .int v4)] [.int v16] g15 nx 0 0 := by
            intro v16 hF
            rw [X9_secondTurn_J58] at hF
            refine ab_istore_n (lv' := [(1, .int v16), (0, .ref a0), (2, .int v4)]) C dX9_secondTurn_58 rfl (by decide) rfl ?_
            refine ab_aload_n C 1 rfl rfl dX9_secondTurn_59 ?_
            refine ab_g9 (v := .ref (a0 + 3)) C lf_X9_16 hB0.1 rfl dX9_secondTurn_60 ?_
            refine ab_bipush (v := (52 : Int32)) C dX9_secondTurn_63 (by decide) ?_
            refine ab_aload_n C 1 rfl rfl dX9_secondTurn_65 ?_
            refine ab_g9 (v := .ref (a0 + 15)) C lf_X9_53 hB0.1 rfl dX9_secondTurn_66 ?_
            refine ab_iload_n C 2 rfl rfl dX9_secondTurn_69 ?_
            obtain ⟨v17, hxv17, hF⟩ := Option.bind_eq_some_iff.mp hF
            refine ab_iald C (X9_r22 hB0) hxv17 dX9_secondTurn_70 ?_
            refine ab_iadd C dX9_secondTurn_71 ?_
            refine ab_iconst (v := (0 : Int32)) C dX9_secondTurn_72 (by decide) ?_
            obtain ⟨w18, hxw18, hF⟩ := Option.bind_eq_some_iff.mp hF
            refine ab_iast C (X9_r2 hB0) hxw18 dX9_secondTurn_73 (fun g19 eg19 og19 => ?_)
            have hB0 : X9_at g19 a0 (sA v14.2 2 w18) := X9_w2 hB0 eg19 og19
            have hFr : ∀ q, (q < a0 ∨ a0 + 20 ≤ q) → g19 q = h q := fun q u0 => (og19 q (by omega)).trans (hFr q u0)
            obtain ⟨v20, qv20⟩ : ∃ y : Int32, y = (v4 + (1 : Int32)) := ⟨_, rfl⟩
            replace hF := aLet_e hF v20 qv20
            refine ab_iinc (lv' := [(2, .int v20), (1, .int v16), (0, .ref a0)]) C 2 rfl dX9_secondTurn_74 (by rw [qv20]; rfl) (by decide) rfl ?_
            refine ab_goto C 7 dX9_secondTurn_77 (by decide) ?_
            refine aV.sub (lv' := [(0, .ref a0), (1, .int v16), (2, .int v20)]) [2, 1, 0] rfl ?_
            exact ih7 v16 v20 (sA v14.2 2 w18) g19 hB0 hFr res7 hF KX7
          refine ab_icmp_ge C 57 dX9_secondTurn_50 (by decide) (fun c21 => ?_) (fun c21 => ?_)
          · replace hF := (if_pos c21).symm.trans hF
            refine ab_iload_n C 2 rfl rfl dX9_secondTurn_57 ?_
            refine aV.sub (lv' := [(0, .ref a0), (2, .int v4)]) [1, 3] rfl ?_
            exact J58 v3 hF
          · replace hF := (if_neg c21).symm.trans hF
            refine ab_iload_n C 0 rfl rfl dX9_secondTurn_53 ?_
            refine ab_goto C 58 dX9_secondTurn_54 (by decide) ?_
            refine aV.sub (lv' := [(0, .ref a0), (2, .int v4)]) [1, 3] rfl ?_
            exact J58 v14.1 hF
  refine aV.sub (lv' := [(0, .ref a0), (1, .int v1.1), (2, .int (0 : Int32))]) [2, 1, 0] rfl ?_
  obtain ⟨e22, he22, hF⟩ := Option.bind_eq_some_iff.mp hF
  refine L7 aFu v1.1 (0 : Int32) v1.2 g2 hB0 hFr e22 he22 (fun g23 hB0 hFr => ?_)
  refine ab_iload_n C 0 rfl rfl dX9_secondTurn_80 ?_
  obtain rfl := Option.some.inj hF
  exact ab_iret C R0 rfl dX9_secondTurn_81 ⟨rfl, rfl, hB0, hFr⟩
theorem dX9_firstTurn_0 : decode cX9_firstTurn 0 = .ok (.aload_n 0, 1) := by decide +kernel
theorem dX9_firstTurn_1 : decode cX9_firstTurn 1 = .ok (.invokevirtual 268, 3) := by decide +kernel
theorem dX9_firstTurn_4 : decode cX9_firstTurn 4 = .ok (.istore_n 1, 1) := by decide +kernel
theorem dX9_firstTurn_5 : decode cX9_firstTurn 5 = .ok (.iconst 0, 1) := by decide +kernel
theorem dX9_firstTurn_6 : decode cX9_firstTurn 6 = .ok (.istore_n 2, 1) := by decide +kernel
theorem dX9_firstTurn_7 : decode cX9_firstTurn 7 = .ok (.iload_n 2, 1) := by decide +kernel
theorem dX9_firstTurn_8 : decode cX9_firstTurn 8 = .ok (.aload_n 0, 1) := by decide +kernel
theorem dX9_firstTurn_9 : decode cX9_firstTurn 9 = .ok (.getfield 256, 3) := by decide +kernel
theorem dX9_firstTurn_12 : decode cX9_firstTurn 12 = .ok (.if_icmp .ge 68, 3) := by decide +kernel
theorem dX9_firstTurn_15 : decode cX9_firstTurn 15 = .ok (.aload_n 0, 1) := by decide +kernel
theorem dX9_firstTurn_16 : decode cX9_firstTurn 16 = .ok (.iload_n 2, 1) := by decide +kernel
theorem dX9_firstTurn_17 : decode cX9_firstTurn 17 = .ok (.invokevirtual 259, 3) := by decide +kernel
theorem dX9_firstTurn_20 : decode cX9_firstTurn 20 = .ok (.ifCond .eq 54, 3) := by decide +kernel
theorem dX9_firstTurn_23 : decode cX9_firstTurn 23 = .ok (.aload_n 0, 1) := by decide +kernel
theorem dX9_firstTurn_24 : decode cX9_firstTurn 24 = .ok (.getfield 16, 3) := by decide +kernel
theorem dX9_firstTurn_27 : decode cX9_firstTurn 27 = .ok (.bipush 52, 2) := by decide +kernel
theorem dX9_firstTurn_29 : decode cX9_firstTurn 29 = .ok (.aload_n 0, 1) := by decide +kernel
theorem dX9_firstTurn_30 : decode cX9_firstTurn 30 = .ok (.getfield 53, 3) := by decide +kernel
theorem dX9_firstTurn_33 : decode cX9_firstTurn 33 = .ok (.iload_n 2, 1) := by decide +kernel
theorem dX9_firstTurn_34 : decode cX9_firstTurn 34 = .ok (.iaload, 1) := by decide +kernel
theorem dX9_firstTurn_35 : decode cX9_firstTurn 35 = .ok (.iadd, 1) := by decide +kernel
theorem dX9_firstTurn_36 : decode cX9_firstTurn 36 = .ok (.aload_n 0, 1) := by decide +kernel
theorem dX9_firstTurn_37 : decode cX9_firstTurn 37 = .ok (.getfield 247, 3) := by decide +kernel
theorem dX9_firstTurn_40 : decode cX9_firstTurn 40 = .ok (.iconst 1, 1) := by decide +kernel
theorem dX9_firstTurn_41 : decode cX9_firstTurn 41 = .ok (.iadd, 1) := by decide +kernel
theorem dX9_firstTurn_42 : decode cX9_firstTurn 42 = .ok (.iastore, 1) := by decide +kernel
theorem dX9_firstTurn_43 : decode cX9_firstTurn 43 = .ok (.aload_n 0, 1) := by decide +kernel
theorem dX9_firstTurn_44 : decode cX9_firstTurn 44 = .ok (.invokevirtual 268, 3) := by decide +kernel
theorem dX9_firstTurn_47 : decode cX9_firstTurn 47 = .ok (.istore_n 3, 1) := by decide +kernel
theorem dX9_firstTurn_48 : decode cX9_firstTurn 48 = .ok (.iload_n 3, 1) := by decide +kernel
theorem dX9_firstTurn_49 : decode cX9_firstTurn 49 = .ok (.iload_n 1, 1) := by decide +kernel
theorem dX9_firstTurn_50 : decode cX9_firstTurn 50 = .ok (.if_icmp .le 7, 3) := by decide +kernel
theorem dX9_firstTurn_53 : decode cX9_firstTurn 53 = .ok (.iload_n 3, 1) := by decide +kernel
theorem dX9_firstTurn_54 : decode cX9_firstTurn 54 = .ok (.goto 4, 3) := by decide +kernel
theorem dX9_firstTurn_57 : decode cX9_firstTurn 57 = .ok (.iload_n 1, 1) := by decide +kernel
theorem dX9_firstTurn_58 : decode cX9_firstTurn 58 = .ok (.istore_n 1, 1) := by decide +kernel
theorem dX9_firstTurn_59 : decode cX9_firstTurn 59 = .ok (.aload_n 0, 1) := by decide +kernel
theorem dX9_firstTurn_60 : decode cX9_firstTurn 60 = .ok (.getfield 16, 3) := by decide +kernel
theorem dX9_firstTurn_63 : decode cX9_firstTurn 63 = .ok (.bipush 52, 2) := by decide +kernel
theorem dX9_firstTurn_65 : decode cX9_firstTurn 65 = .ok (.aload_n 0, 1) := by decide +kernel
theorem dX9_firstTurn_66 : decode cX9_firstTurn 66 = .ok (.getfield 53, 3) := by decide +kernel
theorem dX9_firstTurn_69 : decode cX9_firstTurn 69 = .ok (.iload_n 2, 1) := by decide +kernel
theorem dX9_firstTurn_70 : decode cX9_firstTurn 70 = .ok (.iaload, 1) := by decide +kernel
theorem dX9_firstTurn_71 : decode cX9_firstTurn 71 = .ok (.iadd, 1) := by decide +kernel
theorem dX9_firstTurn_72 : decode cX9_firstTurn 72 = .ok (.iconst 0, 1) := by decide +kernel
theorem dX9_firstTurn_73 : decode cX9_firstTurn 73 = .ok (.iastore, 1) := by decide +kernel
theorem dX9_firstTurn_74 : decode cX9_firstTurn 74 = .ok (.iinc 2 1, 3) := by decide +kernel
theorem dX9_firstTurn_77 : decode cX9_firstTurn 77 = .ok (.goto (-70), 3) := by decide +kernel
theorem dX9_firstTurn_80 : decode cX9_firstTurn 80 = .ok (.iload_n 1, 1) := by decide +kernel
theorem dX9_firstTurn_81 : decode cX9_firstTurn 81 = .ok (.ireturn, 1) := by decide +kernel
def X9_firstTurn_J58 (v14 : (Int32 × Rec)) (v4 : Int32) (k7 : Int32 → Int32 → Rec → Option (Int32 × Rec)) (v16 : Int32) : Option (Int32 × Rec) :=
  (rdI (v14.2.2.1 22) 6 v4).bind fun v17 =>
  (wrI (v14.2.2.1 2) 96 ((52 : Int32) + v17) (0 : Int32)).bind fun w18 =>
  aLet (v4 + (1 : Int32)) fun v20 =>
  k7 v16 v20 (sA v14.2 2 w18)
def X9_firstTurn_L7 : Nat → Int32 → Int32 → Rec → Option (Int32 × Rec)
  | 0, _, _, _ => none
  | n7 + 1, v3, v4, Z5 => if (Z5.1 23) ≤ v4 then
      some (v3, Z5)
    else
      (X9_isFree Z5 v4).bind fun v8 =>
      if v8 = 0 then
        aLet (v4 + (1 : Int32)) fun v10 =>
        X9_firstTurn_L7 n7 v3 v10 Z5
      else
        (rdI (Z5.2.1 22) 6 v4).bind fun v11 =>
        (wrI (Z5.2.1 2) 96 ((52 : Int32) + v11) ((Z5.1 24) + (1 : Int32))).bind fun w12 =>
        (X9_secondTurn (sA Z5 2 w12)).bind fun v14 =>
        if v14.1 ≤ v3 then
          X9_firstTurn_J58 v14 v4 (X9_firstTurn_L7 n7) v3
        else
          X9_firstTurn_J58 v14 v4 (X9_firstTurn_L7 n7) v14.1
def X9_firstTurn (S0 : Rec) : Option (Int32 × Rec) :=
  (X9_secondTurn S0).bind fun v1 =>
  (X9_firstTurn_L7 aFu v1.1 (0 : Int32) v1.2).bind fun e22 =>
  some (e22.1, e22.2)
set_option maxRecDepth 100000 in
set_option maxHeartbeats 4000000 in
theorem X9_firstTurn_ok (l : Launch) {h : aH} {nx : Nat} {a0 : Nat} {S0 : Rec} (hB0 : X9_at h a0 S0) {r : Int32 × Rec} (hF : X9_firstTurn S0 = some r) : aOk l 8 0 0 yX9_firstTurn cX9_firstTurn 4 (some .int) [.ref a0] h nx (aMt (some (.int r.1)) nx (fun h1 => X9_at h1 a0 r.2 ∧ (∀ q, (q < a0 ∨ a0 + 20 ≤ q) → h1 q = h q))) := by
  refine aOk.of (by decide +kernel) (Nat.le_of_ble_eq_true rfl) (fun X G hX C R0 _ => ?_)
  subst hX
  show aV X G 4 0 [(0, .ref a0)] [] h nx 0 0
  have hFr : ∀ q, (q < a0 ∨ a0 + 20 ≤ q) → h q = h q := fun _ _ => rfl
  rw [X9_firstTurn] at hF
  refine ab_aload_n C 0 rfl rfl dX9_firstTurn_0 ?_
  obtain ⟨v1, hxv1, hF⟩ := Option.bind_eq_some_iff.mp hF
  refine ab_cVM (v := .int v1.1) (st := []) C lm_X9_268 (X9_secondTurn_ok (xl X) hB0 (r := v1) hxv1) [] rfl hB0.1 rfl rfl rfl (by decide) ⟨Nat.zero_le _, Nat.zero_le _⟩ (Nat.le_of_ble_eq_true rfl) dX9_firstTurn_1 (fun g2 pg2 => ?_)
  obtain ⟨k0, Og2⟩ := pg2
  have hB0 : X9_at g2 a0 v1.2 := k0
  have hFr : ∀ q, (q < a0 ∨ a0 + 20 ≤ q) → g2 q = h q := fun q u0 => (Og2 q (by omega)).trans (hFr q u0)
  refine ab_istore_n (lv' := [(1, .int v1.1), (0, .ref a0)]) C dX9_firstTurn_4 rfl (by decide) rfl ?_
  refine ab_iconst (v := (0 : Int32)) C dX9_firstTurn_5 (by decide) ?_
  refine ab_istore_n (lv' := [(2, .int (0 : Int32)), (1, .int v1.1), (0, .ref a0)]) C dX9_firstTurn_6 rfl (by decide) rfl ?_
  have L7 : ∀ (n7 : Nat) (v3 : Int32) (v4 : Int32) (Z5 : Rec) (g6 : aH), (X9_at g6 a0 Z5) → (∀ q, (q < a0 ∨ a0 + 20 ≤ q) → g6 q = h q) → ∀ (res7 : Int32 × Rec), X9_firstTurn_L7 n7 v3 v4 Z5 = some res7 → (∀ (q9 : aH), (X9_at q9 a0 res7.2) → (∀ q, (q < a0 ∨ a0 + 20 ≤ q) → q9 q = h q) → aV X G 4 80 [(1, .int res7.1)] [] q9 nx 0 0) → aV X G 4 7 [(0, .ref a0), (1, .int v3), (2, .int v4)] [] g6 nx 0 0 := by
    intro n7
    induction n7 with
    | zero => intro v3 v4 Z5 g6 hB0 hFr res7 hF KX7; cases (show (none : Option (Int32 × Rec)) = some res7 from hF)
    | succ n7 ih7 =>
      intro v3 v4 Z5 g6 hB0 hFr res7 hF KX7
      rw [X9_firstTurn_L7] at hF
      refine ab_iload_n C 2 rfl rfl dX9_firstTurn_7 ?_
      refine ab_aload_n C 0 rfl rfl dX9_firstTurn_8 ?_
      refine ab_g9 (v := .int (Z5.1 23)) C lf_X9_256 hB0.1 rfl dX9_firstTurn_9 ?_
      refine ab_icmp_ge C 80 dX9_firstTurn_12 (by decide) (fun c7 => ?_) (fun c7 => ?_)
      · replace hF := (if_pos c7).symm.trans hF
        obtain rfl := Option.some.inj hF
        refine aV.sub (lv' := [(1, .int v3)]) [1] rfl ?_
        exact KX7 g6 hB0 hFr
      · replace hF := (if_neg c7).symm.trans hF
        refine ab_aload_n C 0 rfl rfl dX9_firstTurn_15 ?_
        refine ab_iload_n C 2 rfl rfl dX9_firstTurn_16 ?_
        obtain ⟨v8, hxv8, hF⟩ := Option.bind_eq_some_iff.mp hF
        refine ab_cVR (v := .int v8) (st := []) C lm_X9_259 (X9_isFree_ok (xl X) hB0 (r := v8) hxv8) [.int v4] rfl hB0.1 rfl rfl rfl (by decide) ⟨Nat.zero_le _, Nat.zero_le _⟩ (Nat.le_of_ble_eq_true rfl) dX9_firstTurn_17 ?_
        refine ab_if_eq C 74 dX9_firstTurn_20 (by decide) (fun c9 => ?_) (fun c9 => ?_)
        · replace hF := (if_pos c9).symm.trans hF
          obtain ⟨v10, qv10⟩ : ∃ y : Int32, y = (v4 + (1 : Int32)) := ⟨_, rfl⟩
          replace hF := aLet_e hF v10 qv10
          refine ab_iinc (lv' := [(2, .int v10), (0, .ref a0), (1, .int v3)]) C 2 rfl dX9_firstTurn_74 (by rw [qv10]; rfl) (by decide) rfl ?_
          refine ab_goto C 7 dX9_firstTurn_77 (by decide) ?_
          refine aV.sub (lv' := [(0, .ref a0), (1, .int v3), (2, .int v10)]) [1, 2, 0] rfl ?_
          exact ih7 v3 v10 Z5 g6 hB0 hFr res7 hF KX7
        · replace hF := (if_neg c9).symm.trans hF
          refine ab_aload_n C 0 rfl rfl dX9_firstTurn_23 ?_
          refine ab_g9 (v := .ref (a0 + 3)) C lf_X9_16 hB0.1 rfl dX9_firstTurn_24 ?_
          refine ab_bipush (v := (52 : Int32)) C dX9_firstTurn_27 (by decide) ?_
          refine ab_aload_n C 0 rfl rfl dX9_firstTurn_29 ?_
          refine ab_g9 (v := .ref (a0 + 15)) C lf_X9_53 hB0.1 rfl dX9_firstTurn_30 ?_
          refine ab_iload_n C 2 rfl rfl dX9_firstTurn_33 ?_
          obtain ⟨v11, hxv11, hF⟩ := Option.bind_eq_some_iff.mp hF
          refine ab_iald C (X9_r22 hB0) hxv11 dX9_firstTurn_34 ?_
          refine ab_iadd C dX9_firstTurn_35 ?_
          refine ab_aload_n C 0 rfl rfl dX9_firstTurn_36 ?_
          refine ab_g9 (v := .int (Z5.1 24)) C lf_X9_247 hB0.1 rfl dX9_firstTurn_37 ?_
          refine ab_iconst (v := (1 : Int32)) C dX9_firstTurn_40 (by decide) ?_
          refine ab_iadd C dX9_firstTurn_41 ?_
          obtain ⟨w12, hxw12, hF⟩ := Option.bind_eq_some_iff.mp hF
          refine ab_iast C (X9_r2 hB0) hxw12 dX9_firstTurn_42 (fun g13 eg13 og13 => ?_)
          have hB0 : X9_at g13 a0 (sA Z5 2 w12) := X9_w2 hB0 eg13 og13
          have hFr : ∀ q, (q < a0 ∨ a0 + 20 ≤ q) → g13 q = h q := fun q u0 => (og13 q (by omega)).trans (hFr q u0)
          refine ab_aload_n C 0 rfl rfl dX9_firstTurn_43 ?_
          obtain ⟨v14, hxv14, hF⟩ := Option.bind_eq_some_iff.mp hF
          refine ab_cVM (v := .int v14.1) (st := []) C lm_X9_268 (X9_secondTurn_ok (xl X) hB0 (r := v14) hxv14) [] rfl hB0.1 rfl rfl rfl (by decide) ⟨Nat.zero_le _, Nat.zero_le _⟩ (Nat.le_of_ble_eq_true rfl) dX9_firstTurn_44 (fun g15 pg15 => ?_)
          obtain ⟨k0, Og15⟩ := pg15
          have hB0 : X9_at g15 a0 v14.2 := k0
          have hFr : ∀ q, (q < a0 ∨ a0 + 20 ≤ q) → g15 q = h q := fun q u0 => (Og15 q (by omega)).trans (hFr q u0)
          refine ab_istore_n (lv' := [(3, .int v14.1), (0, .ref a0), (1, .int v3), (2, .int v4)]) C dX9_firstTurn_47 rfl (by decide) rfl ?_
          refine ab_iload_n C 0 rfl rfl dX9_firstTurn_48 ?_
          refine ab_iload_n C 2 rfl rfl dX9_firstTurn_49 ?_
          have J58 : ∀ (v16 : Int32), X9_firstTurn_J58 v14 v4 (X9_firstTurn_L7 n7) v16 = some res7 → aV X G 4 58 [(0, .ref a0), (2, .int v4)] [.int v16] g15 nx 0 0 := by
            intro v16 hF
            rw [X9_firstTurn_J58] at hF
            refine ab_istore_n (lv' := [(1, .int v16), (0, .ref a0), (2, .int v4)]) C dX9_firstTurn_58 rfl (by decide) rfl ?_
            refine ab_aload_n C 1 rfl rfl dX9_firstTurn_59 ?_
            refine ab_g9 (v := .ref (a0 + 3)) C lf_X9_16 hB0.1 rfl dX9_firstTurn_60 ?_
            refine ab_bipush (v := (52 : Int32)) C dX9_firstTurn_63 (by decide) ?_
            refine ab_aload_n C 1 rfl rfl dX9_firstTurn_65 ?_
            refine ab_g9 (v := .ref (a0 + 15)) C lf_X9_53 hB0.1 rfl dX9_firstTurn_66 ?_
            refine ab_iload_n C 2 rfl rfl dX9_firstTurn_69 ?_
            obtain ⟨v17, hxv17, hF⟩ := Option.bind_eq_some_iff.mp hF
            refine ab_iald C (X9_r22 hB0) hxv17 dX9_firstTurn_70 ?_
            refine ab_iadd C dX9_firstTurn_71 ?_
            refine ab_iconst (v := (0 : Int32)) C dX9_firstTurn_72 (by decide) ?_
            obtain ⟨w18, hxw18, hF⟩ := Option.bind_eq_some_iff.mp hF
            refine ab_iast C (X9_r2 hB0) hxw18 dX9_firstTurn_73 (fun g19 eg19 og19 => ?_)
            have hB0 : X9_at g19 a0 (sA v14.2 2 w18) := X9_w2 hB0 eg19 og19
            have hFr : ∀ q, (q < a0 ∨ a0 + 20 ≤ q) → g19 q = h q := fun q u0 => (og19 q (by omega)).trans (hFr q u0)
            obtain ⟨v20, qv20⟩ : ∃ y : Int32, y = (v4 + (1 : Int32)) := ⟨_, rfl⟩
            replace hF := aLet_e hF v20 qv20
            refine ab_iinc (lv' := [(2, .int v20), (1, .int v16), (0, .ref a0)]) C 2 rfl dX9_firstTurn_74 (by rw [qv20]; rfl) (by decide) rfl ?_
            refine ab_goto C 7 dX9_firstTurn_77 (by decide) ?_
            refine aV.sub (lv' := [(0, .ref a0), (1, .int v16), (2, .int v20)]) [2, 1, 0] rfl ?_
            exact ih7 v16 v20 (sA v14.2 2 w18) g19 hB0 hFr res7 hF KX7
          refine ab_icmp_le C 57 dX9_firstTurn_50 (by decide) (fun c21 => ?_) (fun c21 => ?_)
          · replace hF := (if_pos c21).symm.trans hF
            refine ab_iload_n C 2 rfl rfl dX9_firstTurn_57 ?_
            refine aV.sub (lv' := [(0, .ref a0), (2, .int v4)]) [1, 3] rfl ?_
            exact J58 v3 hF
          · replace hF := (if_neg c21).symm.trans hF
            refine ab_iload_n C 0 rfl rfl dX9_firstTurn_53 ?_
            refine ab_goto C 58 dX9_firstTurn_54 (by decide) ?_
            refine aV.sub (lv' := [(0, .ref a0), (2, .int v4)]) [1, 3] rfl ?_
            exact J58 v14.1 hF
  refine aV.sub (lv' := [(0, .ref a0), (1, .int v1.1), (2, .int (0 : Int32))]) [2, 1, 0] rfl ?_
  obtain ⟨e22, he22, hF⟩ := Option.bind_eq_some_iff.mp hF
  refine L7 aFu v1.1 (0 : Int32) v1.2 g2 hB0 hFr e22 he22 (fun g23 hB0 hFr => ?_)
  refine ab_iload_n C 0 rfl rfl dX9_firstTurn_80 ?_
  obtain rfl := Option.some.inj hF
  exact ab_iret C R0 rfl dX9_firstTurn_81 ⟨rfl, rfl, hB0, hFr⟩
theorem dX9_take_0 : decode cX9_take 0 = .ok (.aload_n 0, 1) := by decide +kernel
theorem dX9_take_1 : decode cX9_take 1 = .ok (.iload_n 1, 1) := by decide +kernel
theorem dX9_take_2 : decode cX9_take 2 = .ok (.invokevirtual 153, 3) := by decide +kernel
theorem dX9_take_5 : decode cX9_take 5 = .ok (.ifCond .eq 28, 3) := by decide +kernel
theorem dX9_take_8 : decode cX9_take 8 = .ok (.aload_n 0, 1) := by decide +kernel
theorem dX9_take_9 : decode cX9_take 9 = .ok (.iload_n 2, 1) := by decide +kernel
theorem dX9_take_10 : decode cX9_take 10 = .ok (.invokevirtual 153, 3) := by decide +kernel
theorem dX9_take_13 : decode cX9_take 13 = .ok (.ifCond .eq 20, 3) := by decide +kernel
theorem dX9_take_16 : decode cX9_take 16 = .ok (.iload_n 1, 1) := by decide +kernel
theorem dX9_take_17 : decode cX9_take 17 = .ok (.iload_n 2, 1) := by decide +kernel
theorem dX9_take_18 : decode cX9_take 18 = .ok (.if_icmp .eq 15, 3) := by decide +kernel
theorem dX9_take_21 : decode cX9_take 21 = .ok (.iload_n 3, 1) := by decide +kernel
theorem dX9_take_22 : decode cX9_take 22 = .ok (.i2l, 1) := by decide +kernel
theorem dX9_take_23 : decode cX9_take 23 = .ok (.lconst 0, 1) := by decide +kernel
theorem dX9_take_24 : decode cX9_take 24 = .ok (.ldc2_w 171, 3) := by decide +kernel
theorem dX9_take_27 : decode cX9_take 27 = .ok (.invokestatic 69, 3) := by decide +kernel
theorem dX9_take_30 : decode cX9_take 30 = .ok (.ifCond .ne 5, 3) := by decide +kernel
theorem dX9_take_33 : decode cX9_take 33 = .ok (.iconst (-1), 1) := by decide +kernel
theorem dX9_take_34 : decode cX9_take 34 = .ok (.ireturn, 1) := by decide +kernel
theorem dX9_take_35 : decode cX9_take 35 = .ok (.aload_n 0, 1) := by decide +kernel
theorem dX9_take_36 : decode cX9_take 36 = .ok (.invokevirtual 195, 3) := by decide +kernel
theorem dX9_take_39 : decode cX9_take 39 = .ok (.aload_n 0, 1) := by decide +kernel
theorem dX9_take_40 : decode cX9_take 40 = .ok (.iload_n 1, 1) := by decide +kernel
theorem dX9_take_41 : decode cX9_take 41 = .ok (.putfield 247, 3) := by decide +kernel
theorem dX9_take_44 : decode cX9_take 44 = .ok (.aload_n 0, 1) := by decide +kernel
theorem dX9_take_45 : decode cX9_take 45 = .ok (.iload_n 2, 1) := by decide +kernel
theorem dX9_take_46 : decode cX9_take 46 = .ok (.putfield 250, 3) := by decide +kernel
theorem dX9_take_49 : decode cX9_take 49 = .ok (.aload_n 0, 1) := by decide +kernel
theorem dX9_take_50 : decode cX9_take 50 = .ok (.iconst 0, 1) := by decide +kernel
theorem dX9_take_51 : decode cX9_take 51 = .ok (.putfield 256, 3) := by decide +kernel
theorem dX9_take_54 : decode cX9_take 54 = .ok (.iconst 0, 1) := by decide +kernel
theorem dX9_take_55 : decode cX9_take 55 = .ok (.istore 4, 2) := by decide +kernel
theorem dX9_take_57 : decode cX9_take 57 = .ok (.iload 4, 2) := by decide +kernel
theorem dX9_take_59 : decode cX9_take 59 = .ok (.bipush 36, 2) := by decide +kernel
theorem dX9_take_61 : decode cX9_take 61 = .ok (.if_icmp .ge 64, 3) := by decide +kernel
theorem dX9_take_64 : decode cX9_take 64 = .ok (.aload_n 0, 1) := by decide +kernel
theorem dX9_take_65 : decode cX9_take 65 = .ok (.getfield 256, 3) := by decide +kernel
theorem dX9_take_68 : decode cX9_take 68 = .ok (.bipush 6, 2) := by decide +kernel
theorem dX9_take_70 : decode cX9_take 70 = .ok (.if_icmp .ge 55, 3) := by decide +kernel
theorem dX9_take_73 : decode cX9_take 73 = .ok (.aload_n 0, 1) := by decide +kernel
theorem dX9_take_74 : decode cX9_take 74 = .ok (.getfield 7, 3) := by decide +kernel
theorem dX9_take_77 : decode cX9_take 77 = .ok (.iload 4, 2) := by decide +kernel
theorem dX9_take_79 : decode cX9_take 79 = .ok (.invokestatic 133, 3) := by decide +kernel
theorem dX9_take_82 : decode cX9_take 82 = .ok (.ifCond .eq 37, 3) := by decide +kernel
theorem dX9_take_85 : decode cX9_take 85 = .ok (.aload_n 0, 1) := by decide +kernel
theorem dX9_take_86 : decode cX9_take 86 = .ok (.getfield 7, 3) := by decide +kernel
theorem dX9_take_89 : decode cX9_take 89 = .ok (.bipush 52, 2) := by decide +kernel
theorem dX9_take_91 : decode cX9_take 91 = .ok (.iload 4, 2) := by decide +kernel
theorem dX9_take_93 : decode cX9_take 93 = .ok (.iadd, 1) := by decide +kernel
theorem dX9_take_94 : decode cX9_take 94 = .ok (.iaload, 1) := by decide +kernel
theorem dX9_take_95 : decode cX9_take 95 = .ok (.ifCond .ne 24, 3) := by decide +kernel
theorem dX9_take_98 : decode cX9_take 98 = .ok (.aload_n 0, 1) := by decide +kernel
theorem dX9_take_99 : decode cX9_take 99 = .ok (.getfield 53, 3) := by decide +kernel
theorem dX9_take_102 : decode cX9_take 102 = .ok (.aload_n 0, 1) := by decide +kernel
theorem dX9_take_103 : decode cX9_take 103 = .ok (.getfield 256, 3) := by decide +kernel
theorem dX9_take_106 : decode cX9_take 106 = .ok (.iload 4, 2) := by decide +kernel
theorem dX9_take_108 : decode cX9_take 108 = .ok (.iastore, 1) := by decide +kernel
theorem dX9_take_109 : decode cX9_take 109 = .ok (.aload_n 0, 1) := by decide +kernel
theorem dX9_take_110 : decode cX9_take 110 = .ok (.dup, 1) := by decide +kernel
theorem dX9_take_111 : decode cX9_take 111 = .ok (.getfield 256, 3) := by decide +kernel
theorem dX9_take_114 : decode cX9_take 114 = .ok (.iconst 1, 1) := by decide +kernel
theorem dX9_take_115 : decode cX9_take 115 = .ok (.iadd, 1) := by decide +kernel
theorem dX9_take_116 : decode cX9_take 116 = .ok (.putfield 256, 3) := by decide +kernel
theorem dX9_take_119 : decode cX9_take 119 = .ok (.iinc 4 1, 3) := by decide +kernel
theorem dX9_take_122 : decode cX9_take 122 = .ok (.goto (-65), 3) := by decide +kernel
theorem dX9_take_125 : decode cX9_take 125 = .ok (.iload_n 3, 1) := by decide +kernel
theorem dX9_take_126 : decode cX9_take 126 = .ok (.ifCond .ne 10, 3) := by decide +kernel
theorem dX9_take_129 : decode cX9_take 129 = .ok (.aload_n 0, 1) := by decide +kernel
theorem dX9_take_130 : decode cX9_take 130 = .ok (.invokevirtual 253, 3) := by decide +kernel
theorem dX9_take_133 : decode cX9_take 133 = .ok (.goto 19, 3) := by decide +kernel
theorem dX9_take_136 : decode cX9_take 136 = .ok (.iload_n 3, 1) := by decide +kernel
theorem dX9_take_137 : decode cX9_take 137 = .ok (.iconst 1, 1) := by decide +kernel
theorem dX9_take_138 : decode cX9_take 138 = .ok (.if_icmp .ne 10, 3) := by decide +kernel
theorem dX9_take_141 : decode cX9_take 141 = .ok (.aload_n 0, 1) := by decide +kernel
theorem dX9_take_142 : decode cX9_take 142 = .ok (.invokevirtual 265, 3) := by decide +kernel
theorem dX9_take_145 : decode cX9_take 145 = .ok (.goto 7, 3) := by decide +kernel
theorem dX9_take_148 : decode cX9_take 148 = .ok (.aload_n 0, 1) := by decide +kernel
theorem dX9_take_149 : decode cX9_take 149 = .ok (.invokevirtual 271, 3) := by decide +kernel
theorem dX9_take_152 : decode cX9_take 152 = .ok (.ireturn, 1) := by decide +kernel
def X9_take_L57 : Nat → Int32 → Rec → Option (Rec)
  | 0, _, _ => none
  | n57 + 1, v12, Z13 => if (36 : Int32) ≤ v12 then
      some Z13
    else
      if (6 : Int32) ≤ (Z13.1 23) then
        some Z13
      else
        (X9_isIn (Z13.2.1 0) v12).bind fun v17 =>
        if v17 = 0 then
          aLet (v12 + (1 : Int32)) fun v19 =>
          X9_take_L57 n57 v19 Z13
        else
          (rdI (Z13.2.1 0) 96 ((52 : Int32) + v12)).bind fun v20 =>
          if v20 = 0 then
            (wrI (Z13.2.1 22) 6 (Z13.1 23) v12).bind fun w23 =>
            aLet (v12 + (1 : Int32)) fun v26 =>
            X9_take_L57 n57 v26 (sI (sA Z13 22 w23) 23 (((sA Z13 22 w23).1 23) + (1 : Int32)))
          else
            aLet (v12 + (1 : Int32)) fun v22 =>
            X9_take_L57 n57 v22 Z13
def X9_take (S0 : Rec) (x1 : Int32) (x2 : Int32) (x3 : Int32) : Option (Int32 × Rec) :=
  (X9_isHolder S0 x1).bind fun v1 =>
  if v1 = 0 then
    some ((-1 : Int32), S0)
  else
    (X9_isHolder S0 x2).bind fun v3 =>
    if v3 = 0 then
      some ((-1 : Int32), S0)
    else
      if x1 = x2 then
        some ((-1 : Int32), S0)
      else
        if (X9_in (x3.toInt64) (0 : Int64) (2 : Int64)) = 0 then
          some ((-1 : Int32), S0)
        else
          (X9_layThen S0).bind fun v7 =>
          (X9_take_L57 aFu (0 : Int32) (sI (sI (sI v7 24 x1) 25 x2) 23 (0 : Int32))).bind fun e27 =>
          if x3 = 0 then
            (X9_worth e27).bind fun v35 =>
            some (v35, e27)
          else
            if x3 = (1 : Int32) then
              (X9_lastButOne e27).bind fun v33 =>
              some (v33.1, v33.2)
            else
              (X9_firstTurn e27).bind fun v31 =>
              some (v31.1, v31.2)
set_option maxRecDepth 100000 in
set_option maxHeartbeats 4000000 in
theorem X9_take_ok (l : Launch) {h : aH} {nx : Nat} {a0 : Nat} {S0 : Rec} {x1 : Int32} {x2 : Int32} {x3 : Int32} (hB0 : X9_at h a0 S0) {r : Int32 × Rec} (hF : X9_take S0 x1 x2 x3 = some r) : aOk l 9 0 0 yX9_take cX9_take 5 (some .int) [.ref a0, .int x1, .int x2, .int x3] h nx (aMt (some (.int r.1)) nx (fun h1 => X9_at h1 a0 r.2 ∧ (∀ q, (q < a0 ∨ a0 + 20 ≤ q) → h1 q = h q))) := by
  refine aOk.of (by decide +kernel) (Nat.le_of_ble_eq_true rfl) (fun X G hX C R0 _ => ?_)
  subst hX
  show aV X G 5 0 [(0, .ref a0), (1, .int x1), (2, .int x2), (3, .int x3)] [] h nx 0 0
  have hFr : ∀ q, (q < a0 ∨ a0 + 20 ≤ q) → h q = h q := fun _ _ => rfl
  rw [X9_take] at hF
  refine ab_aload_n C 0 rfl rfl dX9_take_0 ?_
  refine ab_iload_n C 1 rfl rfl dX9_take_1 ?_
  obtain ⟨v1, hxv1, hF⟩ := Option.bind_eq_some_iff.mp hF
  refine ab_cVR (v := .int v1) (st := []) C lm_X9_153 (X9_isHolder_ok (xl X) hB0 (r := v1) hxv1) [.int x1] rfl hB0.1 rfl rfl rfl (by decide) ⟨Nat.zero_le _, Nat.zero_le _⟩ (Nat.le_of_ble_eq_true rfl) dX9_take_2 ?_
  refine ab_if_eq C 33 dX9_take_5 (by decide) (fun c2 => ?_) (fun c2 => ?_)
  · replace hF := (if_pos c2).symm.trans hF
    refine ab_iconst (v := (-1 : Int32)) C dX9_take_33 (by decide) ?_
    obtain rfl := Option.some.inj hF
    exact ab_iret C R0 rfl dX9_take_34 ⟨rfl, rfl, hB0, hFr⟩
  · replace hF := (if_neg c2).symm.trans hF
    refine ab_aload_n C 0 rfl rfl dX9_take_8 ?_
    refine ab_iload_n C 2 rfl rfl dX9_take_9 ?_
    obtain ⟨v3, hxv3, hF⟩ := Option.bind_eq_some_iff.mp hF
    refine ab_cVR (v := .int v3) (st := []) C lm_X9_153 (X9_isHolder_ok (xl X) hB0 (r := v3) hxv3) [.int x2] rfl hB0.1 rfl rfl rfl (by decide) ⟨Nat.zero_le _, Nat.zero_le _⟩ (Nat.le_of_ble_eq_true rfl) dX9_take_10 ?_
    refine ab_if_eq C 33 dX9_take_13 (by decide) (fun c4 => ?_) (fun c4 => ?_)
    · replace hF := (if_pos c4).symm.trans hF
      refine ab_iconst (v := (-1 : Int32)) C dX9_take_33 (by decide) ?_
      obtain rfl := Option.some.inj hF
      exact ab_iret C R0 rfl dX9_take_34 ⟨rfl, rfl, hB0, hFr⟩
    · replace hF := (if_neg c4).symm.trans hF
      refine ab_iload_n C 1 rfl rfl dX9_take_16 ?_
      refine ab_iload_n C 2 rfl rfl dX9_take_17 ?_
      refine ab_icmp_eq C 33 dX9_take_18 (by decide) (fun c5 => ?_) (fun c5 => ?_)
      · replace hF := (if_pos c5).symm.trans hF
        refine ab_iconst (v := (-1 : Int32)) C dX9_take_33 (by decide) ?_
        obtain rfl := Option.some.inj hF
        exact ab_iret C R0 rfl dX9_take_34 ⟨rfl, rfl, hB0, hFr⟩
      · replace hF := (if_neg c5).symm.trans hF
        refine ab_iload_n C 3 rfl rfl dX9_take_21 ?_
        refine ab_i2l C dX9_take_22 ?_
        refine ab_lconst (v := (0 : Int64)) C dX9_take_23 (by decide) ?_
        refine ab_ldc2 (v := (2 : Int64)) C dX9_take_24 lq_X9_171 ?_
        refine ab_cSR (v := .int (X9_in (x3.toInt64) (0 : Int64) (2 : Int64))) (st := []) C lm_X9_69 (X9_in_ok (xl X) (r := (X9_in (x3.toInt64) (0 : Int64) (2 : Int64))) rfl) rfl rfl (by decide) ⟨Nat.zero_le _, Nat.zero_le _⟩ (Nat.le_of_ble_eq_true rfl) dX9_take_27 ?_
        refine ab_if_ne C 35 dX9_take_30 (by decide) (fun c6 => ?_) (fun c6 => ?_)
        · replace hF := (if_neg c6).symm.trans hF
          refine ab_aload_n C 0 rfl rfl dX9_take_35 ?_
          obtain ⟨v7, hxv7, hF⟩ := Option.bind_eq_some_iff.mp hF
          refine ab_cVN (st := []) C lm_X9_195 (X9_layThen_ok (xl X) hB0 (r := v7) hxv7) [] rfl hB0.1 rfl rfl rfl (by decide) ⟨Nat.zero_le _, Nat.zero_le _⟩ (Nat.le_of_ble_eq_true rfl) dX9_take_36 (fun g8 pg8 => ?_)
          obtain ⟨k0, Og8⟩ := pg8
          have hB0 : X9_at g8 a0 v7 := k0
          have hFr : ∀ q, (q < a0 ∨ a0 + 20 ≤ q) → g8 q = h q := fun q u0 => (Og8 q (by omega)).trans (hFr q u0)
          refine ab_aload_n C 0 rfl rfl dX9_take_39 ?_
          refine ab_iload_n C 1 rfl rfl dX9_take_40 ?_
          refine ab_p9 (ty := .int) C lf_X9_247 rfl (by decide +kernel) rfl rfl (Nat.le_of_ble_eq_true rfl) hB0.1 dX9_take_41 (fun g9 eg9 og9 => ?_)
          have hB0 : X9_at g9 a0 (sI v7 24 x1) := X9_p24 hB0 eg9 og9
          have hFr : ∀ q, (q < a0 ∨ a0 + 20 ≤ q) → g9 q = h q := fun q u0 => (og9 q (by omega)).trans (hFr q u0)
          refine ab_aload_n C 0 rfl rfl dX9_take_44 ?_
          refine ab_iload_n C 2 rfl rfl dX9_take_45 ?_
          refine ab_p9 (ty := .int) C lf_X9_250 rfl (by decide +kernel) rfl rfl (Nat.le_of_ble_eq_true rfl) hB0.1 dX9_take_46 (fun g10 eg10 og10 => ?_)
          have hB0 : X9_at g10 a0 (sI (sI v7 24 x1) 25 x2) := X9_p25 hB0 eg10 og10
          have hFr : ∀ q, (q < a0 ∨ a0 + 20 ≤ q) → g10 q = h q := fun q u0 => (og10 q (by omega)).trans (hFr q u0)
          refine ab_aload_n C 0 rfl rfl dX9_take_49 ?_
          refine ab_iconst (v := (0 : Int32)) C dX9_take_50 (by decide) ?_
          refine ab_p9 (ty := .int) C lf_X9_256 rfl (by decide +kernel) rfl rfl (Nat.le_of_ble_eq_true rfl) hB0.1 dX9_take_51 (fun g11 eg11 og11 => ?_)
          have hB0 : X9_at g11 a0 (sI (sI (sI v7 24 x1) 25 x2) 23 (0 : Int32)) := X9_p23 hB0 eg11 og11
          have hFr : ∀ q, (q < a0 ∨ a0 + 20 ≤ q) → g11 q = h q := fun q u0 => (og11 q (by omega)).trans (hFr q u0)
          refine ab_iconst (v := (0 : Int32)) C dX9_take_54 (by decide) ?_
          refine ab_istore (lv' := [(4, .int (0 : Int32)), (0, .ref a0), (1, .int x1), (2, .int x2), (3, .int x3)]) C dX9_take_55 (by decide) rfl ?_
          have L57 : ∀ (n57 : Nat) (v12 : Int32) (Z13 : Rec) (g14 : aH), (X9_at g14 a0 Z13) → (∀ q, (q < a0 ∨ a0 + 20 ≤ q) → g14 q = h q) → ∀ (res57 : Rec), X9_take_L57 n57 v12 Z13 = some res57 → (∀ (q9 : aH), (X9_at q9 a0 res57) → (∀ q, (q < a0 ∨ a0 + 20 ≤ q) → q9 q = h q) → aV X G 5 125 [(0, .ref a0), (3, .int x3)] [] q9 nx 0 0) → aV X G 5 57 [(0, .ref a0), (3, .int x3), (4, .int v12)] [] g14 nx 0 0 := by
            intro n57
            induction n57 with
            | zero => intro v12 Z13 g14 hB0 hFr res57 hF KX57; cases (show (none : Option (Rec)) = some res57 from hF)
            | succ n57 ih57 =>
              intro v12 Z13 g14 hB0 hFr res57 hF KX57
              rw [X9_take_L57] at hF
              refine ab_iload C 2 rfl dX9_take_57 ?_
              refine ab_bipush (v := (36 : Int32)) C dX9_take_59 (by decide) ?_
              refine ab_icmp_ge C 125 dX9_take_61 (by decide) (fun c15 => ?_) (fun c15 => ?_)
              · replace hF := (if_pos c15).symm.trans hF
                obtain rfl := Option.some.inj hF
                refine aV.sub (lv' := [(0, .ref a0), (3, .int x3)]) [0, 1] rfl ?_
                exact KX57 g14 hB0 hFr
              · replace hF := (if_neg c15).symm.trans hF
                refine ab_aload_n C 0 rfl rfl dX9_take_64 ?_
                refine ab_g9 (v := .int (Z13.1 23)) C lf_X9_256 hB0.1 rfl dX9_take_65 ?_
                refine ab_bipush (v := (6 : Int32)) C dX9_take_68 (by decide) ?_
                refine ab_icmp_ge C 125 dX9_take_70 (by decide) (fun c16 => ?_) (fun c16 => ?_)
                · replace hF := (if_pos c16).symm.trans hF
                  obtain rfl := Option.some.inj hF
                  refine aV.sub (lv' := [(0, .ref a0), (3, .int x3)]) [0, 1] rfl ?_
                  exact KX57 g14 hB0 hFr
                · replace hF := (if_neg c16).symm.trans hF
                  refine ab_aload_n C 0 rfl rfl dX9_take_73 ?_
                  refine ab_g9 (v := .ref (a0 + 1)) C lf_X9_7 hB0.1 rfl dX9_take_74 ?_
                  refine ab_iload C 2 rfl dX9_take_77 ?_
                  obtain ⟨v17, hxv17, hF⟩ := Option.bind_eq_some_iff.mp hF
                  refine ab_cSR (v := .int v17) (st := []) C lm_X9_133 (X9_isIn_ok (xl X) (X9_r0 hB0) (r := v17) hxv17) rfl rfl (by decide) ⟨Nat.zero_le _, Nat.zero_le _⟩ (Nat.le_of_ble_eq_true rfl) dX9_take_79 ?_
                  refine ab_if_eq C 119 dX9_take_82 (by decide) (fun c18 => ?_) (fun c18 => ?_)
                  · replace hF := (if_pos c18).symm.trans hF
                    obtain ⟨v19, qv19⟩ : ∃ y : Int32, y = (v12 + (1 : Int32)) := ⟨_, rfl⟩
                    replace hF := aLet_e hF v19 qv19
                    refine ab_iinc (lv' := [(4, .int v19), (0, .ref a0), (3, .int x3)]) C 2 rfl dX9_take_119 (by rw [qv19]; rfl) (by decide) rfl ?_
                    refine ab_goto C 57 dX9_take_122 (by decide) ?_
                    refine aV.sub (lv' := [(0, .ref a0), (3, .int x3), (4, .int v19)]) [1, 2, 0] rfl ?_
                    exact ih57 v19 Z13 g14 hB0 hFr res57 hF KX57
                  · replace hF := (if_neg c18).symm.trans hF
                    refine ab_aload_n C 0 rfl rfl dX9_take_85 ?_
                    refine ab_g9 (v := .ref (a0 + 1)) C lf_X9_7 hB0.1 rfl dX9_take_86 ?_
                    refine ab_bipush (v := (52 : Int32)) C dX9_take_89 (by decide) ?_
                    refine ab_iload C 2 rfl dX9_take_91 ?_
                    refine ab_iadd C dX9_take_93 ?_
                    obtain ⟨v20, hxv20, hF⟩ := Option.bind_eq_some_iff.mp hF
                    refine ab_iald C (X9_r0 hB0) hxv20 dX9_take_94 ?_
                    refine ab_if_ne C 119 dX9_take_95 (by decide) (fun c21 => ?_) (fun c21 => ?_)
                    · replace hF := (if_neg c21).symm.trans hF
                      obtain ⟨v22, qv22⟩ : ∃ y : Int32, y = (v12 + (1 : Int32)) := ⟨_, rfl⟩
                      replace hF := aLet_e hF v22 qv22
                      refine ab_iinc (lv' := [(4, .int v22), (0, .ref a0), (3, .int x3)]) C 2 rfl dX9_take_119 (by rw [qv22]; rfl) (by decide) rfl ?_
                      refine ab_goto C 57 dX9_take_122 (by decide) ?_
                      refine aV.sub (lv' := [(0, .ref a0), (3, .int x3), (4, .int v22)]) [1, 2, 0] rfl ?_
                      exact ih57 v22 Z13 g14 hB0 hFr res57 hF KX57
                    · replace hF := (if_pos c21).symm.trans hF
                      refine ab_aload_n C 0 rfl rfl dX9_take_98 ?_
                      refine ab_g9 (v := .ref (a0 + 15)) C lf_X9_53 hB0.1 rfl dX9_take_99 ?_
                      refine ab_aload_n C 0 rfl rfl dX9_take_102 ?_
                      refine ab_g9 (v := .int (Z13.1 23)) C lf_X9_256 hB0.1 rfl dX9_take_103 ?_
                      refine ab_iload C 2 rfl dX9_take_106 ?_
                      obtain ⟨w23, hxw23, hF⟩ := Option.bind_eq_some_iff.mp hF
                      refine ab_iast C (X9_r22 hB0) hxw23 dX9_take_108 (fun g24 eg24 og24 => ?_)
                      have hB0 : X9_at g24 a0 (sA Z13 22 w23) := X9_w22 hB0 eg24 og24
                      have hFr : ∀ q, (q < a0 ∨ a0 + 20 ≤ q) → g24 q = h q := fun q u0 => (og24 q (by omega)).trans (hFr q u0)
                      refine ab_aload_n C 0 rfl rfl dX9_take_109 ?_
                      refine ab_dup C rfl dX9_take_110 ?_
                      refine ab_g9 (v := .int ((sA Z13 22 w23).1 23)) C lf_X9_256 hB0.1 rfl dX9_take_111 ?_
                      refine ab_iconst (v := (1 : Int32)) C dX9_take_114 (by decide) ?_
                      refine ab_iadd C dX9_take_115 ?_
                      refine ab_p9 (ty := .int) C lf_X9_256 rfl (by decide +kernel) rfl rfl (Nat.le_of_ble_eq_true rfl) hB0.1 dX9_take_116 (fun g25 eg25 og25 => ?_)
                      have hB0 : X9_at g25 a0 (sI (sA Z13 22 w23) 23 (((sA Z13 22 w23).1 23) + (1 : Int32))) := X9_p23 hB0 eg25 og25
                      have hFr : ∀ q, (q < a0 ∨ a0 + 20 ≤ q) → g25 q = h q := fun q u0 => (og25 q (by omega)).trans (hFr q u0)
                      obtain ⟨v26, qv26⟩ : ∃ y : Int32, y = (v12 + (1 : Int32)) := ⟨_, rfl⟩
                      replace hF := aLet_e hF v26 qv26
                      refine ab_iinc (lv' := [(4, .int v26), (0, .ref a0), (3, .int x3)]) C 2 rfl dX9_take_119 (by rw [qv26]; rfl) (by decide) rfl ?_
                      refine ab_goto C 57 dX9_take_122 (by decide) ?_
                      refine aV.sub (lv' := [(0, .ref a0), (3, .int x3), (4, .int v26)]) [1, 2, 0] rfl ?_
                      exact ih57 v26 (sI (sA Z13 22 w23) 23 (((sA Z13 22 w23).1 23) + (1 : Int32))) g25 hB0 hFr res57 hF KX57
          refine aV.sub (lv' := [(0, .ref a0), (3, .int x3), (4, .int (0 : Int32))]) [1, 4, 0] rfl ?_
          obtain ⟨e27, he27, hF⟩ := Option.bind_eq_some_iff.mp hF
          refine L57 aFu (0 : Int32) (sI (sI (sI v7 24 x1) 25 x2) 23 (0 : Int32)) g11 hB0 hFr e27 he27 (fun g28 hB0 hFr => ?_)
          refine ab_iload_n C 1 rfl rfl dX9_take_125 ?_
          refine ab_if_ne C 136 dX9_take_126 (by decide) (fun c29 => ?_) (fun c29 => ?_)
          · replace hF := (if_neg c29).symm.trans hF
            refine ab_iload_n C 1 rfl rfl dX9_take_136 ?_
            refine ab_iconst (v := (1 : Int32)) C dX9_take_137 (by decide) ?_
            refine ab_icmp_ne C 148 dX9_take_138 (by decide) (fun c30 => ?_) (fun c30 => ?_)
            · replace hF := (if_neg c30).symm.trans hF
              refine ab_aload_n C 0 rfl rfl dX9_take_148 ?_
              obtain ⟨v31, hxv31, hF⟩ := Option.bind_eq_some_iff.mp hF
              refine ab_cVM (v := .int v31.1) (st := []) C lm_X9_271 (X9_firstTurn_ok (xl X) hB0 (r := v31) hxv31) [] rfl hB0.1 rfl rfl rfl (by decide) ⟨Nat.zero_le _, Nat.zero_le _⟩ (Nat.le_of_ble_eq_true rfl) dX9_take_149 (fun g32 pg32 => ?_)
              obtain ⟨k0, Og32⟩ := pg32
              have hB0 : X9_at g32 a0 v31.2 := k0
              have hFr : ∀ q, (q < a0 ∨ a0 + 20 ≤ q) → g32 q = h q := fun q u0 => (Og32 q (by omega)).trans (hFr q u0)
              obtain rfl := Option.some.inj hF
              exact ab_iret C R0 rfl dX9_take_152 ⟨rfl, rfl, hB0, hFr⟩
            · replace hF := (if_pos c30).symm.trans hF
              refine ab_aload_n C 0 rfl rfl dX9_take_141 ?_
              obtain ⟨v33, hxv33, hF⟩ := Option.bind_eq_some_iff.mp hF
              refine ab_cVM (v := .int v33.1) (st := []) C lm_X9_265 (X9_lastButOne_ok (xl X) hB0 (r := v33) hxv33) [] rfl hB0.1 rfl rfl rfl (by decide) ⟨Nat.zero_le _, Nat.zero_le _⟩ (Nat.le_of_ble_eq_true rfl) dX9_take_142 (fun g34 pg34 => ?_)
              obtain ⟨k0, Og34⟩ := pg34
              have hB0 : X9_at g34 a0 v33.2 := k0
              have hFr : ∀ q, (q < a0 ∨ a0 + 20 ≤ q) → g34 q = h q := fun q u0 => (Og34 q (by omega)).trans (hFr q u0)
              refine ab_goto C 152 dX9_take_145 (by decide) ?_
              obtain rfl := Option.some.inj hF
              exact ab_iret C R0 rfl dX9_take_152 ⟨rfl, rfl, hB0, hFr⟩
          · replace hF := (if_pos c29).symm.trans hF
            refine ab_aload_n C 0 rfl rfl dX9_take_129 ?_
            obtain ⟨v35, hxv35, hF⟩ := Option.bind_eq_some_iff.mp hF
            refine ab_cVR (v := .int v35) (st := []) C lm_X9_253 (X9_worth_ok (xl X) hB0 (r := v35) hxv35) [] rfl hB0.1 rfl rfl rfl (by decide) ⟨Nat.zero_le _, Nat.zero_le _⟩ (Nat.le_of_ble_eq_true rfl) dX9_take_130 ?_
            refine ab_goto C 152 dX9_take_133 (by decide) ?_
            obtain rfl := Option.some.inj hF
            exact ab_iret C R0 rfl dX9_take_152 ⟨rfl, rfl, hB0, hFr⟩
        · replace hF := (if_pos c6).symm.trans hF
          refine ab_iconst (v := (-1 : Int32)) C dX9_take_33 (by decide) ?_
          obtain rfl := Option.some.inj hF
          exact ab_iret C R0 rfl dX9_take_34 ⟨rfl, rfl, hB0, hFr⟩
theorem dX9_cells_0 : decode cX9_cells 0 = .ok (.aload_n 0, 1) := by decide +kernel
theorem dX9_cells_1 : decode cX9_cells 1 = .ok (.getfield 7, 3) := by decide +kernel
theorem dX9_cells_4 : decode cX9_cells 4 = .ok (.iconst 2, 1) := by decide +kernel
theorem dX9_cells_5 : decode cX9_cells 5 = .ok (.iaload, 1) := by decide +kernel
theorem dX9_cells_6 : decode cX9_cells 6 = .ok (.aload_n 0, 1) := by decide +kernel
theorem dX9_cells_7 : decode cX9_cells 7 = .ok (.getfield 7, 3) := by decide +kernel
theorem dX9_cells_10 : decode cX9_cells 10 = .ok (.iconst 1, 1) := by decide +kernel
theorem dX9_cells_11 : decode cX9_cells 11 = .ok (.iaload, 1) := by decide +kernel
theorem dX9_cells_12 : decode cX9_cells 12 = .ok (.imul, 1) := by decide +kernel
theorem dX9_cells_13 : decode cX9_cells 13 = .ok (.ireturn, 1) := by decide +kernel
def X9_cells (S0 : Rec) : Option (Int32) :=
  (rdI (S0.2.1 0) 96 (2 : Int32)).bind fun v1 =>
  (rdI (S0.2.1 0) 96 (1 : Int32)).bind fun v2 =>
  some (v1 * v2)
set_option maxRecDepth 100000 in
set_option maxHeartbeats 4000000 in
theorem X9_cells_ok (l : Launch) {h : aH} {nx : Nat} {a0 : Nat} {S0 : Rec} (hB0 : X9_at h a0 S0) {r : Int32} (hF : X9_cells S0 = some r) : aOk l 0 0 0 yX9_cells cX9_cells 1 (some .int) [.ref a0] h nx (aRd (.int r) h nx) := by
  refine aOk.of (by decide +kernel) (Nat.le_of_ble_eq_true rfl) (fun X G hX C R0 _ => ?_)
  subst hX
  show aV X G 1 0 [(0, .ref a0)] [] h nx 0 0
  rw [X9_cells] at hF
  refine ab_aload_n C 0 rfl rfl dX9_cells_0 ?_
  refine ab_g9 (v := .ref (a0 + 1)) C lf_X9_7 hB0.1 rfl dX9_cells_1 ?_
  refine ab_iconst (v := (2 : Int32)) C dX9_cells_4 (by decide) ?_
  obtain ⟨v1, hxv1, hF⟩ := Option.bind_eq_some_iff.mp hF
  refine ab_iald C (X9_r0 hB0) hxv1 dX9_cells_5 ?_
  refine ab_aload_n C 0 rfl rfl dX9_cells_6 ?_
  refine ab_g9 (v := .ref (a0 + 1)) C lf_X9_7 hB0.1 rfl dX9_cells_7 ?_
  refine ab_iconst (v := (1 : Int32)) C dX9_cells_10 (by decide) ?_
  obtain ⟨v2, hxv2, hF⟩ := Option.bind_eq_some_iff.mp hF
  refine ab_iald C (X9_r0 hB0) hxv2 dX9_cells_11 ?_
  refine ab_imul C dX9_cells_12 ?_
  obtain rfl := Option.some.inj hF
  exact ab_iret C R0 rfl dX9_cells_13 ⟨rfl, rfl, rfl⟩
theorem dX9_placeBy_0 : decode cX9_placeBy 0 = .ok (.bipush 6, 2) := by decide +kernel
theorem dX9_placeBy_2 : decode cX9_placeBy 2 = .ok (.iload_n 1, 1) := by decide +kernel
theorem dX9_placeBy_3 : decode cX9_placeBy 3 = .ok (.aload_n 0, 1) := by decide +kernel
theorem dX9_placeBy_4 : decode cX9_placeBy 4 = .ok (.getfield 7, 3) := by decide +kernel
theorem dX9_placeBy_7 : decode cX9_placeBy 7 = .ok (.iconst 1, 1) := by decide +kernel
theorem dX9_placeBy_8 : decode cX9_placeBy 8 = .ok (.iaload, 1) := by decide +kernel
theorem dX9_placeBy_9 : decode cX9_placeBy 9 = .ok (.idiv, 1) := by decide +kernel
theorem dX9_placeBy_10 : decode cX9_placeBy 10 = .ok (.imul, 1) := by decide +kernel
theorem dX9_placeBy_11 : decode cX9_placeBy 11 = .ok (.iload_n 1, 1) := by decide +kernel
theorem dX9_placeBy_12 : decode cX9_placeBy 12 = .ok (.aload_n 0, 1) := by decide +kernel
theorem dX9_placeBy_13 : decode cX9_placeBy 13 = .ok (.getfield 7, 3) := by decide +kernel
theorem dX9_placeBy_16 : decode cX9_placeBy 16 = .ok (.iconst 1, 1) := by decide +kernel
theorem dX9_placeBy_17 : decode cX9_placeBy 17 = .ok (.iaload, 1) := by decide +kernel
theorem dX9_placeBy_18 : decode cX9_placeBy 18 = .ok (.irem, 1) := by decide +kernel
theorem dX9_placeBy_19 : decode cX9_placeBy 19 = .ok (.iadd, 1) := by decide +kernel
theorem dX9_placeBy_20 : decode cX9_placeBy 20 = .ok (.ireturn, 1) := by decide +kernel
def X9_placeBy (S0 : Rec) (x1 : Int32) : Option (Int32) :=
  (rdI (S0.2.1 0) 96 (1 : Int32)).bind fun v1 =>
  if v1 = (0 : Int32) then none else
  (rdI (S0.2.1 0) 96 (1 : Int32)).bind fun v3 =>
  if v3 = (0 : Int32) then none else
  some (((6 : Int32) * (x1 / v1)) + (x1 - x1 / v3 * v3))
set_option maxRecDepth 100000 in
set_option maxHeartbeats 4000000 in
theorem X9_placeBy_ok (l : Launch) {h : aH} {nx : Nat} {a0 : Nat} {S0 : Rec} {x1 : Int32} (hB0 : X9_at h a0 S0) {r : Int32} (hF : X9_placeBy S0 x1 = some r) : aOk l 0 0 0 yX9_placeBy cX9_placeBy 2 (some .int) [.ref a0, .int x1] h nx (aRd (.int r) h nx) := by
  refine aOk.of (by decide +kernel) (Nat.le_of_ble_eq_true rfl) (fun X G hX C R0 _ => ?_)
  subst hX
  show aV X G 2 0 [(0, .ref a0), (1, .int x1)] [] h nx 0 0
  rw [X9_placeBy] at hF
  refine ab_bipush (v := (6 : Int32)) C dX9_placeBy_0 (by decide) ?_
  refine ab_iload_n C 1 rfl rfl dX9_placeBy_2 ?_
  refine ab_aload_n C 0 rfl rfl dX9_placeBy_3 ?_
  refine ab_g9 (v := .ref (a0 + 1)) C lf_X9_7 hB0.1 rfl dX9_placeBy_4 ?_
  refine ab_iconst (v := (1 : Int32)) C dX9_placeBy_7 (by decide) ?_
  obtain ⟨v1, hxv1, hF⟩ := Option.bind_eq_some_iff.mp hF
  refine ab_iald C (X9_r0 hB0) hxv1 dX9_placeBy_8 ?_
  rcases Classical.em (v1 = (0 : Int32)) with c2 | c2
  · replace hF := (if_pos c2).symm.trans hF
    cases hF
  replace hF := (if_neg c2).symm.trans hF
  refine ab_idiv C c2 dX9_placeBy_9 ?_
  refine ab_imul C dX9_placeBy_10 ?_
  refine ab_iload_n C 1 rfl rfl dX9_placeBy_11 ?_
  refine ab_aload_n C 0 rfl rfl dX9_placeBy_12 ?_
  refine ab_g9 (v := .ref (a0 + 1)) C lf_X9_7 hB0.1 rfl dX9_placeBy_13 ?_
  refine ab_iconst (v := (1 : Int32)) C dX9_placeBy_16 (by decide) ?_
  obtain ⟨v3, hxv3, hF⟩ := Option.bind_eq_some_iff.mp hF
  refine ab_iald C (X9_r0 hB0) hxv3 dX9_placeBy_17 ?_
  rcases Classical.em (v3 = (0 : Int32)) with c4 | c4
  · replace hF := (if_pos c4).symm.trans hF
    cases hF
  replace hF := (if_neg c4).symm.trans hF
  refine ab_irem C c4 dX9_placeBy_18 ?_
  refine ab_iadd C dX9_placeBy_19 ?_
  obtain rfl := Option.some.inj hF
  exact ab_iret C R0 rfl dX9_placeBy_20 ⟨rfl, rfl, rfl⟩
theorem dX9_chance_0 : decode cX9_chance 0 = .ok (.aload_n 0, 1) := by decide +kernel
theorem dX9_chance_1 : decode cX9_chance 1 = .ok (.iload_n 1, 1) := by decide +kernel
theorem dX9_chance_2 : decode cX9_chance 2 = .ok (.invokevirtual 153, 3) := by decide +kernel
theorem dX9_chance_5 : decode cX9_chance 5 = .ok (.ifCond .eq 34, 3) := by decide +kernel
theorem dX9_chance_8 : decode cX9_chance 8 = .ok (.aload_n 0, 1) := by decide +kernel
theorem dX9_chance_9 : decode cX9_chance 9 = .ok (.iload_n 2, 1) := by decide +kernel
theorem dX9_chance_10 : decode cX9_chance 10 = .ok (.invokevirtual 179, 3) := by decide +kernel
theorem dX9_chance_13 : decode cX9_chance 13 = .ok (.ifCond .eq 26, 3) := by decide +kernel
theorem dX9_chance_16 : decode cX9_chance 16 = .ok (.iload_n 3, 1) := by decide +kernel
theorem dX9_chance_17 : decode cX9_chance 17 = .ok (.i2l, 1) := by decide +kernel
theorem dX9_chance_18 : decode cX9_chance 18 = .ok (.lconst 0, 1) := by decide +kernel
theorem dX9_chance_19 : decode cX9_chance 19 = .ok (.ldc2_w 171, 3) := by decide +kernel
theorem dX9_chance_22 : decode cX9_chance 22 = .ok (.invokestatic 69, 3) := by decide +kernel
theorem dX9_chance_25 : decode cX9_chance 25 = .ok (.ifCond .eq 14, 3) := by decide +kernel
theorem dX9_chance_28 : decode cX9_chance 28 = .ok (.iload 4, 2) := by decide +kernel
theorem dX9_chance_30 : decode cX9_chance 30 = .ok (.i2l, 1) := by decide +kernel
theorem dX9_chance_31 : decode cX9_chance 31 = .ok (.lconst 0, 1) := by decide +kernel
theorem dX9_chance_32 : decode cX9_chance 32 = .ok (.lconst 1, 1) := by decide +kernel
theorem dX9_chance_33 : decode cX9_chance 33 = .ok (.invokestatic 69, 3) := by decide +kernel
theorem dX9_chance_36 : decode cX9_chance 36 = .ok (.ifCond .ne 5, 3) := by decide +kernel
theorem dX9_chance_39 : decode cX9_chance 39 = .ok (.iconst (-1), 1) := by decide +kernel
theorem dX9_chance_40 : decode cX9_chance 40 = .ok (.ireturn, 1) := by decide +kernel
theorem dX9_chance_41 : decode cX9_chance 41 = .ok (.iload_n 3, 1) := by decide +kernel
theorem dX9_chance_42 : decode cX9_chance 42 = .ok (.ifCond .ne 7, 3) := by decide +kernel
theorem dX9_chance_45 : decode cX9_chance 45 = .ok (.iconst 1, 1) := by decide +kernel
theorem dX9_chance_46 : decode cX9_chance 46 = .ok (.goto 24, 3) := by decide +kernel
theorem dX9_chance_49 : decode cX9_chance 49 = .ok (.iload_n 3, 1) := by decide +kernel
theorem dX9_chance_50 : decode cX9_chance 50 = .ok (.iconst 1, 1) := by decide +kernel
theorem dX9_chance_51 : decode cX9_chance 51 = .ok (.if_icmp .ne 10, 3) := by decide +kernel
theorem dX9_chance_54 : decode cX9_chance 54 = .ok (.aload_n 0, 1) := by decide +kernel
theorem dX9_chance_55 : decode cX9_chance 55 = .ok (.invokevirtual 274, 3) := by decide +kernel
theorem dX9_chance_58 : decode cX9_chance 58 = .ok (.goto 12, 3) := by decide +kernel
theorem dX9_chance_61 : decode cX9_chance 61 = .ok (.aload_n 0, 1) := by decide +kernel
theorem dX9_chance_62 : decode cX9_chance 62 = .ok (.invokevirtual 274, 3) := by decide +kernel
theorem dX9_chance_65 : decode cX9_chance 65 = .ok (.aload_n 0, 1) := by decide +kernel
theorem dX9_chance_66 : decode cX9_chance 66 = .ok (.invokevirtual 274, 3) := by decide +kernel
theorem dX9_chance_69 : decode cX9_chance 69 = .ok (.imul, 1) := by decide +kernel
theorem dX9_chance_70 : decode cX9_chance 70 = .ok (.istore 5, 2) := by decide +kernel
theorem dX9_chance_72 : decode cX9_chance 72 = .ok (.iconst 0, 1) := by decide +kernel
theorem dX9_chance_73 : decode cX9_chance 73 = .ok (.istore 6, 2) := by decide +kernel
theorem dX9_chance_75 : decode cX9_chance 75 = .ok (.iconst 0, 1) := by decide +kernel
theorem dX9_chance_76 : decode cX9_chance 76 = .ok (.istore 7, 2) := by decide +kernel
theorem dX9_chance_78 : decode cX9_chance 78 = .ok (.iload 7, 2) := by decide +kernel
theorem dX9_chance_80 : decode cX9_chance 80 = .ok (.iload 5, 2) := by decide +kernel
theorem dX9_chance_82 : decode cX9_chance 82 = .ok (.if_icmp .ge 85, 3) := by decide +kernel
theorem dX9_chance_85 : decode cX9_chance 85 = .ok (.aload_n 0, 1) := by decide +kernel
theorem dX9_chance_86 : decode cX9_chance 86 = .ok (.invokevirtual 195, 3) := by decide +kernel
theorem dX9_chance_89 : decode cX9_chance 89 = .ok (.iload 7, 2) := by decide +kernel
theorem dX9_chance_91 : decode cX9_chance 91 = .ok (.istore 8, 2) := by decide +kernel
theorem dX9_chance_93 : decode cX9_chance 93 = .ok (.iconst 0, 1) := by decide +kernel
theorem dX9_chance_94 : decode cX9_chance 94 = .ok (.istore 9, 2) := by decide +kernel
theorem dX9_chance_96 : decode cX9_chance 96 = .ok (.iload 9, 2) := by decide +kernel
theorem dX9_chance_98 : decode cX9_chance 98 = .ok (.iload_n 3, 1) := by decide +kernel
theorem dX9_chance_99 : decode cX9_chance 99 = .ok (.if_icmp .ge 40, 3) := by decide +kernel
theorem dX9_chance_102 : decode cX9_chance 102 = .ok (.aload_n 0, 1) := by decide +kernel
theorem dX9_chance_103 : decode cX9_chance 103 = .ok (.getfield 16, 3) := by decide +kernel
theorem dX9_chance_106 : decode cX9_chance 106 = .ok (.bipush 52, 2) := by decide +kernel
theorem dX9_chance_108 : decode cX9_chance 108 = .ok (.aload_n 0, 1) := by decide +kernel
theorem dX9_chance_109 : decode cX9_chance 109 = .ok (.iload 8, 2) := by decide +kernel
theorem dX9_chance_111 : decode cX9_chance 111 = .ok (.aload_n 0, 1) := by decide +kernel
theorem dX9_chance_112 : decode cX9_chance 112 = .ok (.invokevirtual 274, 3) := by decide +kernel
theorem dX9_chance_115 : decode cX9_chance 115 = .ok (.irem, 1) := by decide +kernel
theorem dX9_chance_116 : decode cX9_chance 116 = .ok (.invokevirtual 277, 3) := by decide +kernel
theorem dX9_chance_119 : decode cX9_chance 119 = .ok (.iadd, 1) := by decide +kernel
theorem dX9_chance_120 : decode cX9_chance 120 = .ok (.iload_n 1, 1) := by decide +kernel
theorem dX9_chance_121 : decode cX9_chance 121 = .ok (.iconst 1, 1) := by decide +kernel
theorem dX9_chance_122 : decode cX9_chance 122 = .ok (.iadd, 1) := by decide +kernel
theorem dX9_chance_123 : decode cX9_chance 123 = .ok (.iastore, 1) := by decide +kernel
theorem dX9_chance_124 : decode cX9_chance 124 = .ok (.iload 8, 2) := by decide +kernel
theorem dX9_chance_126 : decode cX9_chance 126 = .ok (.aload_n 0, 1) := by decide +kernel
theorem dX9_chance_127 : decode cX9_chance 127 = .ok (.invokevirtual 274, 3) := by decide +kernel
theorem dX9_chance_130 : decode cX9_chance 130 = .ok (.idiv, 1) := by decide +kernel
theorem dX9_chance_131 : decode cX9_chance 131 = .ok (.istore 8, 2) := by decide +kernel
theorem dX9_chance_133 : decode cX9_chance 133 = .ok (.iinc 9 1, 3) := by decide +kernel
theorem dX9_chance_136 : decode cX9_chance 136 = .ok (.goto (-40), 3) := by decide +kernel
theorem dX9_chance_139 : decode cX9_chance 139 = .ok (.iload 6, 2) := by decide +kernel
theorem dX9_chance_141 : decode cX9_chance 141 = .ok (.aload_n 0, 1) := by decide +kernel
theorem dX9_chance_142 : decode cX9_chance 142 = .ok (.getfield 16, 3) := by decide +kernel
theorem dX9_chance_145 : decode cX9_chance 145 = .ok (.iload_n 1, 1) := by decide +kernel
theorem dX9_chance_146 : decode cX9_chance 146 = .ok (.iload_n 2, 1) := by decide +kernel
theorem dX9_chance_147 : decode cX9_chance 147 = .ok (.invokestatic 162, 3) := by decide +kernel
theorem dX9_chance_150 : decode cX9_chance 150 = .ok (.ifCond .eq 7, 3) := by decide +kernel
theorem dX9_chance_153 : decode cX9_chance 153 = .ok (.iconst 1, 1) := by decide +kernel
theorem dX9_chance_154 : decode cX9_chance 154 = .ok (.goto 4, 3) := by decide +kernel
theorem dX9_chance_157 : decode cX9_chance 157 = .ok (.iconst 0, 1) := by decide +kernel
theorem dX9_chance_158 : decode cX9_chance 158 = .ok (.iadd, 1) := by decide +kernel
theorem dX9_chance_159 : decode cX9_chance 159 = .ok (.istore 6, 2) := by decide +kernel
theorem dX9_chance_161 : decode cX9_chance 161 = .ok (.iinc 7 1, 3) := by decide +kernel
theorem dX9_chance_164 : decode cX9_chance 164 = .ok (.goto (-86), 3) := by decide +kernel
theorem dX9_chance_167 : decode cX9_chance 167 = .ok (.iload 6, 2) := by decide +kernel
theorem dX9_chance_169 : decode cX9_chance 169 = .ok (.istore 7, 2) := by decide +kernel
theorem dX9_chance_171 : decode cX9_chance 171 = .ok (.iload 5, 2) := by decide +kernel
theorem dX9_chance_173 : decode cX9_chance 173 = .ok (.istore 8, 2) := by decide +kernel
theorem dX9_chance_175 : decode cX9_chance 175 = .ok (.iload 8, 2) := by decide +kernel
theorem dX9_chance_177 : decode cX9_chance 177 = .ok (.ifCond .eq 21, 3) := by decide +kernel
theorem dX9_chance_180 : decode cX9_chance 180 = .ok (.iload 7, 2) := by decide +kernel
theorem dX9_chance_182 : decode cX9_chance 182 = .ok (.iload 8, 2) := by decide +kernel
theorem dX9_chance_184 : decode cX9_chance 184 = .ok (.irem, 1) := by decide +kernel
theorem dX9_chance_185 : decode cX9_chance 185 = .ok (.istore 9, 2) := by decide +kernel
theorem dX9_chance_187 : decode cX9_chance 187 = .ok (.iload 8, 2) := by decide +kernel
theorem dX9_chance_189 : decode cX9_chance 189 = .ok (.istore 7, 2) := by decide +kernel
theorem dX9_chance_191 : decode cX9_chance 191 = .ok (.iload 9, 2) := by decide +kernel
theorem dX9_chance_193 : decode cX9_chance 193 = .ok (.istore 8, 2) := by decide +kernel
theorem dX9_chance_195 : decode cX9_chance 195 = .ok (.goto (-20), 3) := by decide +kernel
theorem dX9_chance_198 : decode cX9_chance 198 = .ok (.iload 4, 2) := by decide +kernel
theorem dX9_chance_200 : decode cX9_chance 200 = .ok (.ifCond .ne 8, 3) := by decide +kernel
theorem dX9_chance_203 : decode cX9_chance 203 = .ok (.iload 6, 2) := by decide +kernel
theorem dX9_chance_205 : decode cX9_chance 205 = .ok (.goto 5, 3) := by decide +kernel
theorem dX9_chance_208 : decode cX9_chance 208 = .ok (.iload 5, 2) := by decide +kernel
theorem dX9_chance_210 : decode cX9_chance 210 = .ok (.iload 7, 2) := by decide +kernel
theorem dX9_chance_212 : decode cX9_chance 212 = .ok (.idiv, 1) := by decide +kernel
theorem dX9_chance_213 : decode cX9_chance 213 = .ok (.ireturn, 1) := by decide +kernel
def X9_chance_L96 (x3 : Int32) (x1 : Int32) : Nat → Int32 → Int32 → Rec → Option (Rec)
  | 0, _, _, _ => none
  | n96 + 1, v15, v16, Z17 => if x3 ≤ v16 then
      some Z17
    else
      (X9_cells Z17).bind fun v20 =>
      if v20 = (0 : Int32) then none else
      (X9_placeBy Z17 (v15 - v15 / v20 * v20)).bind fun v22 =>
      (wrI (Z17.2.1 2) 96 ((52 : Int32) + v22) (x1 + (1 : Int32))).bind fun w23 =>
      (X9_cells (sA Z17 2 w23)).bind fun v25 =>
      if v25 = (0 : Int32) then none else
      aLet (v15 / v25) fun v27 =>
      aLet (v16 + (1 : Int32)) fun v28 =>
      X9_chance_L96 x3 x1 n96 v27 v28 (sA Z17 2 w23)
def X9_chance_L78 (v7 : Int32) (x3 : Int32) (x1 : Int32) (x2 : Int32) : Nat → Int32 → Int32 → Rec → Option (Int32 × Rec)
  | 0, _, _, _ => none
  | n78 + 1, v8, v9, Z10 => if v7 ≤ v9 then
      some (v8, Z10)
    else
      (X9_layThen Z10).bind fun v13 =>
      (X9_chance_L96 x3 x1 aFu v9 (0 : Int32) v13).bind fun e29 =>
      (X9_can (e29.2.1 2) x1 x2).bind fun v31 =>
      if v31 = 0 then
        aLet (v8 + (0 : Int32)) fun v33 =>
        aLet (v9 + (1 : Int32)) fun v34 =>
        X9_chance_L78 v7 x3 x1 x2 n78 v33 v34 e29
      else
        aLet (v8 + (1 : Int32)) fun v35 =>
        aLet (v9 + (1 : Int32)) fun v36 =>
        X9_chance_L78 v7 x3 x1 x2 n78 v35 v36 e29
def X9_chance_L175 : Nat → Int32 → Int32 → Option (Int32)
  | 0, _, _ => none
  | n175 + 1, v39, v40 => if v40 = 0 then
      some v39
    else
      if v40 = (0 : Int32) then none else
      aLet (v39 - v39 / v40 * v40) fun v43 =>
      X9_chance_L175 n175 v40 v43
def X9_chance_J70 (x3 : Int32) (x1 : Int32) (x2 : Int32) (S0 : Rec) (x4 : Int32) (v7 : Int32) : Option (Int32 × Rec) :=
  (X9_chance_L78 v7 x3 x1 x2 aFu (0 : Int32) (0 : Int32) S0).bind fun e37 =>
  (X9_chance_L175 aFu e37.1 v7).bind fun e44 =>
  if x4 = 0 then
    if e44 = (0 : Int32) then none else
    some ((e37.1 / e44), e37.2)
  else
    if e44 = (0 : Int32) then none else
    some ((v7 / e44), e37.2)
def X9_chance (S0 : Rec) (x1 : Int32) (x2 : Int32) (x3 : Int32) (x4 : Int32) : Option (Int32 × Rec) :=
  (X9_isHolder S0 x1).bind fun v1 =>
  if v1 = 0 then
    some ((-1 : Int32), S0)
  else
    (X9_isWord S0 x2).bind fun v3 =>
    if v3 = 0 then
      some ((-1 : Int32), S0)
    else
      if (X9_in (x3.toInt64) (0 : Int64) (2 : Int64)) = 0 then
        some ((-1 : Int32), S0)
      else
        if (X9_in (x4.toInt64) (0 : Int64) (1 : Int64)) = 0 then
          some ((-1 : Int32), S0)
        else
          if x3 = 0 then
            X9_chance_J70 x3 x1 x2 S0 x4 (1 : Int32)
          else
            if x3 = (1 : Int32) then
              (X9_cells S0).bind fun v52 =>
              X9_chance_J70 x3 x1 x2 S0 x4 v52
            else
              (X9_cells S0).bind fun v50 =>
              (X9_cells S0).bind fun v51 =>
              X9_chance_J70 x3 x1 x2 S0 x4 (v50 * v51)
set_option maxRecDepth 100000 in
set_option maxHeartbeats 4000000 in
theorem X9_chance_ok (l : Launch) {h : aH} {nx : Nat} {a0 : Nat} {S0 : Rec} {x1 : Int32} {x2 : Int32} {x3 : Int32} {x4 : Int32} (hB0 : X9_at h a0 S0) {r : Int32 × Rec} (hF : X9_chance S0 x1 x2 x3 x4 = some r) : aOk l 5 0 0 yX9_chance cX9_chance 10 (some .int) [.ref a0, .int x1, .int x2, .int x3, .int x4] h nx (aMt (some (.int r.1)) nx (fun h1 => X9_at h1 a0 r.2 ∧ (∀ q, (q < a0 ∨ a0 + 20 ≤ q) → h1 q = h q))) := by
  refine aOk.of (by decide +kernel) (Nat.le_of_ble_eq_true rfl) (fun X G hX C R0 _ => ?_)
  subst hX
  show aV X G 10 0 [(0, .ref a0), (1, .int x1), (2, .int x2), (3, .int x3), (4, .int x4)] [] h nx 0 0
  have hFr : ∀ q, (q < a0 ∨ a0 + 20 ≤ q) → h q = h q := fun _ _ => rfl
  rw [X9_chance] at hF
  refine ab_aload_n C 0 rfl rfl dX9_chance_0 ?_
  refine ab_iload_n C 1 rfl rfl dX9_chance_1 ?_
  obtain ⟨v1, hxv1, hF⟩ := Option.bind_eq_some_iff.mp hF
  refine ab_cVR (v := .int v1) (st := []) C lm_X9_153 (X9_isHolder_ok (xl X) hB0 (r := v1) hxv1) [.int x1] rfl hB0.1 rfl rfl rfl (by decide) ⟨Nat.zero_le _, Nat.zero_le _⟩ (Nat.le_of_ble_eq_true rfl) dX9_chance_2 ?_
  refine ab_if_eq C 39 dX9_chance_5 (by decide) (fun c2 => ?_) (fun c2 => ?_)
  · replace hF := (if_pos c2).symm.trans hF
    refine ab_iconst (v := (-1 : Int32)) C dX9_chance_39 (by decide) ?_
    obtain rfl := Option.some.inj hF
    exact ab_iret C R0 rfl dX9_chance_40 ⟨rfl, rfl, hB0, hFr⟩
  · replace hF := (if_neg c2).symm.trans hF
    refine ab_aload_n C 0 rfl rfl dX9_chance_8 ?_
    refine ab_iload_n C 2 rfl rfl dX9_chance_9 ?_
    obtain ⟨v3, hxv3, hF⟩ := Option.bind_eq_some_iff.mp hF
    refine ab_cVR (v := .int v3) (st := []) C lm_X9_179 (X9_isWord_ok (xl X) hB0 (r := v3) hxv3) [.int x2] rfl hB0.1 rfl rfl rfl (by decide) ⟨Nat.zero_le _, Nat.zero_le _⟩ (Nat.le_of_ble_eq_true rfl) dX9_chance_10 ?_
    refine ab_if_eq C 39 dX9_chance_13 (by decide) (fun c4 => ?_) (fun c4 => ?_)
    · replace hF := (if_pos c4).symm.trans hF
      refine ab_iconst (v := (-1 : Int32)) C dX9_chance_39 (by decide) ?_
      obtain rfl := Option.some.inj hF
      exact ab_iret C R0 rfl dX9_chance_40 ⟨rfl, rfl, hB0, hFr⟩
    · replace hF := (if_neg c4).symm.trans hF
      refine ab_iload_n C 3 rfl rfl dX9_chance_16 ?_
      refine ab_i2l C dX9_chance_17 ?_
      refine ab_lconst (v := (0 : Int64)) C dX9_chance_18 (by decide) ?_
      refine ab_ldc2 (v := (2 : Int64)) C dX9_chance_19 lq_X9_171 ?_
      refine ab_cSR (v := .int (X9_in (x3.toInt64) (0 : Int64) (2 : Int64))) (st := []) C lm_X9_69 (X9_in_ok (xl X) (r := (X9_in (x3.toInt64) (0 : Int64) (2 : Int64))) rfl) rfl rfl (by decide) ⟨Nat.zero_le _, Nat.zero_le _⟩ (Nat.le_of_ble_eq_true rfl) dX9_chance_22 ?_
      refine ab_if_eq C 39 dX9_chance_25 (by decide) (fun c5 => ?_) (fun c5 => ?_)
      · replace hF := (if_pos c5).symm.trans hF
        refine ab_iconst (v := (-1 : Int32)) C dX9_chance_39 (by decide) ?_
        obtain rfl := Option.some.inj hF
        exact ab_iret C R0 rfl dX9_chance_40 ⟨rfl, rfl, hB0, hFr⟩
      · replace hF := (if_neg c5).symm.trans hF
        refine ab_iload C 4 rfl dX9_chance_28 ?_
        refine ab_i2l C dX9_chance_30 ?_
        refine ab_lconst (v := (0 : Int64)) C dX9_chance_31 (by decide) ?_
        refine ab_lconst (v := (1 : Int64)) C dX9_chance_32 (by decide) ?_
        refine ab_cSR (v := .int (X9_in (x4.toInt64) (0 : Int64) (1 : Int64))) (st := []) C lm_X9_69 (X9_in_ok (xl X) (r := (X9_in (x4.toInt64) (0 : Int64) (1 : Int64))) rfl) rfl rfl (by decide) ⟨Nat.zero_le _, Nat.zero_le _⟩ (Nat.le_of_ble_eq_true rfl) dX9_chance_33 ?_
        refine ab_if_ne C 41 dX9_chance_36 (by decide) (fun c6 => ?_) (fun c6 => ?_)
        · replace hF := (if_neg c6).symm.trans hF
          refine ab_iload_n C 3 rfl rfl dX9_chance_41 ?_
          have J70 : ∀ (v7 : Int32), X9_chance_J70 x3 x1 x2 S0 x4 v7 = some r → aV X G 10 70 [(0, .ref a0), (1, .int x1), (2, .int x2), (3, .int x3), (4, .int x4)] [.int v7] h nx 0 0 := by
            intro v7 hF
            rw [X9_chance_J70] at hF
            refine ab_istore (lv' := [(5, .int v7), (0, .ref a0), (1, .int x1), (2, .int x2), (3, .int x3), (4, .int x4)]) C dX9_chance_70 (by decide) rfl ?_
            refine ab_iconst (v := (0 : Int32)) C dX9_chance_72 (by decide) ?_
            refine ab_istore (lv' := [(6, .int (0 : Int32)), (5, .int v7), (0, .ref a0), (1, .int x1), (2, .int x2), (3, .int x3), (4, .int x4)]) C dX9_chance_73 (by decide) rfl ?_
            refine ab_iconst (v := (0 : Int32)) C dX9_chance_75 (by decide) ?_
            refine ab_istore (lv' := [(7, .int (0 : Int32)), (6, .int (0 : Int32)), (5, .int v7), (0, .ref a0), (1, .int x1), (2, .int x2), (3, .int x3), (4, .int x4)]) C dX9_chance_76 (by decide) rfl ?_
            have L78 : ∀ (n78 : Nat) (v8 : Int32) (v9 : Int32) (Z10 : Rec) (g11 : aH), (X9_at g11 a0 Z10) → (∀ q, (q < a0 ∨ a0 + 20 ≤ q) → g11 q = h q) → ∀ (res78 : Int32 × Rec), X9_chance_L78 v7 x3 x1 x2 n78 v8 v9 Z10 = some res78 → (∀ (q9 : aH), (X9_at q9 a0 res78.2) → (∀ q, (q < a0 ∨ a0 + 20 ≤ q) → q9 q = h q) → aV X G 10 167 [(4, .int x4), (5, .int v7), (6, .int res78.1)] [] q9 nx 0 0) → aV X G 10 78 [(0, .ref a0), (1, .int x1), (2, .int x2), (3, .int x3), (4, .int x4), (5, .int v7), (6, .int v8), (7, .int v9)] [] g11 nx 0 0 := by
              intro n78
              induction n78 with
              | zero => intro v8 v9 Z10 g11 hB0 hFr res78 hF KX78; cases (show (none : Option (Int32 × Rec)) = some res78 from hF)
              | succ n78 ih78 =>
                intro v8 v9 Z10 g11 hB0 hFr res78 hF KX78
                rw [X9_chance_L78] at hF
                refine ab_iload C 7 rfl dX9_chance_78 ?_
                refine ab_iload C 5 rfl dX9_chance_80 ?_
                refine ab_icmp_ge C 167 dX9_chance_82 (by decide) (fun c12 => ?_) (fun c12 => ?_)
                · replace hF := (if_pos c12).symm.trans hF
                  obtain rfl := Option.some.inj hF
                  refine aV.sub (lv' := [(4, .int x4), (5, .int v7), (6, .int v8)]) [4, 5, 6] rfl ?_
                  exact KX78 g11 hB0 hFr
                · replace hF := (if_neg c12).symm.trans hF
                  refine ab_aload_n C 0 rfl rfl dX9_chance_85 ?_
                  obtain ⟨v13, hxv13, hF⟩ := Option.bind_eq_some_iff.mp hF
                  refine ab_cVN (st := []) C lm_X9_195 (X9_layThen_ok (xl X) hB0 (r := v13) hxv13) [] rfl hB0.1 rfl rfl rfl (by decide) ⟨Nat.zero_le _, Nat.zero_le _⟩ (Nat.le_of_ble_eq_true rfl) dX9_chance_86 (fun g14 pg14 => ?_)
                  obtain ⟨k0, Og14⟩ := pg14
                  have hB0 : X9_at g14 a0 v13 := k0
                  have hFr : ∀ q, (q < a0 ∨ a0 + 20 ≤ q) → g14 q = h q := fun q u0 => (Og14 q (by omega)).trans (hFr q u0)
                  refine ab_iload C 7 rfl dX9_chance_89 ?_
                  refine ab_istore (lv' := [(8, .int v9), (0, .ref a0), (1, .int x1), (2, .int x2), (3, .int x3), (4, .int x4), (5, .int v7), (6, .int v8), (7, .int v9)]) C dX9_chance_91 (by decide) rfl ?_
                  refine ab_iconst (v := (0 : Int32)) C dX9_chance_93 (by decide) ?_
                  refine ab_istore (lv' := [(9, .int (0 : Int32)), (8, .int v9), (0, .ref a0), (1, .int x1), (2, .int x2), (3, .int x3), (4, .int x4), (5, .int v7), (6, .int v8), (7, .int v9)]) C dX9_chance_94 (by decide) rfl ?_
                  have L96 : ∀ (n96 : Nat) (v15 : Int32) (v16 : Int32) (Z17 : Rec) (g18 : aH), (X9_at g18 a0 Z17) → (∀ q, (q < a0 ∨ a0 + 20 ≤ q) → g18 q = h q) → ∀ (res96 : Rec), X9_chance_L96 x3 x1 n96 v15 v16 Z17 = some res96 → (∀ (q9 : aH), (X9_at q9 a0 res96) → (∀ q, (q < a0 ∨ a0 + 20 ≤ q) → q9 q = h q) → aV X G 10 139 [(0, .ref a0), (1, .int x1), (2, .int x2), (3, .int x3), (4, .int x4), (5, .int v7), (6, .int v8), (7, .int v9)] [] q9 nx 0 0) → aV X G 10 96 [(0, .ref a0), (1, .int x1), (2, .int x2), (3, .int x3), (4, .int x4), (5, .int v7), (6, .int v8), (7, .int v9), (8, .int v15), (9, .int v16)] [] g18 nx 0 0 := by
                    intro n96
                    induction n96 with
                    | zero => intro v15 v16 Z17 g18 hB0 hFr res96 hF KX96; cases (show (none : Option (Rec)) = some res96 from hF)
                    | succ n96 ih96 =>
                      intro v15 v16 Z17 g18 hB0 hFr res96 hF KX96
                      rw [X9_chance_L96] at hF
                      refine ab_iload C 9 rfl dX9_chance_96 ?_
                      refine ab_iload_n C 3 rfl rfl dX9_chance_98 ?_
                      refine ab_icmp_ge C 139 dX9_chance_99 (by decide) (fun c19 => ?_) (fun c19 => ?_)
                      · replace hF := (if_pos c19).symm.trans hF
                        obtain rfl := Option.some.inj hF
                        refine aV.sub (lv' := [(0, .ref a0), (1, .int x1), (2, .int x2), (3, .int x3), (4, .int x4), (5, .int v7), (6, .int v8), (7, .int v9)]) [0, 1, 2, 3, 4, 5, 6, 7] rfl ?_
                        exact KX96 g18 hB0 hFr
                      · replace hF := (if_neg c19).symm.trans hF
                        refine ab_aload_n C 0 rfl rfl dX9_chance_102 ?_
                        refine ab_g9 (v := .ref (a0 + 3)) C lf_X9_16 hB0.1 rfl dX9_chance_103 ?_
                        refine ab_bipush (v := (52 : Int32)) C dX9_chance_106 (by decide) ?_
                        refine ab_aload_n C 0 rfl rfl dX9_chance_108 ?_
                        refine ab_iload C 8 rfl dX9_chance_109 ?_
                        refine ab_aload_n C 0 rfl rfl dX9_chance_111 ?_
                        obtain ⟨v20, hxv20, hF⟩ := Option.bind_eq_some_iff.mp hF
                        refine ab_cVR (v := .int v20) (st := [.int v15, .ref a0, .int (52 : Int32), .ref (a0 + 3)]) C lm_X9_274 (X9_cells_ok (xl X) hB0 (r := v20) hxv20) [] rfl hB0.1 rfl rfl rfl (by decide) ⟨Nat.zero_le _, Nat.zero_le _⟩ (Nat.le_of_ble_eq_true rfl) dX9_chance_112 ?_
                        rcases Classical.em (v20 = (0 : Int32)) with c21 | c21
                        · replace hF := (if_pos c21).symm.trans hF
                          cases hF
                        replace hF := (if_neg c21).symm.trans hF
                        refine ab_irem C c21 dX9_chance_115 ?_
                        obtain ⟨v22, hxv22, hF⟩ := Option.bind_eq_some_iff.mp hF
                        refine ab_cVR (v := .int v22) (st := [.int (52 : Int32), .ref (a0 + 3)]) C lm_X9_277 (X9_placeBy_ok (xl X) hB0 (r := v22) hxv22) [.int (v15 - v15 / v20 * v20)] rfl hB0.1 rfl rfl rfl (by decide) ⟨Nat.zero_le _, Nat.zero_le _⟩ (Nat.le_of_ble_eq_true rfl) dX9_chance_116 ?_
                        refine ab_iadd C dX9_chance_119 ?_
                        refine ab_iload_n C 1 rfl rfl dX9_chance_120 ?_
                        refine ab_iconst (v := (1 : Int32)) C dX9_chance_121 (by decide) ?_
                        refine ab_iadd C dX9_chance_122 ?_
                        obtain ⟨w23, hxw23, hF⟩ := Option.bind_eq_some_iff.mp hF
                        refine ab_iast C (X9_r2 hB0) hxw23 dX9_chance_123 (fun g24 eg24 og24 => ?_)
                        have hB0 : X9_at g24 a0 (sA Z17 2 w23) := X9_w2 hB0 eg24 og24
                        have hFr : ∀ q, (q < a0 ∨ a0 + 20 ≤ q) → g24 q = h q := fun q u0 => (og24 q (by omega)).trans (hFr q u0)
                        refine ab_iload C 8 rfl dX9_chance_124 ?_
                        refine ab_aload_n C 0 rfl rfl dX9_chance_126 ?_
                        obtain ⟨v25, hxv25, hF⟩ := Option.bind_eq_some_iff.mp hF
                        refine ab_cVR (v := .int v25) (st := [.int v15]) C lm_X9_274 (X9_cells_ok (xl X) hB0 (r := v25) hxv25) [] rfl hB0.1 rfl rfl rfl (by decide) ⟨Nat.zero_le _, Nat.zero_le _⟩ (Nat.le_of_ble_eq_true rfl) dX9_chance_127 ?_
                        rcases Classical.em (v25 = (0 : Int32)) with c26 | c26
                        · replace hF := (if_pos c26).symm.trans hF
                          cases hF
                        replace hF := (if_neg c26).symm.trans hF
                        refine ab_idiv C c26 dX9_chance_130 ?_
                        refine ab_topi (fun v27 qv27 => ?_)
                        replace hF := aLet_e hF v27 qv27
                        refine ab_istore (lv' := [(8, .int v27), (0, .ref a0), (1, .int x1), (2, .int x2), (3, .int x3), (4, .int x4), (5, .int v7), (6, .int v8), (7, .int v9), (9, .int v16)]) C dX9_chance_131 (by decide) rfl ?_
                        obtain ⟨v28, qv28⟩ : ∃ y : Int32, y = (v16 + (1 : Int32)) := ⟨_, rfl⟩
                        replace hF := aLet_e hF v28 qv28
                        refine ab_iinc (lv' := [(9, .int v28), (8, .int v27), (0, .ref a0), (1, .int x1), (2, .int x2), (3, .int x3), (4, .int x4), (5, .int v7), (6, .int v8), (7, .int v9)]) C 9 rfl dX9_chance_133 (by rw [qv28]; rfl) (by decide) rfl ?_
                        refine ab_goto C 96 dX9_chance_136 (by decide) ?_
                        refine aV.sub (lv' := [(0, .ref a0), (1, .int x1), (2, .int x2), (3, .int x3), (4, .int x4), (5, .int v7), (6, .int v8), (7, .int v9), (8, .int v27), (9, .int v28)]) [2, 3, 4, 5, 6, 7, 8, 9, 1, 0] rfl ?_
                        exact ih96 v27 v28 (sA Z17 2 w23) g24 hB0 hFr res96 hF KX96
                  refine aV.sub (lv' := [(0, .ref a0), (1, .int x1), (2, .int x2), (3, .int x3), (4, .int x4), (5, .int v7), (6, .int v8), (7, .int v9), (8, .int v9), (9, .int (0 : Int32))]) [2, 3, 4, 5, 6, 7, 8, 9, 1, 0] rfl ?_
                  obtain ⟨e29, he29, hF⟩ := Option.bind_eq_some_iff.mp hF
                  refine L96 aFu v9 (0 : Int32) v13 g14 hB0 hFr e29 he29 (fun g30 hB0 hFr => ?_)
                  refine ab_iload C 6 rfl dX9_chance_139 ?_
                  refine ab_aload_n C 0 rfl rfl dX9_chance_141 ?_
                  refine ab_g9 (v := .ref (a0 + 3)) C lf_X9_16 hB0.1 rfl dX9_chance_142 ?_
                  refine ab_iload_n C 1 rfl rfl dX9_chance_145 ?_
                  refine ab_iload_n C 2 rfl rfl dX9_chance_146 ?_
                  obtain ⟨v31, hxv31, hF⟩ := Option.bind_eq_some_iff.mp hF
                  refine ab_cSR (v := .int v31) (st := [.int v8]) C lm_X9_162 (X9_can_ok (xl X) (X9_r2 hB0) (r := v31) hxv31) rfl rfl (by decide) ⟨Nat.zero_le _, Nat.zero_le _⟩ (Nat.le_of_ble_eq_true rfl) dX9_chance_147 ?_
                  refine ab_if_eq C 157 dX9_chance_150 (by decide) (fun c32 => ?_) (fun c32 => ?_)
                  · replace hF := (if_pos c32).symm.trans hF
                    refine ab_iconst (v := (0 : Int32)) C dX9_chance_157 (by decide) ?_
                    refine ab_iadd C dX9_chance_158 ?_
                    refine ab_topi (fun v33 qv33 => ?_)
                    replace hF := aLet_e hF v33 qv33
                    refine ab_istore (lv' := [(6, .int v33), (0, .ref a0), (1, .int x1), (2, .int x2), (3, .int x3), (4, .int x4), (5, .int v7), (7, .int v9)]) C dX9_chance_159 (by decide) rfl ?_
                    obtain ⟨v34, qv34⟩ : ∃ y : Int32, y = (v9 + (1 : Int32)) := ⟨_, rfl⟩
                    replace hF := aLet_e hF v34 qv34
                    refine ab_iinc (lv' := [(7, .int v34), (6, .int v33), (0, .ref a0), (1, .int x1), (2, .int x2), (3, .int x3), (4, .int x4), (5, .int v7)]) C 7 rfl dX9_chance_161 (by rw [qv34]; rfl) (by decide) rfl ?_
                    refine ab_goto C 78 dX9_chance_164 (by decide) ?_
                    refine aV.sub (lv' := [(0, .ref a0), (1, .int x1), (2, .int x2), (3, .int x3), (4, .int x4), (5, .int v7), (6, .int v33), (7, .int v34)]) [2, 3, 4, 5, 6, 7, 1, 0] rfl ?_
                    exact ih78 v33 v34 e29 g30 hB0 hFr res78 hF KX78
                  · replace hF := (if_neg c32).symm.trans hF
                    refine ab_iconst (v := (1 : Int32)) C dX9_chance_153 (by decide) ?_
                    refine ab_goto C 158 dX9_chance_154 (by decide) ?_
                    refine ab_iadd C dX9_chance_158 ?_
                    refine ab_topi (fun v35 qv35 => ?_)
                    replace hF := aLet_e hF v35 qv35
                    refine ab_istore (lv' := [(6, .int v35), (0, .ref a0), (1, .int x1), (2, .int x2), (3, .int x3), (4, .int x4), (5, .int v7), (7, .int v9)]) C dX9_chance_159 (by decide) rfl ?_
                    obtain ⟨v36, qv36⟩ : ∃ y : Int32, y = (v9 + (1 : Int32)) := ⟨_, rfl⟩
                    replace hF := aLet_e hF v36 qv36
                    refine ab_iinc (lv' := [(7, .int v36), (6, .int v35), (0, .ref a0), (1, .int x1), (2, .int x2), (3, .int x3), (4, .int x4), (5, .int v7)]) C 7 rfl dX9_chance_161 (by rw [qv36]; rfl) (by decide) rfl ?_
                    refine ab_goto C 78 dX9_chance_164 (by decide) ?_
                    refine aV.sub (lv' := [(0, .ref a0), (1, .int x1), (2, .int x2), (3, .int x3), (4, .int x4), (5, .int v7), (6, .int v35), (7, .int v36)]) [2, 3, 4, 5, 6, 7, 1, 0] rfl ?_
                    exact ih78 v35 v36 e29 g30 hB0 hFr res78 hF KX78
            refine aV.sub (lv' := [(0, .ref a0), (1, .int x1), (2, .int x2), (3, .int x3), (4, .int x4), (5, .int v7), (6, .int (0 : Int32)), (7, .int (0 : Int32))]) [3, 4, 5, 6, 7, 2, 1, 0] rfl ?_
            obtain ⟨e37, he37, hF⟩ := Option.bind_eq_some_iff.mp hF
            refine L78 aFu (0 : Int32) (0 : Int32) S0 h hB0 hFr e37 he37 (fun g38 hB0 hFr => ?_)
            refine ab_iload C 2 rfl dX9_chance_167 ?_
            refine ab_istore (lv' := [(7, .int e37.1), (4, .int x4), (5, .int v7), (6, .int e37.1)]) C dX9_chance_169 (by decide) rfl ?_
            refine ab_iload C 2 rfl dX9_chance_171 ?_
            refine ab_istore (lv' := [(8, .int v7), (7, .int e37.1), (4, .int x4), (5, .int v7), (6, .int e37.1)]) C dX9_chance_173 (by decide) rfl ?_
            have L175 : ∀ (n175 : Nat) (v39 : Int32) (v40 : Int32), ∀ (res175 : Int32), X9_chance_L175 n175 v39 v40 = some res175 → (aV X G 10 198 [(4, .int x4), (5, .int v7), (6, .int e37.1), (7, .int res175)] [] g38 nx 0 0) → aV X G 10 175 [(4, .int x4), (5, .int v7), (6, .int e37.1), (7, .int v39), (8, .int v40)] [] g38 nx 0 0 := by
              intro n175
              induction n175 with
              | zero => intro v39 v40 res175 hF KX175; cases (show (none : Option (Int32)) = some res175 from hF)
              | succ n175 ih175 =>
                intro v39 v40 res175 hF KX175
                rw [X9_chance_L175] at hF
                refine ab_iload C 4 rfl dX9_chance_175 ?_
                refine ab_if_eq C 198 dX9_chance_177 (by decide) (fun c41 => ?_) (fun c41 => ?_)
                · replace hF := (if_pos c41).symm.trans hF
                  obtain rfl := Option.some.inj hF
                  refine aV.sub (lv' := [(4, .int x4), (5, .int v7), (6, .int e37.1), (7, .int v39)]) [0, 1, 2, 3] rfl ?_
                  exact KX175
                · replace hF := (if_neg c41).symm.trans hF
                  refine ab_iload C 3 rfl dX9_chance_180 ?_
                  refine ab_iload C 4 rfl dX9_chance_182 ?_
                  rcases Classical.em (v40 = (0 : Int32)) with c42 | c42
                  · replace hF := (if_pos c42).symm.trans hF
                    cases hF
                  replace hF := (if_neg c42).symm.trans hF
                  refine ab_irem C c42 dX9_chance_184 ?_
                  refine ab_topi (fun v43 qv43 => ?_)
                  replace hF := aLet_e hF v43 qv43
                  refine ab_istore (lv' := [(9, .int v43), (4, .int x4), (5, .int v7), (6, .int e37.1), (7, .int v39), (8, .int v40)]) C dX9_chance_185 (by decide) rfl ?_
                  refine ab_iload C 5 rfl dX9_chance_187 ?_
                  refine ab_istore (lv' := [(7, .int v40), (9, .int v43), (4, .int x4), (5, .int v7), (6, .int e37.1), (8, .int v40)]) C dX9_chance_189 (by decide) rfl ?_
                  refine ab_iload C 1 rfl dX9_chance_191 ?_
                  refine ab_istore (lv' := [(8, .int v43), (7, .int v40), (9, .int v43), (4, .int x4), (5, .int v7), (6, .int e37.1)]) C dX9_chance_193 (by decide) rfl ?_
                  refine ab_goto C 175 dX9_chance_195 (by decide) ?_
                  refine aV.sub (lv' := [(4, .int x4), (5, .int v7), (6, .int e37.1), (7, .int v40), (8, .int v43)]) [3, 4, 5, 1, 0] rfl ?_
                  exact ih175 v40 v43 res175 hF KX175
            refine aV.sub (lv' := [(4, .int x4), (5, .int v7), (6, .int e37.1), (7, .int e37.1), (8, .int v7)]) [2, 3, 4, 1, 0] rfl ?_
            obtain ⟨e44, he44, hF⟩ := Option.bind_eq_some_iff.mp hF
            refine L175 aFu e37.1 v7 e44 he44 ?_
            refine ab_iload C 0 rfl dX9_chance_198 ?_
            refine ab_if_ne C 208 dX9_chance_200 (by decide) (fun c45 => ?_) (fun c45 => ?_)
            · replace hF := (if_neg c45).symm.trans hF
              refine ab_iload C 1 rfl dX9_chance_208 ?_
              refine ab_iload C 3 rfl dX9_chance_210 ?_
              rcases Classical.em (e44 = (0 : Int32)) with c46 | c46
              · replace hF := (if_pos c46).symm.trans hF
                cases hF
              replace hF := (if_neg c46).symm.trans hF
              refine ab_idiv C c46 dX9_chance_212 ?_
              obtain rfl := Option.some.inj hF
              exact ab_iret C R0 rfl dX9_chance_213 ⟨rfl, rfl, hB0, hFr⟩
            · replace hF := (if_pos c45).symm.trans hF
              refine ab_iload C 2 rfl dX9_chance_203 ?_
              refine ab_goto C 210 dX9_chance_205 (by decide) ?_
              refine ab_iload C 3 rfl dX9_chance_210 ?_
              rcases Classical.em (e44 = (0 : Int32)) with c47 | c47
              · replace hF := (if_pos c47).symm.trans hF
                cases hF
              replace hF := (if_neg c47).symm.trans hF
              refine ab_idiv C c47 dX9_chance_212 ?_
              obtain rfl := Option.some.inj hF
              exact ab_iret C R0 rfl dX9_chance_213 ⟨rfl, rfl, hB0, hFr⟩
          refine ab_if_ne C 49 dX9_chance_42 (by decide) (fun c48 => ?_) (fun c48 => ?_)
          · replace hF := (if_neg c48).symm.trans hF
            refine ab_iload_n C 3 rfl rfl dX9_chance_49 ?_
            refine ab_iconst (v := (1 : Int32)) C dX9_chance_50 (by decide) ?_
            refine ab_icmp_ne C 61 dX9_chance_51 (by decide) (fun c49 => ?_) (fun c49 => ?_)
            · replace hF := (if_neg c49).symm.trans hF
              refine ab_aload_n C 0 rfl rfl dX9_chance_61 ?_
              obtain ⟨v50, hxv50, hF⟩ := Option.bind_eq_some_iff.mp hF
              refine ab_cVR (v := .int v50) (st := []) C lm_X9_274 (X9_cells_ok (xl X) hB0 (r := v50) hxv50) [] rfl hB0.1 rfl rfl rfl (by decide) ⟨Nat.zero_le _, Nat.zero_le _⟩ (Nat.le_of_ble_eq_true rfl) dX9_chance_62 ?_
              refine ab_aload_n C 0 rfl rfl dX9_chance_65 ?_
              obtain ⟨v51, hxv51, hF⟩ := Option.bind_eq_some_iff.mp hF
              refine ab_cVR (v := .int v51) (st := [.int v50]) C lm_X9_274 (X9_cells_ok (xl X) hB0 (r := v51) hxv51) [] rfl hB0.1 rfl rfl rfl (by decide) ⟨Nat.zero_le _, Nat.zero_le _⟩ (Nat.le_of_ble_eq_true rfl) dX9_chance_66 ?_
              refine ab_imul C dX9_chance_69 ?_
              exact J70 (v50 * v51) hF
            · replace hF := (if_pos c49).symm.trans hF
              refine ab_aload_n C 0 rfl rfl dX9_chance_54 ?_
              obtain ⟨v52, hxv52, hF⟩ := Option.bind_eq_some_iff.mp hF
              refine ab_cVR (v := .int v52) (st := []) C lm_X9_274 (X9_cells_ok (xl X) hB0 (r := v52) hxv52) [] rfl hB0.1 rfl rfl rfl (by decide) ⟨Nat.zero_le _, Nat.zero_le _⟩ (Nat.le_of_ble_eq_true rfl) dX9_chance_55 ?_
              refine ab_goto C 70 dX9_chance_58 (by decide) ?_
              exact J70 v52 hF
          · replace hF := (if_pos c48).symm.trans hF
            refine ab_iconst (v := (1 : Int32)) C dX9_chance_45 (by decide) ?_
            refine ab_goto C 70 dX9_chance_46 (by decide) ?_
            exact J70 (1 : Int32) hF
        · replace hF := (if_pos c6).symm.trans hF
          refine ab_iconst (v := (-1 : Int32)) C dX9_chance_39 (by decide) ?_
          obtain rfl := Option.some.inj hF
          exact ab_iret C R0 rfl dX9_chance_40 ⟨rfl, rfl, hB0, hFr⟩
theorem dX9_nobodys_0 : decode cX9_nobodys 0 = .ok (.iconst 0, 1) := by decide +kernel
theorem dX9_nobodys_1 : decode cX9_nobodys 1 = .ok (.istore_n 1, 1) := by decide +kernel
theorem dX9_nobodys_2 : decode cX9_nobodys 2 = .ok (.iconst 0, 1) := by decide +kernel
theorem dX9_nobodys_3 : decode cX9_nobodys 3 = .ok (.istore_n 2, 1) := by decide +kernel
theorem dX9_nobodys_4 : decode cX9_nobodys 4 = .ok (.iload_n 2, 1) := by decide +kernel
theorem dX9_nobodys_5 : decode cX9_nobodys 5 = .ok (.bipush 36, 2) := by decide +kernel
theorem dX9_nobodys_7 : decode cX9_nobodys 7 = .ok (.if_icmp .ge 34, 3) := by decide +kernel
theorem dX9_nobodys_10 : decode cX9_nobodys 10 = .ok (.iload_n 1, 1) := by decide +kernel
theorem dX9_nobodys_11 : decode cX9_nobodys 11 = .ok (.aload_n 0, 1) := by decide +kernel
theorem dX9_nobodys_12 : decode cX9_nobodys 12 = .ok (.iload_n 2, 1) := by decide +kernel
theorem dX9_nobodys_13 : decode cX9_nobodys 13 = .ok (.invokestatic 133, 3) := by decide +kernel
theorem dX9_nobodys_16 : decode cX9_nobodys 16 = .ok (.ifCond .eq 16, 3) := by decide +kernel
theorem dX9_nobodys_19 : decode cX9_nobodys 19 = .ok (.aload_n 0, 1) := by decide +kernel
theorem dX9_nobodys_20 : decode cX9_nobodys 20 = .ok (.bipush 52, 2) := by decide +kernel
theorem dX9_nobodys_22 : decode cX9_nobodys 22 = .ok (.iload_n 2, 1) := by decide +kernel
theorem dX9_nobodys_23 : decode cX9_nobodys 23 = .ok (.iadd, 1) := by decide +kernel
theorem dX9_nobodys_24 : decode cX9_nobodys 24 = .ok (.iaload, 1) := by decide +kernel
theorem dX9_nobodys_25 : decode cX9_nobodys 25 = .ok (.ifCond .ne 7, 3) := by decide +kernel
theorem dX9_nobodys_28 : decode cX9_nobodys 28 = .ok (.iconst 1, 1) := by decide +kernel
theorem dX9_nobodys_29 : decode cX9_nobodys 29 = .ok (.goto 4, 3) := by decide +kernel
theorem dX9_nobodys_32 : decode cX9_nobodys 32 = .ok (.iconst 0, 1) := by decide +kernel
theorem dX9_nobodys_33 : decode cX9_nobodys 33 = .ok (.iadd, 1) := by decide +kernel
theorem dX9_nobodys_34 : decode cX9_nobodys 34 = .ok (.istore_n 1, 1) := by decide +kernel
theorem dX9_nobodys_35 : decode cX9_nobodys 35 = .ok (.iinc 2 1, 3) := by decide +kernel
theorem dX9_nobodys_38 : decode cX9_nobodys 38 = .ok (.goto (-34), 3) := by decide +kernel
theorem dX9_nobodys_41 : decode cX9_nobodys 41 = .ok (.iload_n 1, 1) := by decide +kernel
theorem dX9_nobodys_42 : decode cX9_nobodys 42 = .ok (.ireturn, 1) := by decide +kernel
def X9_nobodys_L4 (f0 : (Nat → Int32)) : Nat → Int32 → Int32 → Option (Int32)
  | 0, _, _ => none
  | n4 + 1, v1, v2 => if (36 : Int32) ≤ v2 then
      some v1
    else
      (X9_isIn f0 v2).bind fun v4 =>
      if v4 = 0 then
        aLet (v1 + (0 : Int32)) fun v6 =>
        aLet (v2 + (1 : Int32)) fun v7 =>
        X9_nobodys_L4 f0 n4 v6 v7
      else
        (rdI f0 96 ((52 : Int32) + v2)).bind fun v8 =>
        if v8 = 0 then
          aLet (v1 + (1 : Int32)) fun v12 =>
          aLet (v2 + (1 : Int32)) fun v13 =>
          X9_nobodys_L4 f0 n4 v12 v13
        else
          aLet (v1 + (0 : Int32)) fun v10 =>
          aLet (v2 + (1 : Int32)) fun v11 =>
          X9_nobodys_L4 f0 n4 v10 v11
def X9_nobodys (f0 : (Nat → Int32)) : Option (Int32) :=
  (X9_nobodys_L4 f0 aFu (0 : Int32) (0 : Int32)).bind fun e14 =>
  some e14
set_option maxRecDepth 100000 in
set_option maxHeartbeats 4000000 in
theorem X9_nobodys_ok (l : Launch) {h : aH} {nx : Nat} {a0 : Nat} {f0 : (Nat → Int32)} (hB0 : row_at h a0 f0) {r : Int32} (hF : X9_nobodys f0 = some r) : aOk l 1 0 0 yX9_nobodys cX9_nobodys 3 (some .int) [.ref a0] h nx (aRd (.int r) h nx) := by
  refine aOk.of (by decide +kernel) (Nat.le_of_ble_eq_true rfl) (fun X G hX C R0 _ => ?_)
  subst hX
  show aV X G 3 0 [(0, .ref a0)] [] h nx 0 0
  rw [X9_nobodys] at hF
  refine ab_iconst (v := (0 : Int32)) C dX9_nobodys_0 (by decide) ?_
  refine ab_istore_n (lv' := [(1, .int (0 : Int32)), (0, .ref a0)]) C dX9_nobodys_1 rfl (by decide) rfl ?_
  refine ab_iconst (v := (0 : Int32)) C dX9_nobodys_2 (by decide) ?_
  refine ab_istore_n (lv' := [(2, .int (0 : Int32)), (1, .int (0 : Int32)), (0, .ref a0)]) C dX9_nobodys_3 rfl (by decide) rfl ?_
  have L4 : ∀ (n4 : Nat) (v1 : Int32) (v2 : Int32), ∀ (res4 : Int32), X9_nobodys_L4 f0 n4 v1 v2 = some res4 → (aV X G 3 41 [(1, .int res4)] [] h nx 0 0) → aV X G 3 4 [(0, .ref a0), (1, .int v1), (2, .int v2)] [] h nx 0 0 := by
    intro n4
    induction n4 with
    | zero => intro v1 v2 res4 hF KX4; cases (show (none : Option (Int32)) = some res4 from hF)
    | succ n4 ih4 =>
      intro v1 v2 res4 hF KX4
      rw [X9_nobodys_L4] at hF
      refine ab_iload_n C 2 rfl rfl dX9_nobodys_4 ?_
      refine ab_bipush (v := (36 : Int32)) C dX9_nobodys_5 (by decide) ?_
      refine ab_icmp_ge C 41 dX9_nobodys_7 (by decide) (fun c3 => ?_) (fun c3 => ?_)
      · replace hF := (if_pos c3).symm.trans hF
        obtain rfl := Option.some.inj hF
        refine aV.sub (lv' := [(1, .int v1)]) [1] rfl ?_
        exact KX4
      · replace hF := (if_neg c3).symm.trans hF
        refine ab_iload_n C 1 rfl rfl dX9_nobodys_10 ?_
        refine ab_aload_n C 0 rfl rfl dX9_nobodys_11 ?_
        refine ab_iload_n C 2 rfl rfl dX9_nobodys_12 ?_
        obtain ⟨v4, hxv4, hF⟩ := Option.bind_eq_some_iff.mp hF
        refine ab_cSR (v := .int v4) (st := [.int v1]) C lm_X9_133 (X9_isIn_ok (xl X) hB0 (r := v4) hxv4) rfl rfl (by decide) ⟨Nat.zero_le _, Nat.zero_le _⟩ (Nat.le_of_ble_eq_true rfl) dX9_nobodys_13 ?_
        refine ab_if_eq C 32 dX9_nobodys_16 (by decide) (fun c5 => ?_) (fun c5 => ?_)
        · replace hF := (if_pos c5).symm.trans hF
          refine ab_iconst (v := (0 : Int32)) C dX9_nobodys_32 (by decide) ?_
          refine ab_iadd C dX9_nobodys_33 ?_
          refine ab_topi (fun v6 qv6 => ?_)
          replace hF := aLet_e hF v6 qv6
          refine ab_istore_n (lv' := [(1, .int v6), (0, .ref a0), (2, .int v2)]) C dX9_nobodys_34 rfl (by decide) rfl ?_
          obtain ⟨v7, qv7⟩ : ∃ y : Int32, y = (v2 + (1 : Int32)) := ⟨_, rfl⟩
          replace hF := aLet_e hF v7 qv7
          refine ab_iinc (lv' := [(2, .int v7), (1, .int v6), (0, .ref a0)]) C 2 rfl dX9_nobodys_35 (by rw [qv7]; rfl) (by decide) rfl ?_
          refine ab_goto C 4 dX9_nobodys_38 (by decide) ?_
          refine aV.sub (lv' := [(0, .ref a0), (1, .int v6), (2, .int v7)]) [2, 1, 0] rfl ?_
          exact ih4 v6 v7 res4 hF KX4
        · replace hF := (if_neg c5).symm.trans hF
          refine ab_aload_n C 0 rfl rfl dX9_nobodys_19 ?_
          refine ab_bipush (v := (52 : Int32)) C dX9_nobodys_20 (by decide) ?_
          refine ab_iload_n C 2 rfl rfl dX9_nobodys_22 ?_
          refine ab_iadd C dX9_nobodys_23 ?_
          obtain ⟨v8, hxv8, hF⟩ := Option.bind_eq_some_iff.mp hF
          refine ab_iald C hB0 hxv8 dX9_nobodys_24 ?_
          refine ab_if_ne C 32 dX9_nobodys_25 (by decide) (fun c9 => ?_) (fun c9 => ?_)
          · replace hF := (if_neg c9).symm.trans hF
            refine ab_iconst (v := (0 : Int32)) C dX9_nobodys_32 (by decide) ?_
            refine ab_iadd C dX9_nobodys_33 ?_
            refine ab_topi (fun v10 qv10 => ?_)
            replace hF := aLet_e hF v10 qv10
            refine ab_istore_n (lv' := [(1, .int v10), (0, .ref a0), (2, .int v2)]) C dX9_nobodys_34 rfl (by decide) rfl ?_
            obtain ⟨v11, qv11⟩ : ∃ y : Int32, y = (v2 + (1 : Int32)) := ⟨_, rfl⟩
            replace hF := aLet_e hF v11 qv11
            refine ab_iinc (lv' := [(2, .int v11), (1, .int v10), (0, .ref a0)]) C 2 rfl dX9_nobodys_35 (by rw [qv11]; rfl) (by decide) rfl ?_
            refine ab_goto C 4 dX9_nobodys_38 (by decide) ?_
            refine aV.sub (lv' := [(0, .ref a0), (1, .int v10), (2, .int v11)]) [2, 1, 0] rfl ?_
            exact ih4 v10 v11 res4 hF KX4
          · replace hF := (if_pos c9).symm.trans hF
            refine ab_iconst (v := (1 : Int32)) C dX9_nobodys_28 (by decide) ?_
            refine ab_goto C 33 dX9_nobodys_29 (by decide) ?_
            refine ab_iadd C dX9_nobodys_33 ?_
            refine ab_topi (fun v12 qv12 => ?_)
            replace hF := aLet_e hF v12 qv12
            refine ab_istore_n (lv' := [(1, .int v12), (0, .ref a0), (2, .int v2)]) C dX9_nobodys_34 rfl (by decide) rfl ?_
            obtain ⟨v13, qv13⟩ : ∃ y : Int32, y = (v2 + (1 : Int32)) := ⟨_, rfl⟩
            replace hF := aLet_e hF v13 qv13
            refine ab_iinc (lv' := [(2, .int v13), (1, .int v12), (0, .ref a0)]) C 2 rfl dX9_nobodys_35 (by rw [qv13]; rfl) (by decide) rfl ?_
            refine ab_goto C 4 dX9_nobodys_38 (by decide) ?_
            refine aV.sub (lv' := [(0, .ref a0), (1, .int v12), (2, .int v13)]) [2, 1, 0] rfl ?_
            exact ih4 v12 v13 res4 hF KX4
  refine aV.sub (lv' := [(0, .ref a0), (1, .int (0 : Int32)), (2, .int (0 : Int32))]) [2, 1, 0] rfl ?_
  obtain ⟨e14, he14, hF⟩ := Option.bind_eq_some_iff.mp hF
  refine L4 aFu (0 : Int32) (0 : Int32) e14 he14 ?_
  refine ab_iload_n C 0 rfl rfl dX9_nobodys_41 ?_
  obtain rfl := Option.some.inj hF
  exact ab_iret C R0 rfl dX9_nobodys_42 ⟨rfl, rfl, rfl⟩
theorem dX9_drawn_0 : decode cX9_drawn 0 = .ok (.iload_n 1, 1) := by decide +kernel
theorem dX9_drawn_1 : decode cX9_drawn 1 = .ok (.i2l, 1) := by decide +kernel
theorem dX9_drawn_2 : decode cX9_drawn 2 = .ok (.lconst 0, 1) := by decide +kernel
theorem dX9_drawn_3 : decode cX9_drawn 3 = .ok (.ldc2_w 280, 3) := by decide +kernel
theorem dX9_drawn_6 : decode cX9_drawn 6 = .ok (.invokestatic 69, 3) := by decide +kernel
theorem dX9_drawn_9 : decode cX9_drawn 9 = .ok (.ifCond .eq 25, 3) := by decide +kernel
theorem dX9_drawn_12 : decode cX9_drawn 12 = .ok (.iload_n 2, 1) := by decide +kernel
theorem dX9_drawn_13 : decode cX9_drawn 13 = .ok (.i2l, 1) := by decide +kernel
theorem dX9_drawn_14 : decode cX9_drawn 14 = .ok (.lconst 1, 1) := by decide +kernel
theorem dX9_drawn_15 : decode cX9_drawn 15 = .ok (.ldc2_w 282, 3) := by decide +kernel
theorem dX9_drawn_18 : decode cX9_drawn 18 = .ok (.invokestatic 69, 3) := by decide +kernel
theorem dX9_drawn_21 : decode cX9_drawn 21 = .ok (.ifCond .eq 13, 3) := by decide +kernel
theorem dX9_drawn_24 : decode cX9_drawn 24 = .ok (.iload_n 3, 1) := by decide +kernel
theorem dX9_drawn_25 : decode cX9_drawn 25 = .ok (.i2l, 1) := by decide +kernel
theorem dX9_drawn_26 : decode cX9_drawn 26 = .ok (.lconst 0, 1) := by decide +kernel
theorem dX9_drawn_27 : decode cX9_drawn 27 = .ok (.lconst 1, 1) := by decide +kernel
theorem dX9_drawn_28 : decode cX9_drawn 28 = .ok (.invokestatic 69, 3) := by decide +kernel
theorem dX9_drawn_31 : decode cX9_drawn 31 = .ok (.ifCond .ne 5, 3) := by decide +kernel
theorem dX9_drawn_34 : decode cX9_drawn 34 = .ok (.iconst (-1), 1) := by decide +kernel
theorem dX9_drawn_35 : decode cX9_drawn 35 = .ok (.ireturn, 1) := by decide +kernel
theorem dX9_drawn_36 : decode cX9_drawn 36 = .ok (.aload_n 0, 1) := by decide +kernel
theorem dX9_drawn_37 : decode cX9_drawn 37 = .ok (.invokevirtual 185, 3) := by decide +kernel
theorem dX9_drawn_40 : decode cX9_drawn 40 = .ok (.ifCond .ne 6, 3) := by decide +kernel
theorem dX9_drawn_43 : decode cX9_drawn 43 = .ok (.bipush (-2), 2) := by decide +kernel
theorem dX9_drawn_45 : decode cX9_drawn 45 = .ok (.ireturn, 1) := by decide +kernel
theorem dX9_drawn_46 : decode cX9_drawn 46 = .ok (.aload_n 0, 1) := by decide +kernel
theorem dX9_drawn_47 : decode cX9_drawn 47 = .ok (.invokevirtual 195, 3) := by decide +kernel
theorem dX9_drawn_50 : decode cX9_drawn 50 = .ok (.iload_n 2, 1) := by decide +kernel
theorem dX9_drawn_51 : decode cX9_drawn 51 = .ok (.i2l, 1) := by decide +kernel
theorem dX9_drawn_52 : decode cX9_drawn 52 = .ok (.lstore 4, 2) := by decide +kernel
theorem dX9_drawn_54 : decode cX9_drawn 54 = .ok (.iconst 0, 1) := by decide +kernel
theorem dX9_drawn_55 : decode cX9_drawn 55 = .ok (.istore 6, 2) := by decide +kernel
theorem dX9_drawn_57 : decode cX9_drawn 57 = .ok (.iload 6, 2) := by decide +kernel
theorem dX9_drawn_59 : decode cX9_drawn 59 = .ok (.iload_n 1, 1) := by decide +kernel
theorem dX9_drawn_60 : decode cX9_drawn 60 = .ok (.if_icmp .ge 68, 3) := by decide +kernel
theorem dX9_drawn_63 : decode cX9_drawn 63 = .ok (.lload 4, 2) := by decide +kernel
theorem dX9_drawn_65 : decode cX9_drawn 65 = .ok (.ldc2_w 284, 3) := by decide +kernel
theorem dX9_drawn_68 : decode cX9_drawn 68 = .ok (.lmul, 1) := by decide +kernel
theorem dX9_drawn_69 : decode cX9_drawn 69 = .ok (.ldc2_w 286, 3) := by decide +kernel
theorem dX9_drawn_72 : decode cX9_drawn 72 = .ok (.lrem, 1) := by decide +kernel
theorem dX9_drawn_73 : decode cX9_drawn 73 = .ok (.lstore 4, 2) := by decide +kernel
theorem dX9_drawn_75 : decode cX9_drawn 75 = .ok (.aload_n 0, 1) := by decide +kernel
theorem dX9_drawn_76 : decode cX9_drawn 76 = .ok (.getfield 16, 3) := by decide +kernel
theorem dX9_drawn_79 : decode cX9_drawn 79 = .ok (.bipush 52, 2) := by decide +kernel
theorem dX9_drawn_81 : decode cX9_drawn 81 = .ok (.aload_n 0, 1) := by decide +kernel
theorem dX9_drawn_82 : decode cX9_drawn 82 = .ok (.lload 4, 2) := by decide +kernel
theorem dX9_drawn_84 : decode cX9_drawn 84 = .ok (.aload_n 0, 1) := by decide +kernel
theorem dX9_drawn_85 : decode cX9_drawn 85 = .ok (.invokevirtual 274, 3) := by decide +kernel
theorem dX9_drawn_88 : decode cX9_drawn 88 = .ok (.i2l, 1) := by decide +kernel
theorem dX9_drawn_89 : decode cX9_drawn 89 = .ok (.lrem, 1) := by decide +kernel
theorem dX9_drawn_90 : decode cX9_drawn 90 = .ok (.l2i, 1) := by decide +kernel
theorem dX9_drawn_91 : decode cX9_drawn 91 = .ok (.invokevirtual 277, 3) := by decide +kernel
theorem dX9_drawn_94 : decode cX9_drawn 94 = .ok (.iadd, 1) := by decide +kernel
theorem dX9_drawn_95 : decode cX9_drawn 95 = .ok (.lload 4, 2) := by decide +kernel
theorem dX9_drawn_97 : decode cX9_drawn 97 = .ok (.ldc2_w 288, 3) := by decide +kernel
theorem dX9_drawn_100 : decode cX9_drawn 100 = .ok (.ldiv, 1) := by decide +kernel
theorem dX9_drawn_101 : decode cX9_drawn 101 = .ok (.aload_n 0, 1) := by decide +kernel
theorem dX9_drawn_102 : decode cX9_drawn 102 = .ok (.getfield 16, 3) := by decide +kernel
theorem dX9_drawn_105 : decode cX9_drawn 105 = .ok (.iconst 0, 1) := by decide +kernel
theorem dX9_drawn_106 : decode cX9_drawn 106 = .ok (.iaload, 1) := by decide +kernel
theorem dX9_drawn_107 : decode cX9_drawn 107 = .ok (.i2l, 1) := by decide +kernel
theorem dX9_drawn_108 : decode cX9_drawn 108 = .ok (.lrem, 1) := by decide +kernel
theorem dX9_drawn_109 : decode cX9_drawn 109 = .ok (.l2i, 1) := by decide +kernel
theorem dX9_drawn_110 : decode cX9_drawn 110 = .ok (.iconst 1, 1) := by decide +kernel
theorem dX9_drawn_111 : decode cX9_drawn 111 = .ok (.iadd, 1) := by decide +kernel
theorem dX9_drawn_112 : decode cX9_drawn 112 = .ok (.iastore, 1) := by decide +kernel
theorem dX9_drawn_113 : decode cX9_drawn 113 = .ok (.aload_n 0, 1) := by decide +kernel
theorem dX9_drawn_114 : decode cX9_drawn 114 = .ok (.getfield 16, 3) := by decide +kernel
theorem dX9_drawn_117 : decode cX9_drawn 117 = .ok (.invokestatic 189, 3) := by decide +kernel
theorem dX9_drawn_120 : decode cX9_drawn 120 = .ok (.istore 7, 2) := by decide +kernel
theorem dX9_drawn_122 : decode cX9_drawn 122 = .ok (.iinc 6 1, 3) := by decide +kernel
theorem dX9_drawn_125 : decode cX9_drawn 125 = .ok (.goto (-68), 3) := by decide +kernel
theorem dX9_drawn_128 : decode cX9_drawn 128 = .ok (.iconst 0, 1) := by decide +kernel
theorem dX9_drawn_129 : decode cX9_drawn 129 = .ok (.istore 6, 2) := by decide +kernel
theorem dX9_drawn_131 : decode cX9_drawn 131 = .ok (.iconst 1, 1) := by decide +kernel
theorem dX9_drawn_132 : decode cX9_drawn 132 = .ok (.istore 7, 2) := by decide +kernel
theorem dX9_drawn_134 : decode cX9_drawn 134 = .ok (.iload 7, 2) := by decide +kernel
theorem dX9_drawn_136 : decode cX9_drawn 136 = .ok (.aload_n 0, 1) := by decide +kernel
theorem dX9_drawn_137 : decode cX9_drawn 137 = .ok (.getfield 16, 3) := by decide +kernel
theorem dX9_drawn_140 : decode cX9_drawn 140 = .ok (.iconst 0, 1) := by decide +kernel
theorem dX9_drawn_141 : decode cX9_drawn 141 = .ok (.iaload, 1) := by decide +kernel
theorem dX9_drawn_142 : decode cX9_drawn 142 = .ok (.if_icmp .ge 45, 3) := by decide +kernel
theorem dX9_drawn_145 : decode cX9_drawn 145 = .ok (.aload_n 0, 1) := by decide +kernel
theorem dX9_drawn_146 : decode cX9_drawn 146 = .ok (.getfield 16, 3) := by decide +kernel
theorem dX9_drawn_149 : decode cX9_drawn 149 = .ok (.iload 7, 2) := by decide +kernel
theorem dX9_drawn_151 : decode cX9_drawn 151 = .ok (.invokestatic 149, 3) := by decide +kernel
theorem dX9_drawn_154 : decode cX9_drawn 154 = .ok (.invokestatic 165, 3) := by decide +kernel
theorem dX9_drawn_157 : decode cX9_drawn 157 = .ok (.aload_n 0, 1) := by decide +kernel
theorem dX9_drawn_158 : decode cX9_drawn 158 = .ok (.getfield 16, 3) := by decide +kernel
theorem dX9_drawn_161 : decode cX9_drawn 161 = .ok (.iload 6, 2) := by decide +kernel
theorem dX9_drawn_163 : decode cX9_drawn 163 = .ok (.invokestatic 149, 3) := by decide +kernel
theorem dX9_drawn_166 : decode cX9_drawn 166 = .ok (.invokestatic 165, 3) := by decide +kernel
theorem dX9_drawn_169 : decode cX9_drawn 169 = .ok (.if_icmp .le 8, 3) := by decide +kernel
theorem dX9_drawn_172 : decode cX9_drawn 172 = .ok (.iload 7, 2) := by decide +kernel
theorem dX9_drawn_174 : decode cX9_drawn 174 = .ok (.goto 5, 3) := by decide +kernel
theorem dX9_drawn_177 : decode cX9_drawn 177 = .ok (.iload 6, 2) := by decide +kernel
theorem dX9_drawn_179 : decode cX9_drawn 179 = .ok (.istore 6, 2) := by decide +kernel
theorem dX9_drawn_181 : decode cX9_drawn 181 = .ok (.iinc 7 1, 3) := by decide +kernel
theorem dX9_drawn_184 : decode cX9_drawn 184 = .ok (.goto (-50), 3) := by decide +kernel
theorem dX9_drawn_187 : decode cX9_drawn 187 = .ok (.iload_n 3, 1) := by decide +kernel
theorem dX9_drawn_188 : decode cX9_drawn 188 = .ok (.ifCond .ne 8, 3) := by decide +kernel
theorem dX9_drawn_191 : decode cX9_drawn 191 = .ok (.iload 6, 2) := by decide +kernel
theorem dX9_drawn_193 : decode cX9_drawn 193 = .ok (.goto 10, 3) := by decide +kernel
theorem dX9_drawn_196 : decode cX9_drawn 196 = .ok (.aload_n 0, 1) := by decide +kernel
theorem dX9_drawn_197 : decode cX9_drawn 197 = .ok (.getfield 16, 3) := by decide +kernel
theorem dX9_drawn_200 : decode cX9_drawn 200 = .ok (.invokestatic 290, 3) := by decide +kernel
theorem dX9_drawn_203 : decode cX9_drawn 203 = .ok (.ireturn, 1) := by decide +kernel
def X9_drawn_L57 (x1 : Int32) : Nat → Int64 → Int32 → Rec → Option (Rec)
  | 0, _, _, _ => none
  | n57 + 1, v9, v10, Z11 => if x1 ≤ v10 then
      some Z11
    else
      aLet ((v9 * (16807 : Int64)) - (v9 * (16807 : Int64)) / (2147483647 : Int64) * (2147483647 : Int64)) fun v14 =>
      (X9_cells Z11).bind fun v15 =>
      if (v15.toInt64) = (0 : Int64) then none else
      (X9_placeBy Z11 ((v14 - v14 / (v15.toInt64) * (v15.toInt64)).toInt32)).bind fun v17 =>
      (rdI (Z11.2.1 2) 96 (0 : Int32)).bind fun v18 =>
      if (v18.toInt64) = (0 : Int64) then none else
      (wrI (Z11.2.1 2) 96 ((52 : Int32) + v17) ((((v14 / (8 : Int64)) - (v14 / (8 : Int64)) / (v18.toInt64) * (v18.toInt64)).toInt32) + (1 : Int32))).bind fun w20 =>
      (X9_goOn ((sA Z11 2 w20).2.1 2)).bind fun v22 =>
      aLet (v10 + (1 : Int32)) fun v24 =>
      X9_drawn_L57 x1 n57 v14 v24 (sA (sA Z11 2 w20) 2 v22.2)
def X9_drawn_L134 (e25 : (Rec)) : Nat → Int32 → Int32 → Option (Int32)
  | 0, _, _ => none
  | n134 + 1, v27, v28 => (rdI (e25.2.1 2) 96 (0 : Int32)).bind fun v29 =>
    if v29 ≤ v28 then
      some v27
    else
      (X9_says (e25.2.1 2) v28).bind fun v31 =>
      (X9_bits v31).bind fun v32 =>
      (X9_says (e25.2.1 2) v27).bind fun v33 =>
      (X9_bits v33).bind fun v34 =>
      if v32 ≤ v34 then
        aLet (v28 + (1 : Int32)) fun v36 =>
        X9_drawn_L134 e25 n134 v27 v36
      else
        aLet (v28 + (1 : Int32)) fun v37 =>
        X9_drawn_L134 e25 n134 v28 v37
def X9_drawn (S0 : Rec) (x1 : Int32) (x2 : Int32) (x3 : Int32) : Option (Int32 × Rec) :=
  if (X9_in (x1.toInt64) (0 : Int64) (40 : Int64)) = 0 then
    some ((-1 : Int32), S0)
  else
    if (X9_in (x2.toInt64) (1 : Int64) (999999 : Int64)) = 0 then
      some ((-1 : Int32), S0)
    else
      if (X9_in (x3.toInt64) (0 : Int64) (1 : Int64)) = 0 then
        some ((-1 : Int32), S0)
      else
        (X9_isThere S0).bind fun v4 =>
        if v4 = 0 then
          some ((-2 : Int32), S0)
        else
          (X9_layThen S0).bind fun v6 =>
          aLet (x2.toInt64) fun v8 =>
          (X9_drawn_L57 x1 aFu v8 (0 : Int32) v6).bind fun e25 =>
          (X9_drawn_L134 e25 aFu (0 : Int32) (1 : Int32)).bind fun e38 =>
          if x3 = 0 then
            some (e38, e25)
          else
            (X9_nobodys (e25.2.1 2)).bind fun v40 =>
            some (v40, e25)
set_option maxRecDepth 100000 in
set_option maxHeartbeats 4000000 in
theorem X9_drawn_ok (l : Launch) {h : aH} {nx : Nat} {a0 : Nat} {S0 : Rec} {x1 : Int32} {x2 : Int32} {x3 : Int32} (hB0 : X9_at h a0 S0) {r : Int32 × Rec} (hF : X9_drawn S0 x1 x2 x3 = some r) : aOk l 4 0 0 yX9_drawn cX9_drawn 8 (some .int) [.ref a0, .int x1, .int x2, .int x3] h nx (aMt (some (.int r.1)) nx (fun h1 => X9_at h1 a0 r.2 ∧ (∀ q, (q < a0 ∨ a0 + 20 ≤ q) → h1 q = h q))) := by
  refine aOk.of (by decide +kernel) (Nat.le_of_ble_eq_true rfl) (fun X G hX C R0 _ => ?_)
  subst hX
  show aV X G 8 0 [(0, .ref a0), (1, .int x1), (2, .int x2), (3, .int x3)] [] h nx 0 0
  have hFr : ∀ q, (q < a0 ∨ a0 + 20 ≤ q) → h q = h q := fun _ _ => rfl
  rw [X9_drawn] at hF
  refine ab_iload_n C 1 rfl rfl dX9_drawn_0 ?_
  refine ab_i2l C dX9_drawn_1 ?_
  refine ab_lconst (v := (0 : Int64)) C dX9_drawn_2 (by decide) ?_
  refine ab_ldc2 (v := (40 : Int64)) C dX9_drawn_3 lq_X9_280 ?_
  refine ab_cSR (v := .int (X9_in (x1.toInt64) (0 : Int64) (40 : Int64))) (st := []) C lm_X9_69 (X9_in_ok (xl X) (r := (X9_in (x1.toInt64) (0 : Int64) (40 : Int64))) rfl) rfl rfl (by decide) ⟨Nat.zero_le _, Nat.zero_le _⟩ (Nat.le_of_ble_eq_true rfl) dX9_drawn_6 ?_
  refine ab_if_eq C 34 dX9_drawn_9 (by decide) (fun c1 => ?_) (fun c1 => ?_)
  · replace hF := (if_pos c1).symm.trans hF
    refine ab_iconst (v := (-1 : Int32)) C dX9_drawn_34 (by decide) ?_
    obtain rfl := Option.some.inj hF
    exact ab_iret C R0 rfl dX9_drawn_35 ⟨rfl, rfl, hB0, hFr⟩
  · replace hF := (if_neg c1).symm.trans hF
    refine ab_iload_n C 2 rfl rfl dX9_drawn_12 ?_
    refine ab_i2l C dX9_drawn_13 ?_
    refine ab_lconst (v := (1 : Int64)) C dX9_drawn_14 (by decide) ?_
    refine ab_ldc2 (v := (999999 : Int64)) C dX9_drawn_15 lq_X9_282 ?_
    refine ab_cSR (v := .int (X9_in (x2.toInt64) (1 : Int64) (999999 : Int64))) (st := []) C lm_X9_69 (X9_in_ok (xl X) (r := (X9_in (x2.toInt64) (1 : Int64) (999999 : Int64))) rfl) rfl rfl (by decide) ⟨Nat.zero_le _, Nat.zero_le _⟩ (Nat.le_of_ble_eq_true rfl) dX9_drawn_18 ?_
    refine ab_if_eq C 34 dX9_drawn_21 (by decide) (fun c2 => ?_) (fun c2 => ?_)
    · replace hF := (if_pos c2).symm.trans hF
      refine ab_iconst (v := (-1 : Int32)) C dX9_drawn_34 (by decide) ?_
      obtain rfl := Option.some.inj hF
      exact ab_iret C R0 rfl dX9_drawn_35 ⟨rfl, rfl, hB0, hFr⟩
    · replace hF := (if_neg c2).symm.trans hF
      refine ab_iload_n C 3 rfl rfl dX9_drawn_24 ?_
      refine ab_i2l C dX9_drawn_25 ?_
      refine ab_lconst (v := (0 : Int64)) C dX9_drawn_26 (by decide) ?_
      refine ab_lconst (v := (1 : Int64)) C dX9_drawn_27 (by decide) ?_
      refine ab_cSR (v := .int (X9_in (x3.toInt64) (0 : Int64) (1 : Int64))) (st := []) C lm_X9_69 (X9_in_ok (xl X) (r := (X9_in (x3.toInt64) (0 : Int64) (1 : Int64))) rfl) rfl rfl (by decide) ⟨Nat.zero_le _, Nat.zero_le _⟩ (Nat.le_of_ble_eq_true rfl) dX9_drawn_28 ?_
      refine ab_if_ne C 36 dX9_drawn_31 (by decide) (fun c3 => ?_) (fun c3 => ?_)
      · replace hF := (if_neg c3).symm.trans hF
        refine ab_aload_n C 0 rfl rfl dX9_drawn_36 ?_
        obtain ⟨v4, hxv4, hF⟩ := Option.bind_eq_some_iff.mp hF
        refine ab_cVR (v := .int v4) (st := []) C lm_X9_185 (X9_isThere_ok (xl X) hB0 (r := v4) hxv4) [] rfl hB0.1 rfl rfl rfl (by decide) ⟨Nat.zero_le _, Nat.zero_le _⟩ (Nat.le_of_ble_eq_true rfl) dX9_drawn_37 ?_
        refine ab_if_ne C 46 dX9_drawn_40 (by decide) (fun c5 => ?_) (fun c5 => ?_)
        · replace hF := (if_neg c5).symm.trans hF
          refine ab_aload_n C 0 rfl rfl dX9_drawn_46 ?_
          obtain ⟨v6, hxv6, hF⟩ := Option.bind_eq_some_iff.mp hF
          refine ab_cVN (st := []) C lm_X9_195 (X9_layThen_ok (xl X) hB0 (r := v6) hxv6) [] rfl hB0.1 rfl rfl rfl (by decide) ⟨Nat.zero_le _, Nat.zero_le _⟩ (Nat.le_of_ble_eq_true rfl) dX9_drawn_47 (fun g7 pg7 => ?_)
          obtain ⟨k0, Og7⟩ := pg7
          have hB0 : X9_at g7 a0 v6 := k0
          have hFr : ∀ q, (q < a0 ∨ a0 + 20 ≤ q) → g7 q = h q := fun q u0 => (Og7 q (by omega)).trans (hFr q u0)
          refine ab_iload_n C 2 rfl rfl dX9_drawn_50 ?_
          refine ab_i2l C dX9_drawn_51 ?_
          refine ab_topl (fun v8 qv8 => ?_)
          replace hF := aLet_e hF v8 qv8
          refine ab_lstore (lv' := [(4, .long v8), (0, .ref a0), (1, .int x1), (2, .int x2), (3, .int x3)]) C dX9_drawn_52 ⟨by decide, by decide⟩ rfl ?_
          refine ab_iconst (v := (0 : Int32)) C dX9_drawn_54 (by decide) ?_
          refine ab_istore (lv' := [(6, .int (0 : Int32)), (4, .long v8), (0, .ref a0), (1, .int x1), (2, .int x2), (3, .int x3)]) C dX9_drawn_55 (by decide) rfl ?_
          have L57 : ∀ (n57 : Nat) (v9 : Int64) (v10 : Int32) (Z11 : Rec) (g12 : aH), (X9_at g12 a0 Z11) → (∀ q, (q < a0 ∨ a0 + 20 ≤ q) → g12 q = h q) → ∀ (res57 : Rec), X9_drawn_L57 x1 n57 v9 v10 Z11 = some res57 → (∀ (q9 : aH), (X9_at q9 a0 res57) → (∀ q, (q < a0 ∨ a0 + 20 ≤ q) → q9 q = h q) → aV X G 8 128 [(0, .ref a0), (3, .int x3)] [] q9 nx 0 0) → aV X G 8 57 [(0, .ref a0), (1, .int x1), (3, .int x3), (4, .long v9), (6, .int v10)] [] g12 nx 0 0 := by
            intro n57
            induction n57 with
            | zero => intro v9 v10 Z11 g12 hB0 hFr res57 hF KX57; cases (show (none : Option (Rec)) = some res57 from hF)
            | succ n57 ih57 =>
              intro v9 v10 Z11 g12 hB0 hFr res57 hF KX57
              rw [X9_drawn_L57] at hF
              refine ab_iload C 4 rfl dX9_drawn_57 ?_
              refine ab_iload_n C 1 rfl rfl dX9_drawn_59 ?_
              refine ab_icmp_ge C 128 dX9_drawn_60 (by decide) (fun c13 => ?_) (fun c13 => ?_)
              · replace hF := (if_pos c13).symm.trans hF
                obtain rfl := Option.some.inj hF
                refine aV.sub (lv' := [(0, .ref a0), (3, .int x3)]) [0, 2] rfl ?_
                exact KX57 g12 hB0 hFr
              · replace hF := (if_neg c13).symm.trans hF
                refine ab_lload C 3 rfl dX9_drawn_63 ?_
                refine ab_ldc2 (v := (16807 : Int64)) C dX9_drawn_65 lq_X9_284 ?_
                refine ab_lmul C dX9_drawn_68 ?_
                refine ab_ldc2 (v := (2147483647 : Int64)) C dX9_drawn_69 lq_X9_286 ?_
                refine ab_lrem C (by decide) dX9_drawn_72 ?_
                refine ab_topl (fun v14 qv14 => ?_)
                replace hF := aLet_e hF v14 qv14
                refine ab_lstore (lv' := [(4, .long v14), (0, .ref a0), (1, .int x1), (3, .int x3), (6, .int v10)]) C dX9_drawn_73 ⟨by decide, by decide⟩ rfl ?_
                refine ab_aload_n C 1 rfl rfl dX9_drawn_75 ?_
                refine ab_g9 (v := .ref (a0 + 3)) C lf_X9_16 hB0.1 rfl dX9_drawn_76 ?_
                refine ab_bipush (v := (52 : Int32)) C dX9_drawn_79 (by decide) ?_
                refine ab_aload_n C 1 rfl rfl dX9_drawn_81 ?_
                refine ab_lload C 0 rfl dX9_drawn_82 ?_
                refine ab_aload_n C 1 rfl rfl dX9_drawn_84 ?_
                obtain ⟨v15, hxv15, hF⟩ := Option.bind_eq_some_iff.mp hF
                refine ab_cVR (v := .int v15) (st := [.long v14, .ref a0, .int (52 : Int32), .ref (a0 + 3)]) C lm_X9_274 (X9_cells_ok (xl X) hB0 (r := v15) hxv15) [] rfl hB0.1 rfl rfl rfl (by decide) ⟨Nat.zero_le _, Nat.zero_le _⟩ (Nat.le_of_ble_eq_true rfl) dX9_drawn_85 ?_
                refine ab_i2l C dX9_drawn_88 ?_
                rcases Classical.em ((v15.toInt64) = (0 : Int64)) with c16 | c16
                · replace hF := (if_pos c16).symm.trans hF
                  cases hF
                replace hF := (if_neg c16).symm.trans hF
                refine ab_lrem C c16 dX9_drawn_89 ?_
                refine ab_l2i C dX9_drawn_90 ?_
                obtain ⟨v17, hxv17, hF⟩ := Option.bind_eq_some_iff.mp hF
                refine ab_cVR (v := .int v17) (st := [.int (52 : Int32), .ref (a0 + 3)]) C lm_X9_277 (X9_placeBy_ok (xl X) hB0 (r := v17) hxv17) [.int ((v14 - v14 / (v15.toInt64) * (v15.toInt64)).toInt32)] rfl hB0.1 rfl rfl rfl (by decide) ⟨Nat.zero_le _, Nat.zero_le _⟩ (Nat.le_of_ble_eq_true rfl) dX9_drawn_91 ?_
                refine ab_iadd C dX9_drawn_94 ?_
                refine ab_lload C 0 rfl dX9_drawn_95 ?_
                refine ab_ldc2 (v := (8 : Int64)) C dX9_drawn_97 lq_X9_288 ?_
                refine ab_ldiv C (by decide) dX9_drawn_100 ?_
                refine ab_aload_n C 1 rfl rfl dX9_drawn_101 ?_
                refine ab_g9 (v := .ref (a0 + 3)) C lf_X9_16 hB0.1 rfl dX9_drawn_102 ?_
                refine ab_iconst (v := (0 : Int32)) C dX9_drawn_105 (by decide) ?_
                obtain ⟨v18, hxv18, hF⟩ := Option.bind_eq_some_iff.mp hF
                refine ab_iald C (X9_r2 hB0) hxv18 dX9_drawn_106 ?_
                refine ab_i2l C dX9_drawn_107 ?_
                rcases Classical.em ((v18.toInt64) = (0 : Int64)) with c19 | c19
                · replace hF := (if_pos c19).symm.trans hF
                  cases hF
                replace hF := (if_neg c19).symm.trans hF
                refine ab_lrem C c19 dX9_drawn_108 ?_
                refine ab_l2i C dX9_drawn_109 ?_
                refine ab_iconst (v := (1 : Int32)) C dX9_drawn_110 (by decide) ?_
                refine ab_iadd C dX9_drawn_111 ?_
                obtain ⟨w20, hxw20, hF⟩ := Option.bind_eq_some_iff.mp hF
                refine ab_iast C (X9_r2 hB0) hxw20 dX9_drawn_112 (fun g21 eg21 og21 => ?_)
                have hB0 : X9_at g21 a0 (sA Z11 2 w20) := X9_w2 hB0 eg21 og21
                have hFr : ∀ q, (q < a0 ∨ a0 + 20 ≤ q) → g21 q = h q := fun q u0 => (og21 q (by omega)).trans (hFr q u0)
                refine ab_aload_n C 1 rfl rfl dX9_drawn_113 ?_
                refine ab_g9 (v := .ref (a0 + 3)) C lf_X9_16 hB0.1 rfl dX9_drawn_114 ?_
                obtain ⟨v22, hxv22, hF⟩ := Option.bind_eq_some_iff.mp hF
                refine ab_cSM (v := .int v22.1) (st := []) C lm_X9_189 (X9_goOn_ok (xl X) (X9_r2 hB0) (r := v22) hxv22) rfl rfl (by decide) ⟨Nat.zero_le _, Nat.zero_le _⟩ (Nat.le_of_ble_eq_true rfl) dX9_drawn_117 (fun g23 pg23 => ?_)
                obtain ⟨k0, Og23⟩ := pg23
                have hB0 : X9_at g23 a0 (sA (sA Z11 2 w20) 2 v22.2) := X9_w2 hB0 k0 (fun q i1 => Og23 q (by omega))
                have hFr : ∀ q, (q < a0 ∨ a0 + 20 ≤ q) → g23 q = h q := fun q u0 => (Og23 q (by omega)).trans (hFr q u0)
                refine ab_istore (lv' := [(7, .int v22.1), (4, .long v14), (0, .ref a0), (1, .int x1), (3, .int x3), (6, .int v10)]) C dX9_drawn_120 (by decide) rfl ?_
                obtain ⟨v24, qv24⟩ : ∃ y : Int32, y = (v10 + (1 : Int32)) := ⟨_, rfl⟩
                replace hF := aLet_e hF v24 qv24
                refine ab_iinc (lv' := [(6, .int v24), (7, .int v22.1), (4, .long v14), (0, .ref a0), (1, .int x1), (3, .int x3)]) C 5 rfl dX9_drawn_122 (by rw [qv24]; rfl) (by decide) rfl ?_
                refine ab_goto C 57 dX9_drawn_125 (by decide) ?_
                refine aV.sub (lv' := [(0, .ref a0), (1, .int x1), (3, .int x3), (4, .long v14), (6, .int v24)]) [3, 4, 5, 2, 0] rfl ?_
                exact ih57 v14 v24 (sA (sA Z11 2 w20) 2 v22.2) g23 hB0 hFr res57 hF KX57
          refine aV.sub (lv' := [(0, .ref a0), (1, .int x1), (3, .int x3), (4, .long v8), (6, .int (0 : Int32))]) [2, 3, 5, 1, 0] rfl ?_
          obtain ⟨e25, he25, hF⟩ := Option.bind_eq_some_iff.mp hF
          refine L57 aFu v8 (0 : Int32) v6 g7 hB0 hFr e25 he25 (fun g26 hB0 hFr => ?_)
          refine ab_iconst (v := (0 : Int32)) C dX9_drawn_128 (by decide) ?_
          refine ab_istore (lv' := [(6, .int (0 : Int32)), (0, .ref a0), (3, .int x3)]) C dX9_drawn_129 (by decide) rfl ?_
          refine ab_iconst (v := (1 : Int32)) C dX9_drawn_131 (by decide) ?_
          refine ab_istore (lv' := [(7, .int (1 : Int32)), (6, .int (0 : Int32)), (0, .ref a0), (3, .int x3)]) C dX9_drawn_132 (by decide) rfl ?_
          have L134 : ∀ (n134 : Nat) (v27 : Int32) (v28 : Int32), ∀ (res134 : Int32), X9_drawn_L134 e25 n134 v27 v28 = some res134 → (aV X G 8 187 [(0, .ref a0), (3, .int x3), (6, .int res134)] [] g26 nx 0 0) → aV X G 8 134 [(0, .ref a0), (3, .int x3), (6, .int v27), (7, .int v28)] [] g26 nx 0 0 := by
            intro n134
            induction n134 with
            | zero => intro v27 v28 res134 hF KX134; cases (show (none : Option (Int32)) = some res134 from hF)
            | succ n134 ih134 =>
              intro v27 v28 res134 hF KX134
              rw [X9_drawn_L134] at hF
              refine ab_iload C 3 rfl dX9_drawn_134 ?_
              refine ab_aload_n C 0 rfl rfl dX9_drawn_136 ?_
              refine ab_g9 (v := .ref (a0 + 3)) C lf_X9_16 hB0.1 rfl dX9_drawn_137 ?_
              refine ab_iconst (v := (0 : Int32)) C dX9_drawn_140 (by decide) ?_
              obtain ⟨v29, hxv29, hF⟩ := Option.bind_eq_some_iff.mp hF
              refine ab_iald C (X9_r2 hB0) hxv29 dX9_drawn_141 ?_
              refine ab_icmp_ge C 187 dX9_drawn_142 (by decide) (fun c30 => ?_) (fun c30 => ?_)
              · replace hF := (if_pos c30).symm.trans hF
                obtain rfl := Option.some.inj hF
                refine aV.sub (lv' := [(0, .ref a0), (3, .int x3), (6, .int v27)]) [0, 1, 2] rfl ?_
                exact KX134
              · replace hF := (if_neg c30).symm.trans hF
                refine ab_aload_n C 0 rfl rfl dX9_drawn_145 ?_
                refine ab_g9 (v := .ref (a0 + 3)) C lf_X9_16 hB0.1 rfl dX9_drawn_146 ?_
                refine ab_iload C 3 rfl dX9_drawn_149 ?_
                obtain ⟨v31, hxv31, hF⟩ := Option.bind_eq_some_iff.mp hF
                refine ab_cSR (v := .int v31) (st := []) C lm_X9_149 (X9_says_ok (xl X) (X9_r2 hB0) (r := v31) hxv31) rfl rfl (by decide) ⟨Nat.zero_le _, Nat.zero_le _⟩ (Nat.le_of_ble_eq_true rfl) dX9_drawn_151 ?_
                obtain ⟨v32, hxv32, hF⟩ := Option.bind_eq_some_iff.mp hF
                refine ab_cSR (v := .int v32) (st := []) C lm_X9_165 (X9_bits_ok (xl X) (r := v32) hxv32) rfl rfl (by decide) ⟨Nat.zero_le _, Nat.zero_le _⟩ (Nat.le_of_ble_eq_true rfl) dX9_drawn_154 ?_
                refine ab_aload_n C 0 rfl rfl dX9_drawn_157 ?_
                refine ab_g9 (v := .ref (a0 + 3)) C lf_X9_16 hB0.1 rfl dX9_drawn_158 ?_
                refine ab_iload C 2 rfl dX9_drawn_161 ?_
                obtain ⟨v33, hxv33, hF⟩ := Option.bind_eq_some_iff.mp hF
                refine ab_cSR (v := .int v33) (st := [.int v32]) C lm_X9_149 (X9_says_ok (xl X) (X9_r2 hB0) (r := v33) hxv33) rfl rfl (by decide) ⟨Nat.zero_le _, Nat.zero_le _⟩ (Nat.le_of_ble_eq_true rfl) dX9_drawn_163 ?_
                obtain ⟨v34, hxv34, hF⟩ := Option.bind_eq_some_iff.mp hF
                refine ab_cSR (v := .int v34) (st := [.int v32]) C lm_X9_165 (X9_bits_ok (xl X) (r := v34) hxv34) rfl rfl (by decide) ⟨Nat.zero_le _, Nat.zero_le _⟩ (Nat.le_of_ble_eq_true rfl) dX9_drawn_166 ?_
                refine ab_icmp_le C 177 dX9_drawn_169 (by decide) (fun c35 => ?_) (fun c35 => ?_)
                · replace hF := (if_pos c35).symm.trans hF
                  refine ab_iload C 2 rfl dX9_drawn_177 ?_
                  refine ab_istore (lv' := [(6, .int v27), (0, .ref a0), (3, .int x3), (7, .int v28)]) C dX9_drawn_179 (by decide) rfl ?_
                  obtain ⟨v36, qv36⟩ : ∃ y : Int32, y = (v28 + (1 : Int32)) := ⟨_, rfl⟩
                  replace hF := aLet_e hF v36 qv36
                  refine ab_iinc (lv' := [(7, .int v36), (6, .int v27), (0, .ref a0), (3, .int x3)]) C 3 rfl dX9_drawn_181 (by rw [qv36]; rfl) (by decide) rfl ?_
                  refine ab_goto C 134 dX9_drawn_184 (by decide) ?_
                  refine aV.sub (lv' := [(0, .ref a0), (3, .int x3), (6, .int v27), (7, .int v36)]) [2, 3, 1, 0] rfl ?_
                  exact ih134 v27 v36 res134 hF KX134
                · replace hF := (if_neg c35).symm.trans hF
                  refine ab_iload C 3 rfl dX9_drawn_172 ?_
                  refine ab_goto C 179 dX9_drawn_174 (by decide) ?_
                  refine ab_istore (lv' := [(6, .int v28), (0, .ref a0), (3, .int x3), (7, .int v28)]) C dX9_drawn_179 (by decide) rfl ?_
                  obtain ⟨v37, qv37⟩ : ∃ y : Int32, y = (v28 + (1 : Int32)) := ⟨_, rfl⟩
                  replace hF := aLet_e hF v37 qv37
                  refine ab_iinc (lv' := [(7, .int v37), (6, .int v28), (0, .ref a0), (3, .int x3)]) C 3 rfl dX9_drawn_181 (by rw [qv37]; rfl) (by decide) rfl ?_
                  refine ab_goto C 134 dX9_drawn_184 (by decide) ?_
                  refine aV.sub (lv' := [(0, .ref a0), (3, .int x3), (6, .int v28), (7, .int v37)]) [2, 3, 1, 0] rfl ?_
                  exact ih134 v28 v37 res134 hF KX134
          refine aV.sub (lv' := [(0, .ref a0), (3, .int x3), (6, .int (0 : Int32)), (7, .int (1 : Int32))]) [2, 3, 1, 0] rfl ?_
          obtain ⟨e38, he38, hF⟩ := Option.bind_eq_some_iff.mp hF
          refine L134 aFu (0 : Int32) (1 : Int32) e38 he38 ?_
          refine ab_iload_n C 1 rfl rfl dX9_drawn_187 ?_
          refine ab_if_ne C 196 dX9_drawn_188 (by decide) (fun c39 => ?_) (fun c39 => ?_)
          · replace hF := (if_neg c39).symm.trans hF
            refine ab_aload_n C 0 rfl rfl dX9_drawn_196 ?_
            refine ab_g9 (v := .ref (a0 + 3)) C lf_X9_16 hB0.1 rfl dX9_drawn_197 ?_
            obtain ⟨v40, hxv40, hF⟩ := Option.bind_eq_some_iff.mp hF
            refine ab_cSR (v := .int v40) (st := []) C lm_X9_290 (X9_nobodys_ok (xl X) (X9_r2 hB0) (r := v40) hxv40) rfl rfl (by decide) ⟨Nat.zero_le _, Nat.zero_le _⟩ (Nat.le_of_ble_eq_true rfl) dX9_drawn_200 ?_
            obtain rfl := Option.some.inj hF
            exact ab_iret C R0 rfl dX9_drawn_203 ⟨rfl, rfl, hB0, hFr⟩
          · replace hF := (if_pos c39).symm.trans hF
            refine ab_iload C 2 rfl dX9_drawn_191 ?_
            refine ab_goto C 203 dX9_drawn_193 (by decide) ?_
            obtain rfl := Option.some.inj hF
            exact ab_iret C R0 rfl dX9_drawn_203 ⟨rfl, rfl, hB0, hFr⟩
        · replace hF := (if_pos c5).symm.trans hF
          refine ab_bipush (v := (-2 : Int32)) C dX9_drawn_43 (by decide) ?_
          obtain rfl := Option.some.inj hF
          exact ab_iret C R0 rfl dX9_drawn_45 ⟨rfl, rfl, hB0, hFr⟩
      · replace hF := (if_pos c3).symm.trans hF
        refine ab_iconst (v := (-1 : Int32)) C dX9_drawn_34 (by decide) ?_
        obtain rfl := Option.some.inj hF
        exact ab_iret C R0 rfl dX9_drawn_35 ⟨rfl, rfl, hB0, hFr⟩
theorem dX9_isSheet_0 : decode cX9_isSheet 0 = .ok (.iload_n 0, 1) := by decide +kernel
theorem dX9_isSheet_1 : decode cX9_isSheet 1 = .ok (.i2l, 1) := by decide +kernel
theorem dX9_isSheet_2 : decode cX9_isSheet 2 = .ok (.lconst 0, 1) := by decide +kernel
theorem dX9_isSheet_3 : decode cX9_isSheet 3 = .ok (.ldc2_w 240, 3) := by decide +kernel
theorem dX9_isSheet_6 : decode cX9_isSheet 6 = .ok (.invokestatic 69, 3) := by decide +kernel
theorem dX9_isSheet_9 : decode cX9_isSheet 9 = .ok (.ireturn, 1) := by decide +kernel
def X9_isSheet (x0 : Int32) : Int32 :=
  (X9_in (x0.toInt64) (0 : Int64) (3 : Int64))
set_option maxRecDepth 100000 in
set_option maxHeartbeats 4000000 in
theorem X9_isSheet_ok (l : Launch) {h : aH} {nx : Nat} {x0 : Int32} {r : Int32} (hF : X9_isSheet x0 = r) : aOk l 1 0 0 yX9_isSheet cX9_isSheet 1 (some .boolean) [.int x0] h nx (aRd (.int r) h nx) := by
  refine aOk.of (by decide +kernel) (Nat.le_of_ble_eq_true rfl) (fun X G hX C R0 _ => ?_)
  subst hX
  show aV X G 1 0 [(0, .int x0)] [] h nx 0 0
  rw [X9_isSheet] at hF
  refine ab_iload_n C 0 rfl rfl dX9_isSheet_0 ?_
  refine ab_i2l C dX9_isSheet_1 ?_
  refine ab_lconst (v := (0 : Int64)) C dX9_isSheet_2 (by decide) ?_
  refine ab_ldc2 (v := (3 : Int64)) C dX9_isSheet_3 lq_X9_240 ?_
  refine ab_cSR (v := .int (X9_in (x0.toInt64) (0 : Int64) (3 : Int64))) (st := []) C lm_X9_69 (X9_in_ok (xl X) (r := (X9_in (x0.toInt64) (0 : Int64) (3 : Int64))) rfl) rfl rfl (by decide) ⟨Nat.zero_le _, Nat.zero_le _⟩ (Nat.le_of_ble_eq_true rfl) dX9_isSheet_6 ?_
  obtain rfl := hF
  exact ab_iret C R0 X9_in_n dX9_isSheet_9 ⟨rfl, rfl, rfl⟩
theorem X9_isSheet_n {x0 : Int32} : narrow .boolean (.int (X9_isSheet x0)) = .int (X9_isSheet x0) := by
  unfold X9_isSheet
  repeat' split
  all_goals first | rfl | exact X9_in_n
theorem dX9_cut_0 : decode cX9_cut 0 = .ok (.iload_n 0, 1) := by decide +kernel
theorem dX9_cut_1 : decode cX9_cut 1 = .ok (.ifCond .ne 10, 3) := by decide +kernel
theorem dX9_cut_4 : decode cX9_cut 4 = .ok (.lload_n 1, 1) := by decide +kernel
theorem dX9_cut_5 : decode cX9_cut 5 = .ok (.l2i, 1) := by decide +kernel
theorem dX9_cut_6 : decode cX9_cut 6 = .ok (.i2b, 1) := by decide +kernel
theorem dX9_cut_7 : decode cX9_cut 7 = .ok (.i2l, 1) := by decide +kernel
theorem dX9_cut_8 : decode cX9_cut 8 = .ok (.goto 27, 3) := by decide +kernel
theorem dX9_cut_11 : decode cX9_cut 11 = .ok (.iload_n 0, 1) := by decide +kernel
theorem dX9_cut_12 : decode cX9_cut 12 = .ok (.iconst 1, 1) := by decide +kernel
theorem dX9_cut_13 : decode cX9_cut 13 = .ok (.if_icmp .ne 10, 3) := by decide +kernel
theorem dX9_cut_16 : decode cX9_cut 16 = .ok (.lload_n 1, 1) := by decide +kernel
theorem dX9_cut_17 : decode cX9_cut 17 = .ok (.l2i, 1) := by decide +kernel
theorem dX9_cut_18 : decode cX9_cut 18 = .ok (.i2s, 1) := by decide +kernel
theorem dX9_cut_19 : decode cX9_cut 19 = .ok (.i2l, 1) := by decide +kernel
theorem dX9_cut_20 : decode cX9_cut 20 = .ok (.goto 15, 3) := by decide +kernel
theorem dX9_cut_23 : decode cX9_cut 23 = .ok (.iload_n 0, 1) := by decide +kernel
theorem dX9_cut_24 : decode cX9_cut 24 = .ok (.iconst 2, 1) := by decide +kernel
theorem dX9_cut_25 : decode cX9_cut 25 = .ok (.if_icmp .ne 9, 3) := by decide +kernel
theorem dX9_cut_28 : decode cX9_cut 28 = .ok (.lload_n 1, 1) := by decide +kernel
theorem dX9_cut_29 : decode cX9_cut 29 = .ok (.l2i, 1) := by decide +kernel
theorem dX9_cut_30 : decode cX9_cut 30 = .ok (.i2l, 1) := by decide +kernel
theorem dX9_cut_31 : decode cX9_cut 31 = .ok (.goto 4, 3) := by decide +kernel
theorem dX9_cut_34 : decode cX9_cut 34 = .ok (.lload_n 1, 1) := by decide +kernel
theorem dX9_cut_35 : decode cX9_cut 35 = .ok (.lreturn, 1) := by decide +kernel
def X9_cut (x0 : Int32) (y1 : Int64) : Int64 :=
  if x0 = 0 then
    (((y1.toInt32).toInt8.toInt32).toInt64)
  else
    if x0 = (1 : Int32) then
      (((y1.toInt32).toInt16.toInt32).toInt64)
    else
      if x0 = (2 : Int32) then
        ((y1.toInt32).toInt64)
      else
        y1
set_option maxRecDepth 100000 in
set_option maxHeartbeats 4000000 in
theorem X9_cut_ok (l : Launch) {h : aH} {nx : Nat} {x0 : Int32} {y1 : Int64} {r : Int64} (hF : X9_cut x0 y1 = r) : aOk l 0 0 0 yX9_cut cX9_cut 3 (some .long) [.int x0, .long y1] h nx (aRd (.long r) h nx) := by
  refine aOk.of (by decide +kernel) (Nat.le_of_ble_eq_true rfl) (fun X G hX C R0 _ => ?_)
  subst hX
  show aV X G 3 0 [(0, .int x0), (1, .long y1)] [] h nx 0 0
  rw [X9_cut] at hF
  refine ab_iload_n C 0 rfl rfl dX9_cut_0 ?_
  refine ab_if_ne C 11 dX9_cut_1 (by decide) (fun c1 => ?_) (fun c1 => ?_)
  · replace hF := (if_neg c1).symm.trans hF
    refine ab_iload_n C 0 rfl rfl dX9_cut_11 ?_
    refine ab_iconst (v := (1 : Int32)) C dX9_cut_12 (by decide) ?_
    refine ab_icmp_ne C 23 dX9_cut_13 (by decide) (fun c2 => ?_) (fun c2 => ?_)
    · replace hF := (if_neg c2).symm.trans hF
      refine ab_iload_n C 0 rfl rfl dX9_cut_23 ?_
      refine ab_iconst (v := (2 : Int32)) C dX9_cut_24 (by decide) ?_
      refine ab_icmp_ne C 34 dX9_cut_25 (by decide) (fun c3 => ?_) (fun c3 => ?_)
      · replace hF := (if_neg c3).symm.trans hF
        refine ab_lload_n C 1 rfl rfl dX9_cut_34 ?_
        obtain rfl := hF
        exact ab_lret C R0 dX9_cut_35 ⟨rfl, rfl, rfl⟩
      · replace hF := (if_pos c3).symm.trans hF
        refine ab_lload_n C 1 rfl rfl dX9_cut_28 ?_
        refine ab_l2i C dX9_cut_29 ?_
        refine ab_i2l C dX9_cut_30 ?_
        refine ab_goto C 35 dX9_cut_31 (by decide) ?_
        obtain rfl := hF
        exact ab_lret C R0 dX9_cut_35 ⟨rfl, rfl, rfl⟩
    · replace hF := (if_pos c2).symm.trans hF
      refine ab_lload_n C 1 rfl rfl dX9_cut_16 ?_
      refine ab_l2i C dX9_cut_17 ?_
      refine ab_i2s C dX9_cut_18 ?_
      refine ab_i2l C dX9_cut_19 ?_
      refine ab_goto C 35 dX9_cut_20 (by decide) ?_
      obtain rfl := hF
      exact ab_lret C R0 dX9_cut_35 ⟨rfl, rfl, rfl⟩
  · replace hF := (if_pos c1).symm.trans hF
    refine ab_lload_n C 1 rfl rfl dX9_cut_4 ?_
    refine ab_l2i C dX9_cut_5 ?_
    refine ab_i2b C dX9_cut_6 ?_
    refine ab_i2l C dX9_cut_7 ?_
    refine ab_goto C 35 dX9_cut_8 (by decide) ?_
    obtain rfl := hF
    exact ab_lret C R0 dX9_cut_35 ⟨rfl, rfl, rfl⟩
theorem dX9_sheet_0 : decode cX9_sheet 0 = .ok (.iload_n 1, 1) := by decide +kernel
theorem dX9_sheet_1 : decode cX9_sheet 1 = .ok (.invokestatic 293, 3) := by decide +kernel
theorem dX9_sheet_4 : decode cX9_sheet 4 = .ok (.ifCond .eq 21, 3) := by decide +kernel
theorem dX9_sheet_7 : decode cX9_sheet 7 = .ok (.iload_n 2, 1) := by decide +kernel
theorem dX9_sheet_8 : decode cX9_sheet 8 = .ok (.i2l, 1) := by decide +kernel
theorem dX9_sheet_9 : decode cX9_sheet 9 = .ok (.lconst 0, 1) := by decide +kernel
theorem dX9_sheet_10 : decode cX9_sheet 10 = .ok (.ldc2_w 240, 3) := by decide +kernel
theorem dX9_sheet_13 : decode cX9_sheet 13 = .ok (.invokestatic 69, 3) := by decide +kernel
theorem dX9_sheet_16 : decode cX9_sheet 16 = .ok (.ifCond .eq 9, 3) := by decide +kernel
theorem dX9_sheet_19 : decode cX9_sheet 19 = .ok (.iload_n 3, 1) := by decide +kernel
theorem dX9_sheet_20 : decode cX9_sheet 20 = .ok (.bipush 24, 2) := by decide +kernel
theorem dX9_sheet_22 : decode cX9_sheet 22 = .ok (.if_icmp .le 5, 3) := by decide +kernel
theorem dX9_sheet_25 : decode cX9_sheet 25 = .ok (.iconst (-1), 1) := by decide +kernel
theorem dX9_sheet_26 : decode cX9_sheet 26 = .ok (.ireturn, 1) := by decide +kernel
theorem dX9_sheet_27 : decode cX9_sheet 27 = .ok (.iload_n 3, 1) := by decide +kernel
theorem dX9_sheet_28 : decode cX9_sheet 28 = .ok (.ifCond .ge 6, 3) := by decide +kernel
theorem dX9_sheet_31 : decode cX9_sheet 31 = .ok (.bipush (-14), 2) := by decide +kernel
theorem dX9_sheet_33 : decode cX9_sheet 33 = .ok (.ireturn, 1) := by decide +kernel
theorem dX9_sheet_34 : decode cX9_sheet 34 = .ok (.aload_n 0, 1) := by decide +kernel
theorem dX9_sheet_35 : decode cX9_sheet 35 = .ok (.getfield 56, 3) := by decide +kernel
theorem dX9_sheet_38 : decode cX9_sheet 38 = .ok (.iload_n 1, 1) := by decide +kernel
theorem dX9_sheet_39 : decode cX9_sheet 39 = .ok (.iload_n 2, 1) := by decide +kernel
theorem dX9_sheet_40 : decode cX9_sheet 40 = .ok (.iastore, 1) := by decide +kernel
theorem dX9_sheet_41 : decode cX9_sheet 41 = .ok (.aload_n 0, 1) := by decide +kernel
theorem dX9_sheet_42 : decode cX9_sheet 42 = .ok (.getfield 59, 3) := by decide +kernel
theorem dX9_sheet_45 : decode cX9_sheet 45 = .ok (.iload_n 1, 1) := by decide +kernel
theorem dX9_sheet_46 : decode cX9_sheet 46 = .ok (.iload_n 3, 1) := by decide +kernel
theorem dX9_sheet_47 : decode cX9_sheet 47 = .ok (.iastore, 1) := by decide +kernel
theorem dX9_sheet_48 : decode cX9_sheet 48 = .ok (.iconst 0, 1) := by decide +kernel
theorem dX9_sheet_49 : decode cX9_sheet 49 = .ok (.istore 4, 2) := by decide +kernel
theorem dX9_sheet_51 : decode cX9_sheet 51 = .ok (.iload 4, 2) := by decide +kernel
theorem dX9_sheet_53 : decode cX9_sheet 53 = .ok (.bipush 24, 2) := by decide +kernel
theorem dX9_sheet_55 : decode cX9_sheet 55 = .ok (.if_icmp .ge 22, 3) := by decide +kernel
theorem dX9_sheet_58 : decode cX9_sheet 58 = .ok (.aload_n 0, 1) := by decide +kernel
theorem dX9_sheet_59 : decode cX9_sheet 59 = .ok (.getfield 62, 3) := by decide +kernel
theorem dX9_sheet_62 : decode cX9_sheet 62 = .ok (.bipush 24, 2) := by decide +kernel
theorem dX9_sheet_64 : decode cX9_sheet 64 = .ok (.iload_n 1, 1) := by decide +kernel
theorem dX9_sheet_65 : decode cX9_sheet 65 = .ok (.imul, 1) := by decide +kernel
theorem dX9_sheet_66 : decode cX9_sheet 66 = .ok (.iload 4, 2) := by decide +kernel
theorem dX9_sheet_68 : decode cX9_sheet 68 = .ok (.iadd, 1) := by decide +kernel
theorem dX9_sheet_69 : decode cX9_sheet 69 = .ok (.lconst 0, 1) := by decide +kernel
theorem dX9_sheet_70 : decode cX9_sheet 70 = .ok (.lastore, 1) := by decide +kernel
theorem dX9_sheet_71 : decode cX9_sheet 71 = .ok (.iinc 4 1, 3) := by decide +kernel
theorem dX9_sheet_74 : decode cX9_sheet 74 = .ok (.goto (-23), 3) := by decide +kernel
theorem dX9_sheet_77 : decode cX9_sheet 77 = .ok (.iload_n 3, 1) := by decide +kernel
theorem dX9_sheet_78 : decode cX9_sheet 78 = .ok (.ireturn, 1) := by decide +kernel
def X9_sheet_L51 (x1 : Int32) : Nat → Int32 → Rec → Option (Rec)
  | 0, _, _ => none
  | n51 + 1, v9, Z10 => if (24 : Int32) ≤ v9 then
      some Z10
    else
      (wrL (Z10.2.2 28) 96 (((24 : Int32) * x1) + v9) (0 : Int64)).bind fun w13 =>
      aLet (v9 + (1 : Int32)) fun v15 =>
      X9_sheet_L51 x1 n51 v15 (sL Z10 28 w13)
def X9_sheet (S0 : Rec) (x1 : Int32) (x2 : Int32) (x3 : Int32) : Option (Int32 × Rec) :=
  if (X9_isSheet x1) = 0 then
    some ((-1 : Int32), S0)
  else
    if (X9_in (x2.toInt64) (0 : Int64) (3 : Int64)) = 0 then
      some ((-1 : Int32), S0)
    else
      if x3 ≤ (24 : Int32) then
        if 0 ≤ x3 then
          (wrI (S0.2.1 26) 4 x1 x2).bind fun w5 =>
          (wrI ((sA S0 26 w5).2.1 27) 4 x1 x3).bind fun w7 =>
          (X9_sheet_L51 x1 aFu (0 : Int32) (sA (sA S0 26 w5) 27 w7)).bind fun e16 =>
          some (x3, e16)
        else
          some ((-14 : Int32), S0)
      else
        some ((-1 : Int32), S0)
set_option maxRecDepth 100000 in
set_option maxHeartbeats 4000000 in
theorem X9_sheet_ok (l : Launch) {h : aH} {nx : Nat} {a0 : Nat} {S0 : Rec} {x1 : Int32} {x2 : Int32} {x3 : Int32} (hB0 : X9_at h a0 S0) {r : Int32 × Rec} (hF : X9_sheet S0 x1 x2 x3 = some r) : aOk l 2 0 0 yX9_sheet cX9_sheet 5 (some .int) [.ref a0, .int x1, .int x2, .int x3] h nx (aMt (some (.int r.1)) nx (fun h1 => X9_at h1 a0 r.2 ∧ (∀ q, (q < a0 ∨ a0 + 20 ≤ q) → h1 q = h q))) := by
  refine aOk.of (by decide +kernel) (Nat.le_of_ble_eq_true rfl) (fun X G hX C R0 _ => ?_)
  subst hX
  show aV X G 5 0 [(0, .ref a0), (1, .int x1), (2, .int x2), (3, .int x3)] [] h nx 0 0
  have hFr : ∀ q, (q < a0 ∨ a0 + 20 ≤ q) → h q = h q := fun _ _ => rfl
  rw [X9_sheet] at hF
  refine ab_iload_n C 1 rfl rfl dX9_sheet_0 ?_
  refine ab_cSR (v := .int (X9_isSheet x1)) (st := []) C lm_X9_293 (X9_isSheet_ok (xl X) (r := (X9_isSheet x1)) rfl) rfl rfl (by decide) ⟨Nat.zero_le _, Nat.zero_le _⟩ (Nat.le_of_ble_eq_true rfl) dX9_sheet_1 ?_
  refine ab_if_eq C 25 dX9_sheet_4 (by decide) (fun c1 => ?_) (fun c1 => ?_)
  · replace hF := (if_pos c1).symm.trans hF
    refine ab_iconst (v := (-1 : Int32)) C dX9_sheet_25 (by decide) ?_
    obtain rfl := Option.some.inj hF
    exact ab_iret C R0 rfl dX9_sheet_26 ⟨rfl, rfl, hB0, hFr⟩
  · replace hF := (if_neg c1).symm.trans hF
    refine ab_iload_n C 2 rfl rfl dX9_sheet_7 ?_
    refine ab_i2l C dX9_sheet_8 ?_
    refine ab_lconst (v := (0 : Int64)) C dX9_sheet_9 (by decide) ?_
    refine ab_ldc2 (v := (3 : Int64)) C dX9_sheet_10 lq_X9_240 ?_
    refine ab_cSR (v := .int (X9_in (x2.toInt64) (0 : Int64) (3 : Int64))) (st := []) C lm_X9_69 (X9_in_ok (xl X) (r := (X9_in (x2.toInt64) (0 : Int64) (3 : Int64))) rfl) rfl rfl (by decide) ⟨Nat.zero_le _, Nat.zero_le _⟩ (Nat.le_of_ble_eq_true rfl) dX9_sheet_13 ?_
    refine ab_if_eq C 25 dX9_sheet_16 (by decide) (fun c2 => ?_) (fun c2 => ?_)
    · replace hF := (if_pos c2).symm.trans hF
      refine ab_iconst (v := (-1 : Int32)) C dX9_sheet_25 (by decide) ?_
      obtain rfl := Option.some.inj hF
      exact ab_iret C R0 rfl dX9_sheet_26 ⟨rfl, rfl, hB0, hFr⟩
    · replace hF := (if_neg c2).symm.trans hF
      refine ab_iload_n C 3 rfl rfl dX9_sheet_19 ?_
      refine ab_bipush (v := (24 : Int32)) C dX9_sheet_20 (by decide) ?_
      refine ab_icmp_le C 27 dX9_sheet_22 (by decide) (fun c3 => ?_) (fun c3 => ?_)
      · replace hF := (if_pos c3).symm.trans hF
        refine ab_iload_n C 3 rfl rfl dX9_sheet_27 ?_
        refine ab_if_ge C 34 dX9_sheet_28 (by decide) (fun c4 => ?_) (fun c4 => ?_)
        · replace hF := (if_pos c4).symm.trans hF
          refine ab_aload_n C 0 rfl rfl dX9_sheet_34 ?_
          refine ab_g9 (v := .ref (a0 + 16)) C lf_X9_56 hB0.1 rfl dX9_sheet_35 ?_
          refine ab_iload_n C 1 rfl rfl dX9_sheet_38 ?_
          refine ab_iload_n C 2 rfl rfl dX9_sheet_39 ?_
          obtain ⟨w5, hxw5, hF⟩ := Option.bind_eq_some_iff.mp hF
          refine ab_iast C (X9_r26 hB0) hxw5 dX9_sheet_40 (fun g6 eg6 og6 => ?_)
          have hB0 : X9_at g6 a0 (sA S0 26 w5) := X9_w26 hB0 eg6 og6
          have hFr : ∀ q, (q < a0 ∨ a0 + 20 ≤ q) → g6 q = h q := fun q u0 => (og6 q (by omega)).trans (hFr q u0)
          refine ab_aload_n C 0 rfl rfl dX9_sheet_41 ?_
          refine ab_g9 (v := .ref (a0 + 17)) C lf_X9_59 hB0.1 rfl dX9_sheet_42 ?_
          refine ab_iload_n C 1 rfl rfl dX9_sheet_45 ?_
          refine ab_iload_n C 3 rfl rfl dX9_sheet_46 ?_
          obtain ⟨w7, hxw7, hF⟩ := Option.bind_eq_some_iff.mp hF
          refine ab_iast C (X9_r27 hB0) hxw7 dX9_sheet_47 (fun g8 eg8 og8 => ?_)
          have hB0 : X9_at g8 a0 (sA (sA S0 26 w5) 27 w7) := X9_w27 hB0 eg8 og8
          have hFr : ∀ q, (q < a0 ∨ a0 + 20 ≤ q) → g8 q = h q := fun q u0 => (og8 q (by omega)).trans (hFr q u0)
          refine ab_iconst (v := (0 : Int32)) C dX9_sheet_48 (by decide) ?_
          refine ab_istore (lv' := [(4, .int (0 : Int32)), (0, .ref a0), (1, .int x1), (2, .int x2), (3, .int x3)]) C dX9_sheet_49 (by decide) rfl ?_
          have L51 : ∀ (n51 : Nat) (v9 : Int32) (Z10 : Rec) (g11 : aH), (X9_at g11 a0 Z10) → (∀ q, (q < a0 ∨ a0 + 20 ≤ q) → g11 q = h q) → ∀ (res51 : Rec), X9_sheet_L51 x1 n51 v9 Z10 = some res51 → (∀ (q9 : aH), (X9_at q9 a0 res51) → (∀ q, (q < a0 ∨ a0 + 20 ≤ q) → q9 q = h q) → aV X G 5 77 [(3, .int x3)] [] q9 nx 0 0) → aV X G 5 51 [(0, .ref a0), (1, .int x1), (3, .int x3), (4, .int v9)] [] g11 nx 0 0 := by
            intro n51
            induction n51 with
            | zero => intro v9 Z10 g11 hB0 hFr res51 hF KX51; cases (show (none : Option (Rec)) = some res51 from hF)
            | succ n51 ih51 =>
              intro v9 Z10 g11 hB0 hFr res51 hF KX51
              rw [X9_sheet_L51] at hF
              refine ab_iload C 3 rfl dX9_sheet_51 ?_
              refine ab_bipush (v := (24 : Int32)) C dX9_sheet_53 (by decide) ?_
              refine ab_icmp_ge C 77 dX9_sheet_55 (by decide) (fun c12 => ?_) (fun c12 => ?_)
              · replace hF := (if_pos c12).symm.trans hF
                obtain rfl := Option.some.inj hF
                refine aV.sub (lv' := [(3, .int x3)]) [2] rfl ?_
                exact KX51 g11 hB0 hFr
              · replace hF := (if_neg c12).symm.trans hF
                refine ab_aload_n C 0 rfl rfl dX9_sheet_58 ?_
                refine ab_g9 (v := .ref (a0 + 18)) C lf_X9_62 hB0.1 rfl dX9_sheet_59 ?_
                refine ab_bipush (v := (24 : Int32)) C dX9_sheet_62 (by decide) ?_
                refine ab_iload_n C 1 rfl rfl dX9_sheet_64 ?_
                refine ab_imul C dX9_sheet_65 ?_
                refine ab_iload C 3 rfl dX9_sheet_66 ?_
                refine ab_iadd C dX9_sheet_68 ?_
                refine ab_lconst (v := (0 : Int64)) C dX9_sheet_69 (by decide) ?_
                obtain ⟨w13, hxw13, hF⟩ := Option.bind_eq_some_iff.mp hF
                refine ab_last C (X9_r28 hB0) hxw13 dX9_sheet_70 (fun g14 eg14 og14 => ?_)
                have hB0 : X9_at g14 a0 (sL Z10 28 w13) := X9_w28 hB0 eg14 og14
                have hFr : ∀ q, (q < a0 ∨ a0 + 20 ≤ q) → g14 q = h q := fun q u0 => (og14 q (by omega)).trans (hFr q u0)
                obtain ⟨v15, qv15⟩ : ∃ y : Int32, y = (v9 + (1 : Int32)) := ⟨_, rfl⟩
                replace hF := aLet_e hF v15 qv15
                refine ab_iinc (lv' := [(4, .int v15), (0, .ref a0), (1, .int x1), (3, .int x3)]) C 3 rfl dX9_sheet_71 (by rw [qv15]; rfl) (by decide) rfl ?_
                refine ab_goto C 51 dX9_sheet_74 (by decide) ?_
                refine aV.sub (lv' := [(0, .ref a0), (1, .int x1), (3, .int x3), (4, .int v15)]) [1, 2, 3, 0] rfl ?_
                exact ih51 v15 (sL Z10 28 w13) g14 hB0 hFr res51 hF KX51
          refine aV.sub (lv' := [(0, .ref a0), (1, .int x1), (3, .int x3), (4, .int (0 : Int32))]) [1, 2, 4, 0] rfl ?_
          obtain ⟨e16, he16, hF⟩ := Option.bind_eq_some_iff.mp hF
          refine L51 aFu (0 : Int32) (sA (sA S0 26 w5) 27 w7) g8 hB0 hFr e16 he16 (fun g17 hB0 hFr => ?_)
          refine ab_iload_n C 0 rfl rfl dX9_sheet_77 ?_
          obtain rfl := Option.some.inj hF
          exact ab_iret C R0 rfl dX9_sheet_78 ⟨rfl, rfl, hB0, hFr⟩
        · replace hF := (if_neg c4).symm.trans hF
          refine ab_bipush (v := (-14 : Int32)) C dX9_sheet_31 (by decide) ?_
          obtain rfl := Option.some.inj hF
          exact ab_iret C R0 rfl dX9_sheet_33 ⟨rfl, rfl, hB0, hFr⟩
      · replace hF := (if_neg c3).symm.trans hF
        refine ab_iconst (v := (-1 : Int32)) C dX9_sheet_25 (by decide) ?_
        obtain rfl := Option.some.inj hF
        exact ab_iret C R0 rfl dX9_sheet_26 ⟨rfl, rfl, hB0, hFr⟩
theorem dX9_drop_0 : decode cX9_drop 0 = .ok (.iload_n 1, 1) := by decide +kernel
theorem dX9_drop_1 : decode cX9_drop 1 = .ok (.invokestatic 293, 3) := by decide +kernel
theorem dX9_drop_4 : decode cX9_drop 4 = .ok (.ifCond .ne 5, 3) := by decide +kernel
theorem dX9_drop_7 : decode cX9_drop 7 = .ok (.iconst (-1), 1) := by decide +kernel
theorem dX9_drop_8 : decode cX9_drop 8 = .ok (.ireturn, 1) := by decide +kernel
theorem dX9_drop_9 : decode cX9_drop 9 = .ok (.aload_n 0, 1) := by decide +kernel
theorem dX9_drop_10 : decode cX9_drop 10 = .ok (.getfield 56, 3) := by decide +kernel
theorem dX9_drop_13 : decode cX9_drop 13 = .ok (.iload_n 1, 1) := by decide +kernel
theorem dX9_drop_14 : decode cX9_drop 14 = .ok (.iaload, 1) := by decide +kernel
theorem dX9_drop_15 : decode cX9_drop 15 = .ok (.ifCond .ge 6, 3) := by decide +kernel
theorem dX9_drop_18 : decode cX9_drop 18 = .ok (.bipush (-11), 2) := by decide +kernel
theorem dX9_drop_20 : decode cX9_drop 20 = .ok (.ireturn, 1) := by decide +kernel
theorem dX9_drop_21 : decode cX9_drop 21 = .ok (.aload_n 0, 1) := by decide +kernel
theorem dX9_drop_22 : decode cX9_drop 22 = .ok (.getfield 56, 3) := by decide +kernel
theorem dX9_drop_25 : decode cX9_drop 25 = .ok (.iload_n 1, 1) := by decide +kernel
theorem dX9_drop_26 : decode cX9_drop 26 = .ok (.iconst (-1), 1) := by decide +kernel
theorem dX9_drop_27 : decode cX9_drop 27 = .ok (.iastore, 1) := by decide +kernel
theorem dX9_drop_28 : decode cX9_drop 28 = .ok (.aload_n 0, 1) := by decide +kernel
theorem dX9_drop_29 : decode cX9_drop 29 = .ok (.getfield 59, 3) := by decide +kernel
theorem dX9_drop_32 : decode cX9_drop 32 = .ok (.iload_n 1, 1) := by decide +kernel
theorem dX9_drop_33 : decode cX9_drop 33 = .ok (.iaload, 1) := by decide +kernel
theorem dX9_drop_34 : decode cX9_drop 34 = .ok (.ireturn, 1) := by decide +kernel
def X9_drop (S0 : Rec) (x1 : Int32) : Option (Int32 × Rec) :=
  if (X9_isSheet x1) = 0 then
    some ((-1 : Int32), S0)
  else
    (rdI (S0.2.1 26) 4 x1).bind fun v2 =>
    if 0 ≤ v2 then
      (wrI (S0.2.1 26) 4 x1 (-1 : Int32)).bind fun w4 =>
      (rdI ((sA S0 26 w4).2.1 27) 4 x1).bind fun v6 =>
      some (v6, (sA S0 26 w4))
    else
      some ((-11 : Int32), S0)
set_option maxRecDepth 100000 in
set_option maxHeartbeats 4000000 in
theorem X9_drop_ok (l : Launch) {h : aH} {nx : Nat} {a0 : Nat} {S0 : Rec} {x1 : Int32} (hB0 : X9_at h a0 S0) {r : Int32 × Rec} (hF : X9_drop S0 x1 = some r) : aOk l 2 0 0 yX9_drop cX9_drop 2 (some .int) [.ref a0, .int x1] h nx (aMt (some (.int r.1)) nx (fun h1 => X9_at h1 a0 r.2 ∧ (∀ q, (q < a0 ∨ a0 + 20 ≤ q) → h1 q = h q))) := by
  refine aOk.of (by decide +kernel) (Nat.le_of_ble_eq_true rfl) (fun X G hX C R0 _ => ?_)
  subst hX
  show aV X G 2 0 [(0, .ref a0), (1, .int x1)] [] h nx 0 0
  have hFr : ∀ q, (q < a0 ∨ a0 + 20 ≤ q) → h q = h q := fun _ _ => rfl
  rw [X9_drop] at hF
  refine ab_iload_n C 1 rfl rfl dX9_drop_0 ?_
  refine ab_cSR (v := .int (X9_isSheet x1)) (st := []) C lm_X9_293 (X9_isSheet_ok (xl X) (r := (X9_isSheet x1)) rfl) rfl rfl (by decide) ⟨Nat.zero_le _, Nat.zero_le _⟩ (Nat.le_of_ble_eq_true rfl) dX9_drop_1 ?_
  refine ab_if_ne C 9 dX9_drop_4 (by decide) (fun c1 => ?_) (fun c1 => ?_)
  · replace hF := (if_neg c1).symm.trans hF
    refine ab_aload_n C 0 rfl rfl dX9_drop_9 ?_
    refine ab_g9 (v := .ref (a0 + 16)) C lf_X9_56 hB0.1 rfl dX9_drop_10 ?_
    refine ab_iload_n C 1 rfl rfl dX9_drop_13 ?_
    obtain ⟨v2, hxv2, hF⟩ := Option.bind_eq_some_iff.mp hF
    refine ab_iald C (X9_r26 hB0) hxv2 dX9_drop_14 ?_
    refine ab_if_ge C 21 dX9_drop_15 (by decide) (fun c3 => ?_) (fun c3 => ?_)
    · replace hF := (if_pos c3).symm.trans hF
      refine ab_aload_n C 0 rfl rfl dX9_drop_21 ?_
      refine ab_g9 (v := .ref (a0 + 16)) C lf_X9_56 hB0.1 rfl dX9_drop_22 ?_
      refine ab_iload_n C 1 rfl rfl dX9_drop_25 ?_
      refine ab_iconst (v := (-1 : Int32)) C dX9_drop_26 (by decide) ?_
      obtain ⟨w4, hxw4, hF⟩ := Option.bind_eq_some_iff.mp hF
      refine ab_iast C (X9_r26 hB0) hxw4 dX9_drop_27 (fun g5 eg5 og5 => ?_)
      have hB0 : X9_at g5 a0 (sA S0 26 w4) := X9_w26 hB0 eg5 og5
      have hFr : ∀ q, (q < a0 ∨ a0 + 20 ≤ q) → g5 q = h q := fun q u0 => (og5 q (by omega)).trans (hFr q u0)
      refine ab_aload_n C 0 rfl rfl dX9_drop_28 ?_
      refine ab_g9 (v := .ref (a0 + 17)) C lf_X9_59 hB0.1 rfl dX9_drop_29 ?_
      refine ab_iload_n C 1 rfl rfl dX9_drop_32 ?_
      obtain ⟨v6, hxv6, hF⟩ := Option.bind_eq_some_iff.mp hF
      refine ab_iald C (X9_r27 hB0) hxv6 dX9_drop_33 ?_
      obtain rfl := Option.some.inj hF
      exact ab_iret C R0 rfl dX9_drop_34 ⟨rfl, rfl, hB0, hFr⟩
    · replace hF := (if_neg c3).symm.trans hF
      refine ab_bipush (v := (-11 : Int32)) C dX9_drop_18 (by decide) ?_
      obtain rfl := Option.some.inj hF
      exact ab_iret C R0 rfl dX9_drop_20 ⟨rfl, rfl, hB0, hFr⟩
  · replace hF := (if_pos c1).symm.trans hF
    refine ab_iconst (v := (-1 : Int32)) C dX9_drop_7 (by decide) ?_
    obtain rfl := Option.some.inj hF
    exact ab_iret C R0 rfl dX9_drop_8 ⟨rfl, rfl, hB0, hFr⟩
theorem dX9_refusal_0 : decode cX9_refusal 0 = .ok (.aload_n 0, 1) := by decide +kernel
theorem dX9_refusal_1 : decode cX9_refusal 1 = .ok (.getfield 56, 3) := by decide +kernel
theorem dX9_refusal_4 : decode cX9_refusal 4 = .ok (.iload_n 1, 1) := by decide +kernel
theorem dX9_refusal_5 : decode cX9_refusal 5 = .ok (.iaload, 1) := by decide +kernel
theorem dX9_refusal_6 : decode cX9_refusal 6 = .ok (.ifCond .ge 6, 3) := by decide +kernel
theorem dX9_refusal_9 : decode cX9_refusal 9 = .ok (.bipush (-11), 2) := by decide +kernel
theorem dX9_refusal_11 : decode cX9_refusal 11 = .ok (.ireturn, 1) := by decide +kernel
theorem dX9_refusal_12 : decode cX9_refusal 12 = .ok (.aload_n 0, 1) := by decide +kernel
theorem dX9_refusal_13 : decode cX9_refusal 13 = .ok (.getfield 56, 3) := by decide +kernel
theorem dX9_refusal_16 : decode cX9_refusal 16 = .ok (.iload_n 1, 1) := by decide +kernel
theorem dX9_refusal_17 : decode cX9_refusal 17 = .ok (.iaload, 1) := by decide +kernel
theorem dX9_refusal_18 : decode cX9_refusal 18 = .ok (.iload_n 2, 1) := by decide +kernel
theorem dX9_refusal_19 : decode cX9_refusal 19 = .ok (.if_icmp .eq 6, 3) := by decide +kernel
theorem dX9_refusal_22 : decode cX9_refusal 22 = .ok (.bipush (-12), 2) := by decide +kernel
theorem dX9_refusal_24 : decode cX9_refusal 24 = .ok (.ireturn, 1) := by decide +kernel
theorem dX9_refusal_25 : decode cX9_refusal 25 = .ok (.iload_n 3, 1) := by decide +kernel
theorem dX9_refusal_26 : decode cX9_refusal 26 = .ok (.ifCond .lt 20, 3) := by decide +kernel
theorem dX9_refusal_29 : decode cX9_refusal 29 = .ok (.iload_n 3, 1) := by decide +kernel
theorem dX9_refusal_30 : decode cX9_refusal 30 = .ok (.i2l, 1) := by decide +kernel
theorem dX9_refusal_31 : decode cX9_refusal 31 = .ok (.iload 4, 2) := by decide +kernel
theorem dX9_refusal_33 : decode cX9_refusal 33 = .ok (.i2l, 1) := by decide +kernel
theorem dX9_refusal_34 : decode cX9_refusal 34 = .ok (.ladd, 1) := by decide +kernel
theorem dX9_refusal_35 : decode cX9_refusal 35 = .ok (.aload_n 0, 1) := by decide +kernel
theorem dX9_refusal_36 : decode cX9_refusal 36 = .ok (.getfield 59, 3) := by decide +kernel
theorem dX9_refusal_39 : decode cX9_refusal 39 = .ok (.iload_n 1, 1) := by decide +kernel
theorem dX9_refusal_40 : decode cX9_refusal 40 = .ok (.iaload, 1) := by decide +kernel
theorem dX9_refusal_41 : decode cX9_refusal 41 = .ok (.i2l, 1) := by decide +kernel
theorem dX9_refusal_42 : decode cX9_refusal 42 = .ok (.lcmp, 1) := by decide +kernel
theorem dX9_refusal_43 : decode cX9_refusal 43 = .ok (.ifCond .le 8, 3) := by decide +kernel
theorem dX9_refusal_46 : decode cX9_refusal 46 = .ok (.bipush (-13), 2) := by decide +kernel
theorem dX9_refusal_48 : decode cX9_refusal 48 = .ok (.goto 4, 3) := by decide +kernel
theorem dX9_refusal_51 : decode cX9_refusal 51 = .ok (.iconst 0, 1) := by decide +kernel
theorem dX9_refusal_52 : decode cX9_refusal 52 = .ok (.ireturn, 1) := by decide +kernel
def X9_refusal (S0 : Rec) (x1 : Int32) (x2 : Int32) (x3 : Int32) (x4 : Int32) : Option (Int32) :=
  (rdI (S0.2.1 26) 4 x1).bind fun v1 =>
  if 0 ≤ v1 then
    (rdI (S0.2.1 26) 4 x1).bind fun v3 =>
    if v3 = x2 then
      if x3 < 0 then
        some (-13 : Int32)
      else
        (rdI (S0.2.1 27) 4 x1).bind fun v6 =>
        if (lg_cmp ((x3.toInt64) + (x4.toInt64)) (v6.toInt64)) ≤ 0 then
          some (0 : Int32)
        else
          some (-13 : Int32)
    else
      some (-12 : Int32)
  else
    some (-11 : Int32)
set_option maxRecDepth 100000 in
set_option maxHeartbeats 4000000 in
theorem X9_refusal_ok (l : Launch) {h : aH} {nx : Nat} {a0 : Nat} {S0 : Rec} {x1 : Int32} {x2 : Int32} {x3 : Int32} {x4 : Int32} (hB0 : X9_at h a0 S0) {r : Int32} (hF : X9_refusal S0 x1 x2 x3 x4 = some r) : aOk l 0 0 0 yX9_refusal cX9_refusal 5 (some .int) [.ref a0, .int x1, .int x2, .int x3, .int x4] h nx (aRd (.int r) h nx) := by
  refine aOk.of (by decide +kernel) (Nat.le_of_ble_eq_true rfl) (fun X G hX C R0 _ => ?_)
  subst hX
  show aV X G 5 0 [(0, .ref a0), (1, .int x1), (2, .int x2), (3, .int x3), (4, .int x4)] [] h nx 0 0
  rw [X9_refusal] at hF
  refine ab_aload_n C 0 rfl rfl dX9_refusal_0 ?_
  refine ab_g9 (v := .ref (a0 + 16)) C lf_X9_56 hB0.1 rfl dX9_refusal_1 ?_
  refine ab_iload_n C 1 rfl rfl dX9_refusal_4 ?_
  obtain ⟨v1, hxv1, hF⟩ := Option.bind_eq_some_iff.mp hF
  refine ab_iald C (X9_r26 hB0) hxv1 dX9_refusal_5 ?_
  refine ab_if_ge C 12 dX9_refusal_6 (by decide) (fun c2 => ?_) (fun c2 => ?_)
  · replace hF := (if_pos c2).symm.trans hF
    refine ab_aload_n C 0 rfl rfl dX9_refusal_12 ?_
    refine ab_g9 (v := .ref (a0 + 16)) C lf_X9_56 hB0.1 rfl dX9_refusal_13 ?_
    refine ab_iload_n C 1 rfl rfl dX9_refusal_16 ?_
    obtain ⟨v3, hxv3, hF⟩ := Option.bind_eq_some_iff.mp hF
    refine ab_iald C (X9_r26 hB0) hxv3 dX9_refusal_17 ?_
    refine ab_iload_n C 2 rfl rfl dX9_refusal_18 ?_
    refine ab_icmp_eq C 25 dX9_refusal_19 (by decide) (fun c4 => ?_) (fun c4 => ?_)
    · replace hF := (if_pos c4).symm.trans hF
      refine ab_iload_n C 3 rfl rfl dX9_refusal_25 ?_
      refine ab_if_lt C 46 dX9_refusal_26 (by decide) (fun c5 => ?_) (fun c5 => ?_)
      · replace hF := (if_pos c5).symm.trans hF
        refine ab_bipush (v := (-13 : Int32)) C dX9_refusal_46 (by decide) ?_
        refine ab_goto C 52 dX9_refusal_48 (by decide) ?_
        obtain rfl := Option.some.inj hF
        exact ab_iret C R0 rfl dX9_refusal_52 ⟨rfl, rfl, rfl⟩
      · replace hF := (if_neg c5).symm.trans hF
        refine ab_iload_n C 3 rfl rfl dX9_refusal_29 ?_
        refine ab_i2l C dX9_refusal_30 ?_
        refine ab_iload C 4 rfl dX9_refusal_31 ?_
        refine ab_i2l C dX9_refusal_33 ?_
        refine ab_ladd C dX9_refusal_34 ?_
        refine ab_aload_n C 0 rfl rfl dX9_refusal_35 ?_
        refine ab_g9 (v := .ref (a0 + 17)) C lf_X9_59 hB0.1 rfl dX9_refusal_36 ?_
        refine ab_iload_n C 1 rfl rfl dX9_refusal_39 ?_
        obtain ⟨v6, hxv6, hF⟩ := Option.bind_eq_some_iff.mp hF
        refine ab_iald C (X9_r27 hB0) hxv6 dX9_refusal_40 ?_
        refine ab_i2l C dX9_refusal_41 ?_
        refine ab_lcmp C dX9_refusal_42 ?_
        refine ab_if_le C 51 dX9_refusal_43 (by decide) (fun c7 => ?_) (fun c7 => ?_)
        · replace hF := (if_pos c7).symm.trans hF
          refine ab_iconst (v := (0 : Int32)) C dX9_refusal_51 (by decide) ?_
          obtain rfl := Option.some.inj hF
          exact ab_iret C R0 rfl dX9_refusal_52 ⟨rfl, rfl, rfl⟩
        · replace hF := (if_neg c7).symm.trans hF
          refine ab_bipush (v := (-13 : Int32)) C dX9_refusal_46 (by decide) ?_
          refine ab_goto C 52 dX9_refusal_48 (by decide) ?_
          obtain rfl := Option.some.inj hF
          exact ab_iret C R0 rfl dX9_refusal_52 ⟨rfl, rfl, rfl⟩
    · replace hF := (if_neg c4).symm.trans hF
      refine ab_bipush (v := (-12 : Int32)) C dX9_refusal_22 (by decide) ?_
      obtain rfl := Option.some.inj hF
      exact ab_iret C R0 rfl dX9_refusal_24 ⟨rfl, rfl, rfl⟩
  · replace hF := (if_neg c2).symm.trans hF
    refine ab_bipush (v := (-11 : Int32)) C dX9_refusal_9 (by decide) ?_
    obtain rfl := Option.some.inj hF
    exact ab_iret C R0 rfl dX9_refusal_11 ⟨rfl, rfl, rfl⟩
theorem dX9_item_0 : decode cX9_item 0 = .ok (.iload_n 1, 1) := by decide +kernel
theorem dX9_item_1 : decode cX9_item 1 = .ok (.invokestatic 293, 3) := by decide +kernel
theorem dX9_item_4 : decode cX9_item 4 = .ok (.ifCond .eq 15, 3) := by decide +kernel
theorem dX9_item_7 : decode cX9_item 7 = .ok (.iload_n 2, 1) := by decide +kernel
theorem dX9_item_8 : decode cX9_item 8 = .ok (.i2l, 1) := by decide +kernel
theorem dX9_item_9 : decode cX9_item 9 = .ok (.lconst 0, 1) := by decide +kernel
theorem dX9_item_10 : decode cX9_item 10 = .ok (.ldc2_w 240, 3) := by decide +kernel
theorem dX9_item_13 : decode cX9_item 13 = .ok (.invokestatic 69, 3) := by decide +kernel
theorem dX9_item_16 : decode cX9_item 16 = .ok (.ifCond .ne 7, 3) := by decide +kernel
theorem dX9_item_19 : decode cX9_item 19 = .ok (.ldc2_w 296, 3) := by decide +kernel
theorem dX9_item_22 : decode cX9_item 22 = .ok (.lreturn, 1) := by decide +kernel
theorem dX9_item_23 : decode cX9_item 23 = .ok (.aload_n 0, 1) := by decide +kernel
theorem dX9_item_24 : decode cX9_item 24 = .ok (.iload_n 1, 1) := by decide +kernel
theorem dX9_item_25 : decode cX9_item 25 = .ok (.iload_n 2, 1) := by decide +kernel
theorem dX9_item_26 : decode cX9_item 26 = .ok (.iload_n 3, 1) := by decide +kernel
theorem dX9_item_27 : decode cX9_item 27 = .ok (.iconst 1, 1) := by decide +kernel
theorem dX9_item_28 : decode cX9_item 28 = .ok (.invokevirtual 298, 3) := by decide +kernel
theorem dX9_item_31 : decode cX9_item 31 = .ok (.istore 6, 2) := by decide +kernel
theorem dX9_item_33 : decode cX9_item 33 = .ok (.iload 6, 2) := by decide +kernel
theorem dX9_item_35 : decode cX9_item 35 = .ok (.ifCond .eq 7, 3) := by decide +kernel
theorem dX9_item_38 : decode cX9_item 38 = .ok (.iload 6, 2) := by decide +kernel
theorem dX9_item_40 : decode cX9_item 40 = .ok (.i2l, 1) := by decide +kernel
theorem dX9_item_41 : decode cX9_item 41 = .ok (.lreturn, 1) := by decide +kernel
theorem dX9_item_42 : decode cX9_item 42 = .ok (.aload_n 0, 1) := by decide +kernel
theorem dX9_item_43 : decode cX9_item 43 = .ok (.getfield 62, 3) := by decide +kernel
theorem dX9_item_46 : decode cX9_item 46 = .ok (.bipush 24, 2) := by decide +kernel
theorem dX9_item_48 : decode cX9_item 48 = .ok (.iload_n 1, 1) := by decide +kernel
theorem dX9_item_49 : decode cX9_item 49 = .ok (.imul, 1) := by decide +kernel
theorem dX9_item_50 : decode cX9_item 50 = .ok (.iload_n 3, 1) := by decide +kernel
theorem dX9_item_51 : decode cX9_item 51 = .ok (.iadd, 1) := by decide +kernel
theorem dX9_item_52 : decode cX9_item 52 = .ok (.iload_n 2, 1) := by decide +kernel
theorem dX9_item_53 : decode cX9_item 53 = .ok (.lload 4, 2) := by decide +kernel
theorem dX9_item_55 : decode cX9_item 55 = .ok (.invokestatic 302, 3) := by decide +kernel
theorem dX9_item_58 : decode cX9_item 58 = .ok (.lastore, 1) := by decide +kernel
theorem dX9_item_59 : decode cX9_item 59 = .ok (.aload_n 0, 1) := by decide +kernel
theorem dX9_item_60 : decode cX9_item 60 = .ok (.getfield 62, 3) := by decide +kernel
theorem dX9_item_63 : decode cX9_item 63 = .ok (.bipush 24, 2) := by decide +kernel
theorem dX9_item_65 : decode cX9_item 65 = .ok (.iload_n 1, 1) := by decide +kernel
theorem dX9_item_66 : decode cX9_item 66 = .ok (.imul, 1) := by decide +kernel
theorem dX9_item_67 : decode cX9_item 67 = .ok (.iload_n 3, 1) := by decide +kernel
theorem dX9_item_68 : decode cX9_item 68 = .ok (.iadd, 1) := by decide +kernel
theorem dX9_item_69 : decode cX9_item 69 = .ok (.laload, 1) := by decide +kernel
theorem dX9_item_70 : decode cX9_item 70 = .ok (.lreturn, 1) := by decide +kernel
def X9_item (S0 : Rec) (x1 : Int32) (x2 : Int32) (x3 : Int32) (y4 : Int64) : Option (Int64 × Rec) :=
  if (X9_isSheet x1) = 0 then
    some ((-1 : Int64), S0)
  else
    if (X9_in (x2.toInt64) (0 : Int64) (3 : Int64)) = 0 then
      some ((-1 : Int64), S0)
    else
      (X9_refusal S0 x1 x2 x3 (1 : Int32)).bind fun v3 =>
      if v3 = 0 then
        (wrL (S0.2.2 28) 96 (((24 : Int32) * x1) + x3) (X9_cut x2 y4)).bind fun w5 =>
        (rdL ((sL S0 28 w5).2.2 28) 96 (((24 : Int32) * x1) + x3)).bind fun v7 =>
        some (v7, (sL S0 28 w5))
      else
        some ((v3.toInt64), S0)
set_option maxRecDepth 100000 in
set_option maxHeartbeats 4000000 in
theorem X9_item_ok (l : Launch) {h : aH} {nx : Nat} {a0 : Nat} {S0 : Rec} {x1 : Int32} {x2 : Int32} {x3 : Int32} {y4 : Int64} (hB0 : X9_at h a0 S0) {r : Int64 × Rec} (hF : X9_item S0 x1 x2 x3 y4 = some r) : aOk l 2 0 0 yX9_item cX9_item 7 (some .long) [.ref a0, .int x1, .int x2, .int x3, .long y4] h nx (aMt (some (.long r.1)) nx (fun h1 => X9_at h1 a0 r.2 ∧ (∀ q, (q < a0 ∨ a0 + 20 ≤ q) → h1 q = h q))) := by
  refine aOk.of (by decide +kernel) (Nat.le_of_ble_eq_true rfl) (fun X G hX C R0 _ => ?_)
  subst hX
  show aV X G 7 0 [(0, .ref a0), (1, .int x1), (2, .int x2), (3, .int x3), (4, .long y4)] [] h nx 0 0
  have hFr : ∀ q, (q < a0 ∨ a0 + 20 ≤ q) → h q = h q := fun _ _ => rfl
  rw [X9_item] at hF
  refine ab_iload_n C 1 rfl rfl dX9_item_0 ?_
  refine ab_cSR (v := .int (X9_isSheet x1)) (st := []) C lm_X9_293 (X9_isSheet_ok (xl X) (r := (X9_isSheet x1)) rfl) rfl rfl (by decide) ⟨Nat.zero_le _, Nat.zero_le _⟩ (Nat.le_of_ble_eq_true rfl) dX9_item_1 ?_
  refine ab_if_eq C 19 dX9_item_4 (by decide) (fun c1 => ?_) (fun c1 => ?_)
  · replace hF := (if_pos c1).symm.trans hF
    refine ab_ldc2 (v := (-1 : Int64)) C dX9_item_19 lq_X9_296 ?_
    obtain rfl := Option.some.inj hF
    exact ab_lret C R0 dX9_item_22 ⟨rfl, rfl, hB0, hFr⟩
  · replace hF := (if_neg c1).symm.trans hF
    refine ab_iload_n C 2 rfl rfl dX9_item_7 ?_
    refine ab_i2l C dX9_item_8 ?_
    refine ab_lconst (v := (0 : Int64)) C dX9_item_9 (by decide) ?_
    refine ab_ldc2 (v := (3 : Int64)) C dX9_item_10 lq_X9_240 ?_
    refine ab_cSR (v := .int (X9_in (x2.toInt64) (0 : Int64) (3 : Int64))) (st := []) C lm_X9_69 (X9_in_ok (xl X) (r := (X9_in (x2.toInt64) (0 : Int64) (3 : Int64))) rfl) rfl rfl (by decide) ⟨Nat.zero_le _, Nat.zero_le _⟩ (Nat.le_of_ble_eq_true rfl) dX9_item_13 ?_
    refine ab_if_ne C 23 dX9_item_16 (by decide) (fun c2 => ?_) (fun c2 => ?_)
    · replace hF := (if_neg c2).symm.trans hF
      refine ab_aload_n C 0 rfl rfl dX9_item_23 ?_
      refine ab_iload_n C 1 rfl rfl dX9_item_24 ?_
      refine ab_iload_n C 2 rfl rfl dX9_item_25 ?_
      refine ab_iload_n C 3 rfl rfl dX9_item_26 ?_
      refine ab_iconst (v := (1 : Int32)) C dX9_item_27 (by decide) ?_
      obtain ⟨v3, hxv3, hF⟩ := Option.bind_eq_some_iff.mp hF
      refine ab_cVR (v := .int v3) (st := []) C lm_X9_298 (X9_refusal_ok (xl X) hB0 (r := v3) hxv3) [.int x1, .int x2, .int x3, .int (1 : Int32)] rfl hB0.1 rfl rfl rfl (by decide) ⟨Nat.zero_le _, Nat.zero_le _⟩ (Nat.le_of_ble_eq_true rfl) dX9_item_28 ?_
      refine ab_istore (lv' := [(6, .int v3), (0, .ref a0), (1, .int x1), (2, .int x2), (3, .int x3), (4, .long y4)]) C dX9_item_31 (by decide) rfl ?_
      refine ab_iload C 0 rfl dX9_item_33 ?_
      refine ab_if_eq C 42 dX9_item_35 (by decide) (fun c4 => ?_) (fun c4 => ?_)
      · replace hF := (if_pos c4).symm.trans hF
        refine ab_aload_n C 1 rfl rfl dX9_item_42 ?_
        refine ab_g9 (v := .ref (a0 + 18)) C lf_X9_62 hB0.1 rfl dX9_item_43 ?_
        refine ab_bipush (v := (24 : Int32)) C dX9_item_46 (by decide) ?_
        refine ab_iload_n C 2 rfl rfl dX9_item_48 ?_
        refine ab_imul C dX9_item_49 ?_
        refine ab_iload_n C 4 rfl rfl dX9_item_50 ?_
        refine ab_iadd C dX9_item_51 ?_
        refine ab_iload_n C 3 rfl rfl dX9_item_52 ?_
        refine ab_lload C 5 rfl dX9_item_53 ?_
        refine ab_cSR (v := .long (X9_cut x2 y4)) (st := [.int (((24 : Int32) * x1) + x3), .ref (a0 + 18)]) C lm_X9_302 (X9_cut_ok (xl X) (r := (X9_cut x2 y4)) rfl) rfl rfl (by decide) ⟨Nat.zero_le _, Nat.zero_le _⟩ (Nat.le_of_ble_eq_true rfl) dX9_item_55 ?_
        obtain ⟨w5, hxw5, hF⟩ := Option.bind_eq_some_iff.mp hF
        refine ab_last C (X9_r28 hB0) hxw5 dX9_item_58 (fun g6 eg6 og6 => ?_)
        have hB0 : X9_at g6 a0 (sL S0 28 w5) := X9_w28 hB0 eg6 og6
        have hFr : ∀ q, (q < a0 ∨ a0 + 20 ≤ q) → g6 q = h q := fun q u0 => (og6 q (by omega)).trans (hFr q u0)
        refine ab_aload_n C 1 rfl rfl dX9_item_59 ?_
        refine ab_g9 (v := .ref (a0 + 18)) C lf_X9_62 hB0.1 rfl dX9_item_60 ?_
        refine ab_bipush (v := (24 : Int32)) C dX9_item_63 (by decide) ?_
        refine ab_iload_n C 2 rfl rfl dX9_item_65 ?_
        refine ab_imul C dX9_item_66 ?_
        refine ab_iload_n C 4 rfl rfl dX9_item_67 ?_
        refine ab_iadd C dX9_item_68 ?_
        obtain ⟨v7, hxv7, hF⟩ := Option.bind_eq_some_iff.mp hF
        refine ab_lald C (X9_r28 hB0) hxv7 dX9_item_69 ?_
        obtain rfl := Option.some.inj hF
        exact ab_lret C R0 dX9_item_70 ⟨rfl, rfl, hB0, hFr⟩
      · replace hF := (if_neg c4).symm.trans hF
        refine ab_iload C 0 rfl dX9_item_38 ?_
        refine ab_i2l C dX9_item_40 ?_
        obtain rfl := Option.some.inj hF
        exact ab_lret C R0 dX9_item_41 ⟨rfl, rfl, hB0, hFr⟩
    · replace hF := (if_pos c2).symm.trans hF
      refine ab_ldc2 (v := (-1 : Int64)) C dX9_item_19 lq_X9_296 ?_
      obtain rfl := Option.some.inj hF
      exact ab_lret C R0 dX9_item_22 ⟨rfl, rfl, hB0, hFr⟩
theorem dX9_copy_0 : decode cX9_copy 0 = .ok (.iload_n 1, 1) := by decide +kernel
theorem dX9_copy_1 : decode cX9_copy 1 = .ok (.invokestatic 293, 3) := by decide +kernel
theorem dX9_copy_4 : decode cX9_copy 4 = .ok (.ifCond .eq 10, 3) := by decide +kernel
theorem dX9_copy_7 : decode cX9_copy 7 = .ok (.iload_n 3, 1) := by decide +kernel
theorem dX9_copy_8 : decode cX9_copy 8 = .ok (.invokestatic 293, 3) := by decide +kernel
theorem dX9_copy_11 : decode cX9_copy 11 = .ok (.ifCond .ne 5, 3) := by decide +kernel
theorem dX9_copy_14 : decode cX9_copy 14 = .ok (.iconst (-1), 1) := by decide +kernel
theorem dX9_copy_15 : decode cX9_copy 15 = .ok (.ireturn, 1) := by decide +kernel
theorem dX9_copy_16 : decode cX9_copy 16 = .ok (.aload_n 0, 1) := by decide +kernel
theorem dX9_copy_17 : decode cX9_copy 17 = .ok (.getfield 56, 3) := by decide +kernel
theorem dX9_copy_20 : decode cX9_copy 20 = .ok (.iload_n 1, 1) := by decide +kernel
theorem dX9_copy_21 : decode cX9_copy 21 = .ok (.iaload, 1) := by decide +kernel
theorem dX9_copy_22 : decode cX9_copy 22 = .ok (.ifCond .lt 12, 3) := by decide +kernel
theorem dX9_copy_25 : decode cX9_copy 25 = .ok (.aload_n 0, 1) := by decide +kernel
theorem dX9_copy_26 : decode cX9_copy 26 = .ok (.getfield 56, 3) := by decide +kernel
theorem dX9_copy_29 : decode cX9_copy 29 = .ok (.iload_n 3, 1) := by decide +kernel
theorem dX9_copy_30 : decode cX9_copy 30 = .ok (.iaload, 1) := by decide +kernel
theorem dX9_copy_31 : decode cX9_copy 31 = .ok (.ifCond .ge 6, 3) := by decide +kernel
theorem dX9_copy_34 : decode cX9_copy 34 = .ok (.bipush (-11), 2) := by decide +kernel
theorem dX9_copy_36 : decode cX9_copy 36 = .ok (.ireturn, 1) := by decide +kernel
theorem dX9_copy_37 : decode cX9_copy 37 = .ok (.aload_n 0, 1) := by decide +kernel
theorem dX9_copy_38 : decode cX9_copy 38 = .ok (.getfield 56, 3) := by decide +kernel
theorem dX9_copy_41 : decode cX9_copy 41 = .ok (.iload_n 1, 1) := by decide +kernel
theorem dX9_copy_42 : decode cX9_copy 42 = .ok (.iaload, 1) := by decide +kernel
theorem dX9_copy_43 : decode cX9_copy 43 = .ok (.aload_n 0, 1) := by decide +kernel
theorem dX9_copy_44 : decode cX9_copy 44 = .ok (.getfield 56, 3) := by decide +kernel
theorem dX9_copy_47 : decode cX9_copy 47 = .ok (.iload_n 3, 1) := by decide +kernel
theorem dX9_copy_48 : decode cX9_copy 48 = .ok (.iaload, 1) := by decide +kernel
theorem dX9_copy_49 : decode cX9_copy 49 = .ok (.if_icmp .eq 6, 3) := by decide +kernel
theorem dX9_copy_52 : decode cX9_copy 52 = .ok (.bipush (-12), 2) := by decide +kernel
theorem dX9_copy_54 : decode cX9_copy 54 = .ok (.ireturn, 1) := by decide +kernel
theorem dX9_copy_55 : decode cX9_copy 55 = .ok (.iload_n 2, 1) := by decide +kernel
theorem dX9_copy_56 : decode cX9_copy 56 = .ok (.ifCond .lt 48, 3) := by decide +kernel
theorem dX9_copy_59 : decode cX9_copy 59 = .ok (.iload 4, 2) := by decide +kernel
theorem dX9_copy_61 : decode cX9_copy 61 = .ok (.ifCond .lt 43, 3) := by decide +kernel
theorem dX9_copy_64 : decode cX9_copy 64 = .ok (.iload 5, 2) := by decide +kernel
theorem dX9_copy_66 : decode cX9_copy 66 = .ok (.ifCond .lt 38, 3) := by decide +kernel
theorem dX9_copy_69 : decode cX9_copy 69 = .ok (.iload_n 2, 1) := by decide +kernel
theorem dX9_copy_70 : decode cX9_copy 70 = .ok (.i2l, 1) := by decide +kernel
theorem dX9_copy_71 : decode cX9_copy 71 = .ok (.iload 5, 2) := by decide +kernel
theorem dX9_copy_73 : decode cX9_copy 73 = .ok (.i2l, 1) := by decide +kernel
theorem dX9_copy_74 : decode cX9_copy 74 = .ok (.ladd, 1) := by decide +kernel
theorem dX9_copy_75 : decode cX9_copy 75 = .ok (.aload_n 0, 1) := by decide +kernel
theorem dX9_copy_76 : decode cX9_copy 76 = .ok (.getfield 59, 3) := by decide +kernel
theorem dX9_copy_79 : decode cX9_copy 79 = .ok (.iload_n 1, 1) := by decide +kernel
theorem dX9_copy_80 : decode cX9_copy 80 = .ok (.iaload, 1) := by decide +kernel
theorem dX9_copy_81 : decode cX9_copy 81 = .ok (.i2l, 1) := by decide +kernel
theorem dX9_copy_82 : decode cX9_copy 82 = .ok (.lcmp, 1) := by decide +kernel
theorem dX9_copy_83 : decode cX9_copy 83 = .ok (.ifCond .gt 21, 3) := by decide +kernel
theorem dX9_copy_86 : decode cX9_copy 86 = .ok (.iload 4, 2) := by decide +kernel
theorem dX9_copy_88 : decode cX9_copy 88 = .ok (.i2l, 1) := by decide +kernel
theorem dX9_copy_89 : decode cX9_copy 89 = .ok (.iload 5, 2) := by decide +kernel
theorem dX9_copy_91 : decode cX9_copy 91 = .ok (.i2l, 1) := by decide +kernel
theorem dX9_copy_92 : decode cX9_copy 92 = .ok (.ladd, 1) := by decide +kernel
theorem dX9_copy_93 : decode cX9_copy 93 = .ok (.aload_n 0, 1) := by decide +kernel
theorem dX9_copy_94 : decode cX9_copy 94 = .ok (.getfield 59, 3) := by decide +kernel
theorem dX9_copy_97 : decode cX9_copy 97 = .ok (.iload_n 3, 1) := by decide +kernel
theorem dX9_copy_98 : decode cX9_copy 98 = .ok (.iaload, 1) := by decide +kernel
theorem dX9_copy_99 : decode cX9_copy 99 = .ok (.i2l, 1) := by decide +kernel
theorem dX9_copy_100 : decode cX9_copy 100 = .ok (.lcmp, 1) := by decide +kernel
theorem dX9_copy_101 : decode cX9_copy 101 = .ok (.ifCond .le 6, 3) := by decide +kernel
theorem dX9_copy_104 : decode cX9_copy 104 = .ok (.bipush (-13), 2) := by decide +kernel
theorem dX9_copy_106 : decode cX9_copy 106 = .ok (.ireturn, 1) := by decide +kernel
theorem dX9_copy_107 : decode cX9_copy 107 = .ok (.iconst 0, 1) := by decide +kernel
theorem dX9_copy_108 : decode cX9_copy 108 = .ok (.istore 6, 2) := by decide +kernel
theorem dX9_copy_110 : decode cX9_copy 110 = .ok (.iload 6, 2) := by decide +kernel
theorem dX9_copy_112 : decode cX9_copy 112 = .ok (.iload 5, 2) := by decide +kernel
theorem dX9_copy_114 : decode cX9_copy 114 = .ok (.if_icmp .ge 58, 3) := by decide +kernel
theorem dX9_copy_117 : decode cX9_copy 117 = .ok (.iload 4, 2) := by decide +kernel
theorem dX9_copy_119 : decode cX9_copy 119 = .ok (.iload_n 2, 1) := by decide +kernel
theorem dX9_copy_120 : decode cX9_copy 120 = .ok (.if_icmp .le 13, 3) := by decide +kernel
theorem dX9_copy_123 : decode cX9_copy 123 = .ok (.iload 5, 2) := by decide +kernel
theorem dX9_copy_125 : decode cX9_copy 125 = .ok (.iconst 1, 1) := by decide +kernel
theorem dX9_copy_126 : decode cX9_copy 126 = .ok (.isub, 1) := by decide +kernel
theorem dX9_copy_127 : decode cX9_copy 127 = .ok (.iload 6, 2) := by decide +kernel
theorem dX9_copy_129 : decode cX9_copy 129 = .ok (.isub, 1) := by decide +kernel
theorem dX9_copy_130 : decode cX9_copy 130 = .ok (.goto 5, 3) := by decide +kernel
theorem dX9_copy_133 : decode cX9_copy 133 = .ok (.iload 6, 2) := by decide +kernel
theorem dX9_copy_135 : decode cX9_copy 135 = .ok (.istore 7, 2) := by decide +kernel
theorem dX9_copy_137 : decode cX9_copy 137 = .ok (.aload_n 0, 1) := by decide +kernel
theorem dX9_copy_138 : decode cX9_copy 138 = .ok (.getfield 62, 3) := by decide +kernel
theorem dX9_copy_141 : decode cX9_copy 141 = .ok (.bipush 24, 2) := by decide +kernel
theorem dX9_copy_143 : decode cX9_copy 143 = .ok (.iload_n 3, 1) := by decide +kernel
theorem dX9_copy_144 : decode cX9_copy 144 = .ok (.imul, 1) := by decide +kernel
theorem dX9_copy_145 : decode cX9_copy 145 = .ok (.iload 4, 2) := by decide +kernel
theorem dX9_copy_147 : decode cX9_copy 147 = .ok (.iadd, 1) := by decide +kernel
theorem dX9_copy_148 : decode cX9_copy 148 = .ok (.iload 7, 2) := by decide +kernel
theorem dX9_copy_150 : decode cX9_copy 150 = .ok (.iadd, 1) := by decide +kernel
theorem dX9_copy_151 : decode cX9_copy 151 = .ok (.aload_n 0, 1) := by decide +kernel
theorem dX9_copy_152 : decode cX9_copy 152 = .ok (.getfield 62, 3) := by decide +kernel
theorem dX9_copy_155 : decode cX9_copy 155 = .ok (.bipush 24, 2) := by decide +kernel
theorem dX9_copy_157 : decode cX9_copy 157 = .ok (.iload_n 1, 1) := by decide +kernel
theorem dX9_copy_158 : decode cX9_copy 158 = .ok (.imul, 1) := by decide +kernel
theorem dX9_copy_159 : decode cX9_copy 159 = .ok (.iload_n 2, 1) := by decide +kernel
theorem dX9_copy_160 : decode cX9_copy 160 = .ok (.iadd, 1) := by decide +kernel
theorem dX9_copy_161 : decode cX9_copy 161 = .ok (.iload 7, 2) := by decide +kernel
theorem dX9_copy_163 : decode cX9_copy 163 = .ok (.iadd, 1) := by decide +kernel
theorem dX9_copy_164 : decode cX9_copy 164 = .ok (.laload, 1) := by decide +kernel
theorem dX9_copy_165 : decode cX9_copy 165 = .ok (.lastore, 1) := by decide +kernel
theorem dX9_copy_166 : decode cX9_copy 166 = .ok (.iinc 6 1, 3) := by decide +kernel
theorem dX9_copy_169 : decode cX9_copy 169 = .ok (.goto (-59), 3) := by decide +kernel
theorem dX9_copy_172 : decode cX9_copy 172 = .ok (.iload 5, 2) := by decide +kernel
theorem dX9_copy_174 : decode cX9_copy 174 = .ok (.ireturn, 1) := by decide +kernel
def X9_copy_J135 (Z18 : Rec) (x1 : Int32) (x2 : Int32) (x3 : Int32) (x4 : Int32) (v17 : Int32) (k110 : Int32 → Rec → Option (Rec)) (v21 : Int32) : Option (Rec) :=
  (rdL (Z18.2.2 28) 96 ((((24 : Int32) * x1) + x2) + v21)).bind fun v22 =>
  (wrL (Z18.2.2 28) 96 ((((24 : Int32) * x3) + x4) + v21) v22).bind fun w23 =>
  aLet (v17 + (1 : Int32)) fun v25 =>
  k110 v25 (sL Z18 28 w23)
def X9_copy_L110 (x5 : Int32) (x4 : Int32) (x2 : Int32) (x1 : Int32) (x3 : Int32) : Nat → Int32 → Rec → Option (Rec)
  | 0, _, _ => none
  | n110 + 1, v17, Z18 => if x5 ≤ v17 then
      some Z18
    else
      if x4 ≤ x2 then
        X9_copy_J135 Z18 x1 x2 x3 x4 v17 (X9_copy_L110 x5 x4 x2 x1 x3 n110) v17
      else
        X9_copy_J135 Z18 x1 x2 x3 x4 v17 (X9_copy_L110 x5 x4 x2 x1 x3 n110) ((x5 - (1 : Int32)) - v17)
def X9_copy (S0 : Rec) (x1 : Int32) (x2 : Int32) (x3 : Int32) (x4 : Int32) (x5 : Int32) : Option (Int32 × Rec) :=
  if (X9_isSheet x1) = 0 then
    some ((-1 : Int32), S0)
  else
    if (X9_isSheet x3) = 0 then
      some ((-1 : Int32), S0)
    else
      (rdI (S0.2.1 26) 4 x1).bind fun v3 =>
      if v3 < 0 then
        some ((-11 : Int32), S0)
      else
        (rdI (S0.2.1 26) 4 x3).bind fun v5 =>
        if 0 ≤ v5 then
          (rdI (S0.2.1 26) 4 x1).bind fun v7 =>
          (rdI (S0.2.1 26) 4 x3).bind fun v8 =>
          if v7 = v8 then
            if x2 < 0 then
              some ((-13 : Int32), S0)
            else
              if x4 < 0 then
                some ((-13 : Int32), S0)
              else
                if x5 < 0 then
                  some ((-13 : Int32), S0)
                else
                  (rdI (S0.2.1 27) 4 x1).bind fun v13 =>
                  if 0 < (lg_cmp ((x2.toInt64) + (x5.toInt64)) (v13.toInt64)) then
                    some ((-13 : Int32), S0)
                  else
                    (rdI (S0.2.1 27) 4 x3).bind fun v15 =>
                    if (lg_cmp ((x4.toInt64) + (x5.toInt64)) (v15.toInt64)) ≤ 0 then
                      (X9_copy_L110 x5 x4 x2 x1 x3 aFu (0 : Int32) S0).bind fun e27 =>
                      some (x5, e27)
                    else
                      some ((-13 : Int32), S0)
          else
            some ((-12 : Int32), S0)
        else
          some ((-11 : Int32), S0)
set_option maxRecDepth 100000 in
set_option maxHeartbeats 4000000 in
theorem X9_copy_ok (l : Launch) {h : aH} {nx : Nat} {a0 : Nat} {S0 : Rec} {x1 : Int32} {x2 : Int32} {x3 : Int32} {x4 : Int32} {x5 : Int32} (hB0 : X9_at h a0 S0) {r : Int32 × Rec} (hF : X9_copy S0 x1 x2 x3 x4 x5 = some r) : aOk l 2 0 0 yX9_copy cX9_copy 8 (some .int) [.ref a0, .int x1, .int x2, .int x3, .int x4, .int x5] h nx (aMt (some (.int r.1)) nx (fun h1 => X9_at h1 a0 r.2 ∧ (∀ q, (q < a0 ∨ a0 + 20 ≤ q) → h1 q = h q))) := by
  refine aOk.of (by decide +kernel) (Nat.le_of_ble_eq_true rfl) (fun X G hX C R0 _ => ?_)
  subst hX
  show aV X G 8 0 [(0, .ref a0), (1, .int x1), (2, .int x2), (3, .int x3), (4, .int x4), (5, .int x5)] [] h nx 0 0
  have hFr : ∀ q, (q < a0 ∨ a0 + 20 ≤ q) → h q = h q := fun _ _ => rfl
  rw [X9_copy] at hF
  refine ab_iload_n C 1 rfl rfl dX9_copy_0 ?_
  refine ab_cSR (v := .int (X9_isSheet x1)) (st := []) C lm_X9_293 (X9_isSheet_ok (xl X) (r := (X9_isSheet x1)) rfl) rfl rfl (by decide) ⟨Nat.zero_le _, Nat.zero_le _⟩ (Nat.le_of_ble_eq_true rfl) dX9_copy_1 ?_
  refine ab_if_eq C 14 dX9_copy_4 (by decide) (fun c1 => ?_) (fun c1 => ?_)
  · replace hF := (if_pos c1).symm.trans hF
    refine ab_iconst (v := (-1 : Int32)) C dX9_copy_14 (by decide) ?_
    obtain rfl := Option.some.inj hF
    exact ab_iret C R0 rfl dX9_copy_15 ⟨rfl, rfl, hB0, hFr⟩
  · replace hF := (if_neg c1).symm.trans hF
    refine ab_iload_n C 3 rfl rfl dX9_copy_7 ?_
    refine ab_cSR (v := .int (X9_isSheet x3)) (st := []) C lm_X9_293 (X9_isSheet_ok (xl X) (r := (X9_isSheet x3)) rfl) rfl rfl (by decide) ⟨Nat.zero_le _, Nat.zero_le _⟩ (Nat.le_of_ble_eq_true rfl) dX9_copy_8 ?_
    refine ab_if_ne C 16 dX9_copy_11 (by decide) (fun c2 => ?_) (fun c2 => ?_)
    · replace hF := (if_neg c2).symm.trans hF
      refine ab_aload_n C 0 rfl rfl dX9_copy_16 ?_
      refine ab_g9 (v := .ref (a0 + 16)) C lf_X9_56 hB0.1 rfl dX9_copy_17 ?_
      refine ab_iload_n C 1 rfl rfl dX9_copy_20 ?_
      obtain ⟨v3, hxv3, hF⟩ := Option.bind_eq_some_iff.mp hF
      refine ab_iald C (X9_r26 hB0) hxv3 dX9_copy_21 ?_
      refine ab_if_lt C 34 dX9_copy_22 (by decide) (fun c4 => ?_) (fun c4 => ?_)
      · replace hF := (if_pos c4).symm.trans hF
        refine ab_bipush (v := (-11 : Int32)) C dX9_copy_34 (by decide) ?_
        obtain rfl := Option.some.inj hF
        exact ab_iret C R0 rfl dX9_copy_36 ⟨rfl, rfl, hB0, hFr⟩
      · replace hF := (if_neg c4).symm.trans hF
        refine ab_aload_n C 0 rfl rfl dX9_copy_25 ?_
        refine ab_g9 (v := .ref (a0 + 16)) C lf_X9_56 hB0.1 rfl dX9_copy_26 ?_
        refine ab_iload_n C 3 rfl rfl dX9_copy_29 ?_
        obtain ⟨v5, hxv5, hF⟩ := Option.bind_eq_some_iff.mp hF
        refine ab_iald C (X9_r26 hB0) hxv5 dX9_copy_30 ?_
        refine ab_if_ge C 37 dX9_copy_31 (by decide) (fun c6 => ?_) (fun c6 => ?_)
        · replace hF := (if_pos c6).symm.trans hF
          refine ab_aload_n C 0 rfl rfl dX9_copy_37 ?_
          refine ab_g9 (v := .ref (a0 + 16)) C lf_X9_56 hB0.1 rfl dX9_copy_38 ?_
          refine ab_iload_n C 1 rfl rfl dX9_copy_41 ?_
          obtain ⟨v7, hxv7, hF⟩ := Option.bind_eq_some_iff.mp hF
          refine ab_iald C (X9_r26 hB0) hxv7 dX9_copy_42 ?_
          refine ab_aload_n C 0 rfl rfl dX9_copy_43 ?_
          refine ab_g9 (v := .ref (a0 + 16)) C lf_X9_56 hB0.1 rfl dX9_copy_44 ?_
          refine ab_iload_n C 3 rfl rfl dX9_copy_47 ?_
          obtain ⟨v8, hxv8, hF⟩ := Option.bind_eq_some_iff.mp hF
          refine ab_iald C (X9_r26 hB0) hxv8 dX9_copy_48 ?_
          refine ab_icmp_eq C 55 dX9_copy_49 (by decide) (fun c9 => ?_) (fun c9 => ?_)
          · replace hF := (if_pos c9).symm.trans hF
            refine ab_iload_n C 2 rfl rfl dX9_copy_55 ?_
            refine ab_if_lt C 104 dX9_copy_56 (by decide) (fun c10 => ?_) (fun c10 => ?_)
            · replace hF := (if_pos c10).symm.trans hF
              refine ab_bipush (v := (-13 : Int32)) C dX9_copy_104 (by decide) ?_
              obtain rfl := Option.some.inj hF
              exact ab_iret C R0 rfl dX9_copy_106 ⟨rfl, rfl, hB0, hFr⟩
            · replace hF := (if_neg c10).symm.trans hF
              refine ab_iload C 4 rfl dX9_copy_59 ?_
              refine ab_if_lt C 104 dX9_copy_61 (by decide) (fun c11 => ?_) (fun c11 => ?_)
              · replace hF := (if_pos c11).symm.trans hF
                refine ab_bipush (v := (-13 : Int32)) C dX9_copy_104 (by decide) ?_
                obtain rfl := Option.some.inj hF
                exact ab_iret C R0 rfl dX9_copy_106 ⟨rfl, rfl, hB0, hFr⟩
              · replace hF := (if_neg c11).symm.trans hF
                refine ab_iload C 5 rfl dX9_copy_64 ?_
                refine ab_if_lt C 104 dX9_copy_66 (by decide) (fun c12 => ?_) (fun c12 => ?_)
                · replace hF := (if_pos c12).symm.trans hF
                  refine ab_bipush (v := (-13 : Int32)) C dX9_copy_104 (by decide) ?_
                  obtain rfl := Option.some.inj hF
                  exact ab_iret C R0 rfl dX9_copy_106 ⟨rfl, rfl, hB0, hFr⟩
                · replace hF := (if_neg c12).symm.trans hF
                  refine ab_iload_n C 2 rfl rfl dX9_copy_69 ?_
                  refine ab_i2l C dX9_copy_70 ?_
                  refine ab_iload C 5 rfl dX9_copy_71 ?_
                  refine ab_i2l C dX9_copy_73 ?_
                  refine ab_ladd C dX9_copy_74 ?_
                  refine ab_aload_n C 0 rfl rfl dX9_copy_75 ?_
                  refine ab_g9 (v := .ref (a0 + 17)) C lf_X9_59 hB0.1 rfl dX9_copy_76 ?_
                  refine ab_iload_n C 1 rfl rfl dX9_copy_79 ?_
                  obtain ⟨v13, hxv13, hF⟩ := Option.bind_eq_some_iff.mp hF
                  refine ab_iald C (X9_r27 hB0) hxv13 dX9_copy_80 ?_
                  refine ab_i2l C dX9_copy_81 ?_
                  refine ab_lcmp C dX9_copy_82 ?_
                  refine ab_if_gt C 104 dX9_copy_83 (by decide) (fun c14 => ?_) (fun c14 => ?_)
                  · replace hF := (if_pos c14).symm.trans hF
                    refine ab_bipush (v := (-13 : Int32)) C dX9_copy_104 (by decide) ?_
                    obtain rfl := Option.some.inj hF
                    exact ab_iret C R0 rfl dX9_copy_106 ⟨rfl, rfl, hB0, hFr⟩
                  · replace hF := (if_neg c14).symm.trans hF
                    refine ab_iload C 4 rfl dX9_copy_86 ?_
                    refine ab_i2l C dX9_copy_88 ?_
                    refine ab_iload C 5 rfl dX9_copy_89 ?_
                    refine ab_i2l C dX9_copy_91 ?_
                    refine ab_ladd C dX9_copy_92 ?_
                    refine ab_aload_n C 0 rfl rfl dX9_copy_93 ?_
                    refine ab_g9 (v := .ref (a0 + 17)) C lf_X9_59 hB0.1 rfl dX9_copy_94 ?_
                    refine ab_iload_n C 3 rfl rfl dX9_copy_97 ?_
                    obtain ⟨v15, hxv15, hF⟩ := Option.bind_eq_some_iff.mp hF
                    refine ab_iald C (X9_r27 hB0) hxv15 dX9_copy_98 ?_
                    refine ab_i2l C dX9_copy_99 ?_
                    refine ab_lcmp C dX9_copy_100 ?_
                    refine ab_if_le C 107 dX9_copy_101 (by decide) (fun c16 => ?_) (fun c16 => ?_)
                    · replace hF := (if_pos c16).symm.trans hF
                      refine ab_iconst (v := (0 : Int32)) C dX9_copy_107 (by decide) ?_
                      refine ab_istore (lv' := [(6, .int (0 : Int32)), (0, .ref a0), (1, .int x1), (2, .int x2), (3, .int x3), (4, .int x4), (5, .int x5)]) C dX9_copy_108 (by decide) rfl ?_
                      have L110 : ∀ (n110 : Nat) (v17 : Int32) (Z18 : Rec) (g19 : aH), (X9_at g19 a0 Z18) → (∀ q, (q < a0 ∨ a0 + 20 ≤ q) → g19 q = h q) → ∀ (res110 : Rec), X9_copy_L110 x5 x4 x2 x1 x3 n110 v17 Z18 = some res110 → (∀ (q9 : aH), (X9_at q9 a0 res110) → (∀ q, (q < a0 ∨ a0 + 20 ≤ q) → q9 q = h q) → aV X G 8 172 [(5, .int x5)] [] q9 nx 0 0) → aV X G 8 110 [(0, .ref a0), (1, .int x1), (2, .int x2), (3, .int x3), (4, .int x4), (5, .int x5), (6, .int v17)] [] g19 nx 0 0 := by
                        intro n110
                        induction n110 with
                        | zero => intro v17 Z18 g19 hB0 hFr res110 hF KX110; cases (show (none : Option (Rec)) = some res110 from hF)
                        | succ n110 ih110 =>
                          intro v17 Z18 g19 hB0 hFr res110 hF KX110
                          rw [X9_copy_L110] at hF
                          refine ab_iload C 6 rfl dX9_copy_110 ?_
                          refine ab_iload C 5 rfl dX9_copy_112 ?_
                          refine ab_icmp_ge C 172 dX9_copy_114 (by decide) (fun c20 => ?_) (fun c20 => ?_)
                          · replace hF := (if_pos c20).symm.trans hF
                            obtain rfl := Option.some.inj hF
                            refine aV.sub (lv' := [(5, .int x5)]) [5] rfl ?_
                            exact KX110 g19 hB0 hFr
                          · replace hF := (if_neg c20).symm.trans hF
                            refine ab_iload C 4 rfl dX9_copy_117 ?_
                            refine ab_iload_n C 2 rfl rfl dX9_copy_119 ?_
                            have J135 : ∀ (v21 : Int32), X9_copy_J135 Z18 x1 x2 x3 x4 v17 (X9_copy_L110 x5 x4 x2 x1 x3 n110) v21 = some res110 → aV X G 8 135 [(0, .ref a0), (1, .int x1), (2, .int x2), (3, .int x3), (4, .int x4), (5, .int x5), (6, .int v17)] [.int v21] g19 nx 0 0 := by
                              intro v21 hF
                              rw [X9_copy_J135] at hF
                              refine ab_istore (lv' := [(7, .int v21), (0, .ref a0), (1, .int x1), (2, .int x2), (3, .int x3), (4, .int x4), (5, .int x5), (6, .int v17)]) C dX9_copy_135 (by decide) rfl ?_
                              refine ab_aload_n C 1 rfl rfl dX9_copy_137 ?_
                              refine ab_g9 (v := .ref (a0 + 18)) C lf_X9_62 hB0.1 rfl dX9_copy_138 ?_
                              refine ab_bipush (v := (24 : Int32)) C dX9_copy_141 (by decide) ?_
                              refine ab_iload_n C 4 rfl rfl dX9_copy_143 ?_
                              refine ab_imul C dX9_copy_144 ?_
                              refine ab_iload C 5 rfl dX9_copy_145 ?_
                              refine ab_iadd C dX9_copy_147 ?_
                              refine ab_iload C 0 rfl dX9_copy_148 ?_
                              refine ab_iadd C dX9_copy_150 ?_
                              refine ab_aload_n C 1 rfl rfl dX9_copy_151 ?_
                              refine ab_g9 (v := .ref (a0 + 18)) C lf_X9_62 hB0.1 rfl dX9_copy_152 ?_
                              refine ab_bipush (v := (24 : Int32)) C dX9_copy_155 (by decide) ?_
                              refine ab_iload_n C 2 rfl rfl dX9_copy_157 ?_
                              refine ab_imul C dX9_copy_158 ?_
                              refine ab_iload_n C 3 rfl rfl dX9_copy_159 ?_
                              refine ab_iadd C dX9_copy_160 ?_
                              refine ab_iload C 0 rfl dX9_copy_161 ?_
                              refine ab_iadd C dX9_copy_163 ?_
                              obtain ⟨v22, hxv22, hF⟩ := Option.bind_eq_some_iff.mp hF
                              refine ab_lald C (X9_r28 hB0) hxv22 dX9_copy_164 ?_
                              obtain ⟨w23, hxw23, hF⟩ := Option.bind_eq_some_iff.mp hF
                              refine ab_last C (X9_r28 hB0) hxw23 dX9_copy_165 (fun g24 eg24 og24 => ?_)
                              have hB0 : X9_at g24 a0 (sL Z18 28 w23) := X9_w28 hB0 eg24 og24
                              have hFr : ∀ q, (q < a0 ∨ a0 + 20 ≤ q) → g24 q = h q := fun q u0 => (og24 q (by omega)).trans (hFr q u0)
                              obtain ⟨v25, qv25⟩ : ∃ y : Int32, y = (v17 + (1 : Int32)) := ⟨_, rfl⟩
                              replace hF := aLet_e hF v25 qv25
                              refine ab_iinc (lv' := [(6, .int v25), (7, .int v21), (0, .ref a0), (1, .int x1), (2, .int x2), (3, .int x3), (4, .int x4), (5, .int x5)]) C 7 rfl dX9_copy_166 (by rw [qv25]; rfl) (by decide) rfl ?_
                              refine ab_goto C 110 dX9_copy_169 (by decide) ?_
                              refine aV.sub (lv' := [(0, .ref a0), (1, .int x1), (2, .int x2), (3, .int x3), (4, .int x4), (5, .int x5), (6, .int v25)]) [2, 3, 4, 5, 6, 7, 0] rfl ?_
                              exact ih110 v25 (sL Z18 28 w23) g24 hB0 hFr res110 hF KX110
                            refine ab_icmp_le C 133 dX9_copy_120 (by decide) (fun c26 => ?_) (fun c26 => ?_)
                            · replace hF := (if_pos c26).symm.trans hF
                              refine ab_iload C 6 rfl dX9_copy_133 ?_
                              exact J135 v17 hF
                            · replace hF := (if_neg c26).symm.trans hF
                              refine ab_iload C 5 rfl dX9_copy_123 ?_
                              refine ab_iconst (v := (1 : Int32)) C dX9_copy_125 (by decide) ?_
                              refine ab_isub C dX9_copy_126 ?_
                              refine ab_iload C 6 rfl dX9_copy_127 ?_
                              refine ab_isub C dX9_copy_129 ?_
                              refine ab_goto C 135 dX9_copy_130 (by decide) ?_
                              exact J135 ((x5 - (1 : Int32)) - v17) hF
                      refine aV.sub (lv' := [(0, .ref a0), (1, .int x1), (2, .int x2), (3, .int x3), (4, .int x4), (5, .int x5), (6, .int (0 : Int32))]) [1, 2, 3, 4, 5, 6, 0] rfl ?_
                      obtain ⟨e27, he27, hF⟩ := Option.bind_eq_some_iff.mp hF
                      refine L110 aFu (0 : Int32) S0 h hB0 hFr e27 he27 (fun g28 hB0 hFr => ?_)
                      refine ab_iload C 0 rfl dX9_copy_172 ?_
                      obtain rfl := Option.some.inj hF
                      exact ab_iret C R0 rfl dX9_copy_174 ⟨rfl, rfl, hB0, hFr⟩
                    · replace hF := (if_neg c16).symm.trans hF
                      refine ab_bipush (v := (-13 : Int32)) C dX9_copy_104 (by decide) ?_
                      obtain rfl := Option.some.inj hF
                      exact ab_iret C R0 rfl dX9_copy_106 ⟨rfl, rfl, hB0, hFr⟩
          · replace hF := (if_neg c9).symm.trans hF
            refine ab_bipush (v := (-12 : Int32)) C dX9_copy_52 (by decide) ?_
            obtain rfl := Option.some.inj hF
            exact ab_iret C R0 rfl dX9_copy_54 ⟨rfl, rfl, hB0, hFr⟩
        · replace hF := (if_neg c6).symm.trans hF
          refine ab_bipush (v := (-11 : Int32)) C dX9_copy_34 (by decide) ?_
          obtain rfl := Option.some.inj hF
          exact ab_iret C R0 rfl dX9_copy_36 ⟨rfl, rfl, hB0, hFr⟩
    · replace hF := (if_pos c2).symm.trans hF
      refine ab_iconst (v := (-1 : Int32)) C dX9_copy_14 (by decide) ?_
      obtain rfl := Option.some.inj hF
      exact ab_iret C R0 rfl dX9_copy_15 ⟨rfl, rfl, hB0, hFr⟩
theorem dX9_film_0 : decode cX9_film 0 = .ok (.aload_n 0, 1) := by decide +kernel
theorem dX9_film_1 : decode cX9_film 1 = .ok (.iload_n 1, 1) := by decide +kernel
theorem dX9_film_2 : decode cX9_film 2 = .ok (.invokevirtual 153, 3) := by decide +kernel
theorem dX9_film_5 : decode cX9_film 5 = .ok (.ifCond .eq 35, 3) := by decide +kernel
theorem dX9_film_8 : decode cX9_film 8 = .ok (.iload_n 2, 1) := by decide +kernel
theorem dX9_film_9 : decode cX9_film 9 = .ok (.i2l, 1) := by decide +kernel
theorem dX9_film_10 : decode cX9_film 10 = .ok (.lconst 1, 1) := by decide +kernel
theorem dX9_film_11 : decode cX9_film 11 = .ok (.ldc2_w 306, 3) := by decide +kernel
theorem dX9_film_14 : decode cX9_film 14 = .ok (.invokestatic 69, 3) := by decide +kernel
theorem dX9_film_17 : decode cX9_film 17 = .ok (.ifCond .eq 23, 3) := by decide +kernel
theorem dX9_film_20 : decode cX9_film 20 = .ok (.iload_n 3, 1) := by decide +kernel
theorem dX9_film_21 : decode cX9_film 21 = .ok (.invokestatic 293, 3) := by decide +kernel
theorem dX9_film_24 : decode cX9_film 24 = .ok (.ifCond .eq 16, 3) := by decide +kernel
theorem dX9_film_27 : decode cX9_film 27 = .ok (.iload 4, 2) := by decide +kernel
theorem dX9_film_29 : decode cX9_film 29 = .ok (.i2l, 1) := by decide +kernel
theorem dX9_film_30 : decode cX9_film 30 = .ok (.lconst 0, 1) := by decide +kernel
theorem dX9_film_31 : decode cX9_film 31 = .ok (.ldc2_w 240, 3) := by decide +kernel
theorem dX9_film_34 : decode cX9_film 34 = .ok (.invokestatic 69, 3) := by decide +kernel
theorem dX9_film_37 : decode cX9_film 37 = .ok (.ifCond .ne 5, 3) := by decide +kernel
theorem dX9_film_40 : decode cX9_film 40 = .ok (.iconst (-1), 1) := by decide +kernel
theorem dX9_film_41 : decode cX9_film 41 = .ok (.ireturn, 1) := by decide +kernel
theorem dX9_film_42 : decode cX9_film 42 = .ok (.aload_n 0, 1) := by decide +kernel
theorem dX9_film_43 : decode cX9_film 43 = .ok (.iload_n 3, 1) := by decide +kernel
theorem dX9_film_44 : decode cX9_film 44 = .ok (.iload 4, 2) := by decide +kernel
theorem dX9_film_46 : decode cX9_film 46 = .ok (.iload 5, 2) := by decide +kernel
theorem dX9_film_48 : decode cX9_film 48 = .ok (.iload_n 2, 1) := by decide +kernel
theorem dX9_film_49 : decode cX9_film 49 = .ok (.invokevirtual 298, 3) := by decide +kernel
theorem dX9_film_52 : decode cX9_film 52 = .ok (.istore 6, 2) := by decide +kernel
theorem dX9_film_54 : decode cX9_film 54 = .ok (.iload 6, 2) := by decide +kernel
theorem dX9_film_56 : decode cX9_film 56 = .ok (.ifCond .eq 6, 3) := by decide +kernel
theorem dX9_film_59 : decode cX9_film 59 = .ok (.iload 6, 2) := by decide +kernel
theorem dX9_film_61 : decode cX9_film 61 = .ok (.ireturn, 1) := by decide +kernel
theorem dX9_film_62 : decode cX9_film 62 = .ok (.aload_n 0, 1) := by decide +kernel
theorem dX9_film_63 : decode cX9_film 63 = .ok (.invokevirtual 195, 3) := by decide +kernel
theorem dX9_film_66 : decode cX9_film 66 = .ok (.iconst 0, 1) := by decide +kernel
theorem dX9_film_67 : decode cX9_film 67 = .ok (.istore 7, 2) := by decide +kernel
theorem dX9_film_69 : decode cX9_film 69 = .ok (.iload 7, 2) := by decide +kernel
theorem dX9_film_71 : decode cX9_film 71 = .ok (.iload_n 2, 1) := by decide +kernel
theorem dX9_film_72 : decode cX9_film 72 = .ok (.if_icmp .ge 42, 3) := by decide +kernel
theorem dX9_film_75 : decode cX9_film 75 = .ok (.aload_n 0, 1) := by decide +kernel
theorem dX9_film_76 : decode cX9_film 76 = .ok (.getfield 16, 3) := by decide +kernel
theorem dX9_film_79 : decode cX9_film 79 = .ok (.invokestatic 189, 3) := by decide +kernel
theorem dX9_film_82 : decode cX9_film 82 = .ok (.istore 8, 2) := by decide +kernel
theorem dX9_film_84 : decode cX9_film 84 = .ok (.aload_n 0, 1) := by decide +kernel
theorem dX9_film_85 : decode cX9_film 85 = .ok (.getfield 62, 3) := by decide +kernel
theorem dX9_film_88 : decode cX9_film 88 = .ok (.bipush 24, 2) := by decide +kernel
theorem dX9_film_90 : decode cX9_film 90 = .ok (.iload_n 3, 1) := by decide +kernel
theorem dX9_film_91 : decode cX9_film 91 = .ok (.imul, 1) := by decide +kernel
theorem dX9_film_92 : decode cX9_film 92 = .ok (.iload 5, 2) := by decide +kernel
theorem dX9_film_94 : decode cX9_film 94 = .ok (.iadd, 1) := by decide +kernel
theorem dX9_film_95 : decode cX9_film 95 = .ok (.iload 7, 2) := by decide +kernel
theorem dX9_film_97 : decode cX9_film 97 = .ok (.iadd, 1) := by decide +kernel
theorem dX9_film_98 : decode cX9_film 98 = .ok (.aload_n 0, 1) := by decide +kernel
theorem dX9_film_99 : decode cX9_film 99 = .ok (.getfield 16, 3) := by decide +kernel
theorem dX9_film_102 : decode cX9_film 102 = .ok (.iload_n 1, 1) := by decide +kernel
theorem dX9_film_103 : decode cX9_film 103 = .ok (.invokestatic 149, 3) := by decide +kernel
theorem dX9_film_106 : decode cX9_film 106 = .ok (.i2l, 1) := by decide +kernel
theorem dX9_film_107 : decode cX9_film 107 = .ok (.lastore, 1) := by decide +kernel
theorem dX9_film_108 : decode cX9_film 108 = .ok (.iinc 7 1, 3) := by decide +kernel
theorem dX9_film_111 : decode cX9_film 111 = .ok (.goto (-42), 3) := by decide +kernel
theorem dX9_film_114 : decode cX9_film 114 = .ok (.iload_n 2, 1) := by decide +kernel
theorem dX9_film_115 : decode cX9_film 115 = .ok (.ireturn, 1) := by decide +kernel
def X9_film_L69 (x2 : Int32) (x1 : Int32) (x3 : Int32) (x5 : Int32) : Nat → Int32 → Rec → Option (Rec)
  | 0, _, _ => none
  | n69 + 1, v10, Z11 => if x2 ≤ v10 then
      some Z11
    else
      (X9_goOn (Z11.2.1 2)).bind fun v14 =>
      (X9_says ((sA Z11 2 v14.2).2.1 2) x1).bind fun v16 =>
      (wrL ((sA Z11 2 v14.2).2.2 28) 96 ((((24 : Int32) * x3) + x5) + v10) (v16.toInt64)).bind fun w17 =>
      aLet (v10 + (1 : Int32)) fun v19 =>
      X9_film_L69 x2 x1 x3 x5 n69 v19 (sL (sA Z11 2 v14.2) 28 w17)
def X9_film (S0 : Rec) (x1 : Int32) (x2 : Int32) (x3 : Int32) (x4 : Int32) (x5 : Int32) : Option (Int32 × Rec) :=
  (X9_isHolder S0 x1).bind fun v1 =>
  if v1 = 0 then
    some ((-1 : Int32), S0)
  else
    if (X9_in (x2.toInt64) (1 : Int64) (24 : Int64)) = 0 then
      some ((-1 : Int32), S0)
    else
      if (X9_isSheet x3) = 0 then
        some ((-1 : Int32), S0)
      else
        if (X9_in (x4.toInt64) (0 : Int64) (3 : Int64)) = 0 then
          some ((-1 : Int32), S0)
        else
          (X9_refusal S0 x3 x4 x5 x2).bind fun v6 =>
          if v6 = 0 then
            (X9_layThen S0).bind fun v8 =>
            (X9_film_L69 x2 x1 x3 x5 aFu (0 : Int32) v8).bind fun e20 =>
            some (x2, e20)
          else
            some (v6, S0)
set_option maxRecDepth 100000 in
set_option maxHeartbeats 4000000 in
theorem X9_film_ok (l : Launch) {h : aH} {nx : Nat} {a0 : Nat} {S0 : Rec} {x1 : Int32} {x2 : Int32} {x3 : Int32} {x4 : Int32} {x5 : Int32} (hB0 : X9_at h a0 S0) {r : Int32 × Rec} (hF : X9_film S0 x1 x2 x3 x4 x5 = some r) : aOk l 4 0 0 yX9_film cX9_film 9 (some .int) [.ref a0, .int x1, .int x2, .int x3, .int x4, .int x5] h nx (aMt (some (.int r.1)) nx (fun h1 => X9_at h1 a0 r.2 ∧ (∀ q, (q < a0 ∨ a0 + 20 ≤ q) → h1 q = h q))) := by
  refine aOk.of (by decide +kernel) (Nat.le_of_ble_eq_true rfl) (fun X G hX C R0 _ => ?_)
  subst hX
  show aV X G 9 0 [(0, .ref a0), (1, .int x1), (2, .int x2), (3, .int x3), (4, .int x4), (5, .int x5)] [] h nx 0 0
  have hFr : ∀ q, (q < a0 ∨ a0 + 20 ≤ q) → h q = h q := fun _ _ => rfl
  rw [X9_film] at hF
  refine ab_aload_n C 0 rfl rfl dX9_film_0 ?_
  refine ab_iload_n C 1 rfl rfl dX9_film_1 ?_
  obtain ⟨v1, hxv1, hF⟩ := Option.bind_eq_some_iff.mp hF
  refine ab_cVR (v := .int v1) (st := []) C lm_X9_153 (X9_isHolder_ok (xl X) hB0 (r := v1) hxv1) [.int x1] rfl hB0.1 rfl rfl rfl (by decide) ⟨Nat.zero_le _, Nat.zero_le _⟩ (Nat.le_of_ble_eq_true rfl) dX9_film_2 ?_
  refine ab_if_eq C 40 dX9_film_5 (by decide) (fun c2 => ?_) (fun c2 => ?_)
  · replace hF := (if_pos c2).symm.trans hF
    refine ab_iconst (v := (-1 : Int32)) C dX9_film_40 (by decide) ?_
    obtain rfl := Option.some.inj hF
    exact ab_iret C R0 rfl dX9_film_41 ⟨rfl, rfl, hB0, hFr⟩
  · replace hF := (if_neg c2).symm.trans hF
    refine ab_iload_n C 2 rfl rfl dX9_film_8 ?_
    refine ab_i2l C dX9_film_9 ?_
    refine ab_lconst (v := (1 : Int64)) C dX9_film_10 (by decide) ?_
    refine ab_ldc2 (v := (24 : Int64)) C dX9_film_11 lq_X9_306 ?_
    refine ab_cSR (v := .int (X9_in (x2.toInt64) (1 : Int64) (24 : Int64))) (st := []) C lm_X9_69 (X9_in_ok (xl X) (r := (X9_in (x2.toInt64) (1 : Int64) (24 : Int64))) rfl) rfl rfl (by decide) ⟨Nat.zero_le _, Nat.zero_le _⟩ (Nat.le_of_ble_eq_true rfl) dX9_film_14 ?_
    refine ab_if_eq C 40 dX9_film_17 (by decide) (fun c3 => ?_) (fun c3 => ?_)
    · replace hF := (if_pos c3).symm.trans hF
      refine ab_iconst (v := (-1 : Int32)) C dX9_film_40 (by decide) ?_
      obtain rfl := Option.some.inj hF
      exact ab_iret C R0 rfl dX9_film_41 ⟨rfl, rfl, hB0, hFr⟩
    · replace hF := (if_neg c3).symm.trans hF
      refine ab_iload_n C 3 rfl rfl dX9_film_20 ?_
      refine ab_cSR (v := .int (X9_isSheet x3)) (st := []) C lm_X9_293 (X9_isSheet_ok (xl X) (r := (X9_isSheet x3)) rfl) rfl rfl (by decide) ⟨Nat.zero_le _, Nat.zero_le _⟩ (Nat.le_of_ble_eq_true rfl) dX9_film_21 ?_
      refine ab_if_eq C 40 dX9_film_24 (by decide) (fun c4 => ?_) (fun c4 => ?_)
      · replace hF := (if_pos c4).symm.trans hF
        refine ab_iconst (v := (-1 : Int32)) C dX9_film_40 (by decide) ?_
        obtain rfl := Option.some.inj hF
        exact ab_iret C R0 rfl dX9_film_41 ⟨rfl, rfl, hB0, hFr⟩
      · replace hF := (if_neg c4).symm.trans hF
        refine ab_iload C 4 rfl dX9_film_27 ?_
        refine ab_i2l C dX9_film_29 ?_
        refine ab_lconst (v := (0 : Int64)) C dX9_film_30 (by decide) ?_
        refine ab_ldc2 (v := (3 : Int64)) C dX9_film_31 lq_X9_240 ?_
        refine ab_cSR (v := .int (X9_in (x4.toInt64) (0 : Int64) (3 : Int64))) (st := []) C lm_X9_69 (X9_in_ok (xl X) (r := (X9_in (x4.toInt64) (0 : Int64) (3 : Int64))) rfl) rfl rfl (by decide) ⟨Nat.zero_le _, Nat.zero_le _⟩ (Nat.le_of_ble_eq_true rfl) dX9_film_34 ?_
        refine ab_if_ne C 42 dX9_film_37 (by decide) (fun c5 => ?_) (fun c5 => ?_)
        · replace hF := (if_neg c5).symm.trans hF
          refine ab_aload_n C 0 rfl rfl dX9_film_42 ?_
          refine ab_iload_n C 3 rfl rfl dX9_film_43 ?_
          refine ab_iload C 4 rfl dX9_film_44 ?_
          refine ab_iload C 5 rfl dX9_film_46 ?_
          refine ab_iload_n C 2 rfl rfl dX9_film_48 ?_
          obtain ⟨v6, hxv6, hF⟩ := Option.bind_eq_some_iff.mp hF
          refine ab_cVR (v := .int v6) (st := []) C lm_X9_298 (X9_refusal_ok (xl X) hB0 (r := v6) hxv6) [.int x3, .int x4, .int x5, .int x2] rfl hB0.1 rfl rfl rfl (by decide) ⟨Nat.zero_le _, Nat.zero_le _⟩ (Nat.le_of_ble_eq_true rfl) dX9_film_49 ?_
          refine ab_istore (lv' := [(6, .int v6), (0, .ref a0), (1, .int x1), (2, .int x2), (3, .int x3), (4, .int x4), (5, .int x5)]) C dX9_film_52 (by decide) rfl ?_
          refine ab_iload C 0 rfl dX9_film_54 ?_
          refine ab_if_eq C 62 dX9_film_56 (by decide) (fun c7 => ?_) (fun c7 => ?_)
          · replace hF := (if_pos c7).symm.trans hF
            refine ab_aload_n C 1 rfl rfl dX9_film_62 ?_
            obtain ⟨v8, hxv8, hF⟩ := Option.bind_eq_some_iff.mp hF
            refine ab_cVN (st := []) C lm_X9_195 (X9_layThen_ok (xl X) hB0 (r := v8) hxv8) [] rfl hB0.1 rfl rfl rfl (by decide) ⟨Nat.zero_le _, Nat.zero_le _⟩ (Nat.le_of_ble_eq_true rfl) dX9_film_63 (fun g9 pg9 => ?_)
            obtain ⟨k0, Og9⟩ := pg9
            have hB0 : X9_at g9 a0 v8 := k0
            have hFr : ∀ q, (q < a0 ∨ a0 + 20 ≤ q) → g9 q = h q := fun q u0 => (Og9 q (by omega)).trans (hFr q u0)
            refine ab_iconst (v := (0 : Int32)) C dX9_film_66 (by decide) ?_
            refine ab_istore (lv' := [(7, .int (0 : Int32)), (6, .int v6), (0, .ref a0), (1, .int x1), (2, .int x2), (3, .int x3), (4, .int x4), (5, .int x5)]) C dX9_film_67 (by decide) rfl ?_
            have L69 : ∀ (n69 : Nat) (v10 : Int32) (Z11 : Rec) (g12 : aH), (X9_at g12 a0 Z11) → (∀ q, (q < a0 ∨ a0 + 20 ≤ q) → g12 q = h q) → ∀ (res69 : Rec), X9_film_L69 x2 x1 x3 x5 n69 v10 Z11 = some res69 → (∀ (q9 : aH), (X9_at q9 a0 res69) → (∀ q, (q < a0 ∨ a0 + 20 ≤ q) → q9 q = h q) → aV X G 9 114 [(2, .int x2)] [] q9 nx 0 0) → aV X G 9 69 [(0, .ref a0), (1, .int x1), (2, .int x2), (3, .int x3), (5, .int x5), (7, .int v10)] [] g12 nx 0 0 := by
              intro n69
              induction n69 with
              | zero => intro v10 Z11 g12 hB0 hFr res69 hF KX69; cases (show (none : Option (Rec)) = some res69 from hF)
              | succ n69 ih69 =>
                intro v10 Z11 g12 hB0 hFr res69 hF KX69
                rw [X9_film_L69] at hF
                refine ab_iload C 5 rfl dX9_film_69 ?_
                refine ab_iload_n C 2 rfl rfl dX9_film_71 ?_
                refine ab_icmp_ge C 114 dX9_film_72 (by decide) (fun c13 => ?_) (fun c13 => ?_)
                · replace hF := (if_pos c13).symm.trans hF
                  obtain rfl := Option.some.inj hF
                  refine aV.sub (lv' := [(2, .int x2)]) [2] rfl ?_
                  exact KX69 g12 hB0 hFr
                · replace hF := (if_neg c13).symm.trans hF
                  refine ab_aload_n C 0 rfl rfl dX9_film_75 ?_
                  refine ab_g9 (v := .ref (a0 + 3)) C lf_X9_16 hB0.1 rfl dX9_film_76 ?_
                  obtain ⟨v14, hxv14, hF⟩ := Option.bind_eq_some_iff.mp hF
                  refine ab_cSM (v := .int v14.1) (st := []) C lm_X9_189 (X9_goOn_ok (xl X) (X9_r2 hB0) (r := v14) hxv14) rfl rfl (by decide) ⟨Nat.zero_le _, Nat.zero_le _⟩ (Nat.le_of_ble_eq_true rfl) dX9_film_79 (fun g15 pg15 => ?_)
                  obtain ⟨k0, Og15⟩ := pg15
                  have hB0 : X9_at g15 a0 (sA Z11 2 v14.2) := X9_w2 hB0 k0 (fun q i1 => Og15 q (by omega))
                  have hFr : ∀ q, (q < a0 ∨ a0 + 20 ≤ q) → g15 q = h q := fun q u0 => (Og15 q (by omega)).trans (hFr q u0)
                  refine ab_istore (lv' := [(8, .int v14.1), (0, .ref a0), (1, .int x1), (2, .int x2), (3, .int x3), (5, .int x5), (7, .int v10)]) C dX9_film_82 (by decide) rfl ?_
                  refine ab_aload_n C 1 rfl rfl dX9_film_84 ?_
                  refine ab_g9 (v := .ref (a0 + 18)) C lf_X9_62 hB0.1 rfl dX9_film_85 ?_
                  refine ab_bipush (v := (24 : Int32)) C dX9_film_88 (by decide) ?_
                  refine ab_iload_n C 4 rfl rfl dX9_film_90 ?_
                  refine ab_imul C dX9_film_91 ?_
                  refine ab_iload C 5 rfl dX9_film_92 ?_
                  refine ab_iadd C dX9_film_94 ?_
                  refine ab_iload C 6 rfl dX9_film_95 ?_
                  refine ab_iadd C dX9_film_97 ?_
                  refine ab_aload_n C 1 rfl rfl dX9_film_98 ?_
                  refine ab_g9 (v := .ref (a0 + 3)) C lf_X9_16 hB0.1 rfl dX9_film_99 ?_
                  refine ab_iload_n C 2 rfl rfl dX9_film_102 ?_
                  obtain ⟨v16, hxv16, hF⟩ := Option.bind_eq_some_iff.mp hF
                  refine ab_cSR (v := .int v16) (st := [.int ((((24 : Int32) * x3) + x5) + v10), .ref (a0 + 18)]) C lm_X9_149 (X9_says_ok (xl X) (X9_r2 hB0) (r := v16) hxv16) rfl rfl (by decide) ⟨Nat.zero_le _, Nat.zero_le _⟩ (Nat.le_of_ble_eq_true rfl) dX9_film_103 ?_
                  refine ab_i2l C dX9_film_106 ?_
                  obtain ⟨w17, hxw17, hF⟩ := Option.bind_eq_some_iff.mp hF
                  refine ab_last C (X9_r28 hB0) hxw17 dX9_film_107 (fun g18 eg18 og18 => ?_)
                  have hB0 : X9_at g18 a0 (sL (sA Z11 2 v14.2) 28 w17) := X9_w28 hB0 eg18 og18
                  have hFr : ∀ q, (q < a0 ∨ a0 + 20 ≤ q) → g18 q = h q := fun q u0 => (og18 q (by omega)).trans (hFr q u0)
                  obtain ⟨v19, qv19⟩ : ∃ y : Int32, y = (v10 + (1 : Int32)) := ⟨_, rfl⟩
                  replace hF := aLet_e hF v19 qv19
                  refine ab_iinc (lv' := [(7, .int v19), (8, .int v14.1), (0, .ref a0), (1, .int x1), (2, .int x2), (3, .int x3), (5, .int x5)]) C 6 rfl dX9_film_108 (by rw [qv19]; rfl) (by decide) rfl ?_
                  refine ab_goto C 69 dX9_film_111 (by decide) ?_
                  refine aV.sub (lv' := [(0, .ref a0), (1, .int x1), (2, .int x2), (3, .int x3), (5, .int x5), (7, .int v19)]) [2, 3, 4, 5, 6, 0] rfl ?_
                  exact ih69 v19 (sL (sA Z11 2 v14.2) 28 w17) g18 hB0 hFr res69 hF KX69
            refine aV.sub (lv' := [(0, .ref a0), (1, .int x1), (2, .int x2), (3, .int x3), (5, .int x5), (7, .int (0 : Int32))]) [2, 3, 4, 5, 7, 0] rfl ?_
            obtain ⟨e20, he20, hF⟩ := Option.bind_eq_some_iff.mp hF
            refine L69 aFu (0 : Int32) v8 g9 hB0 hFr e20 he20 (fun g21 hB0 hFr => ?_)
            refine ab_iload_n C 0 rfl rfl dX9_film_114 ?_
            obtain rfl := Option.some.inj hF
            exact ab_iret C R0 rfl dX9_film_115 ⟨rfl, rfl, hB0, hFr⟩
          · replace hF := (if_neg c7).symm.trans hF
            refine ab_iload C 0 rfl dX9_film_59 ?_
            obtain rfl := Option.some.inj hF
            exact ab_iret C R0 rfl dX9_film_61 ⟨rfl, rfl, hB0, hFr⟩
        · replace hF := (if_pos c5).symm.trans hF
          refine ab_iconst (v := (-1 : Int32)) C dX9_film_40 (by decide) ?_
          obtain rfl := Option.some.inj hF
          exact ab_iret C R0 rfl dX9_film_41 ⟨rfl, rfl, hB0, hFr⟩
theorem dX9_changes_0 : decode cX9_changes 0 = .ok (.iload_n 1, 1) := by decide +kernel
theorem dX9_changes_1 : decode cX9_changes 1 = .ok (.invokestatic 293, 3) := by decide +kernel
theorem dX9_changes_4 : decode cX9_changes 4 = .ok (.ifCond .eq 48, 3) := by decide +kernel
theorem dX9_changes_7 : decode cX9_changes 7 = .ok (.iload_n 2, 1) := by decide +kernel
theorem dX9_changes_8 : decode cX9_changes 8 = .ok (.i2l, 1) := by decide +kernel
theorem dX9_changes_9 : decode cX9_changes 9 = .ok (.lconst 0, 1) := by decide +kernel
theorem dX9_changes_10 : decode cX9_changes 10 = .ok (.ldc2_w 240, 3) := by decide +kernel
theorem dX9_changes_13 : decode cX9_changes 13 = .ok (.invokestatic 69, 3) := by decide +kernel
theorem dX9_changes_16 : decode cX9_changes 16 = .ok (.ifCond .eq 36, 3) := by decide +kernel
theorem dX9_changes_19 : decode cX9_changes 19 = .ok (.iload 4, 2) := by decide +kernel
theorem dX9_changes_21 : decode cX9_changes 21 = .ok (.i2l, 1) := by decide +kernel
theorem dX9_changes_22 : decode cX9_changes 22 = .ok (.lconst 1, 1) := by decide +kernel
theorem dX9_changes_23 : decode cX9_changes 23 = .ok (.ldc2_w 308, 3) := by decide +kernel
theorem dX9_changes_26 : decode cX9_changes 26 = .ok (.invokestatic 69, 3) := by decide +kernel
theorem dX9_changes_29 : decode cX9_changes 29 = .ok (.ifCond .eq 23, 3) := by decide +kernel
theorem dX9_changes_32 : decode cX9_changes 32 = .ok (.iload 5, 2) := by decide +kernel
theorem dX9_changes_34 : decode cX9_changes 34 = .ok (.bipush (-4), 2) := by decide +kernel
theorem dX9_changes_36 : decode cX9_changes 36 = .ok (.if_icmp .eq 18, 3) := by decide +kernel
theorem dX9_changes_39 : decode cX9_changes 39 = .ok (.iload 5, 2) := by decide +kernel
theorem dX9_changes_41 : decode cX9_changes 41 = .ok (.i2l, 1) := by decide +kernel
theorem dX9_changes_42 : decode cX9_changes 42 = .ok (.lconst 0, 1) := by decide +kernel
theorem dX9_changes_43 : decode cX9_changes 43 = .ok (.ldc2_w 310, 3) := by decide +kernel
theorem dX9_changes_46 : decode cX9_changes 46 = .ok (.invokestatic 69, 3) := by decide +kernel
theorem dX9_changes_49 : decode cX9_changes 49 = .ok (.ifCond .ne 5, 3) := by decide +kernel
theorem dX9_changes_52 : decode cX9_changes 52 = .ok (.iconst (-1), 1) := by decide +kernel
theorem dX9_changes_53 : decode cX9_changes 53 = .ok (.ireturn, 1) := by decide +kernel
theorem dX9_changes_54 : decode cX9_changes 54 = .ok (.aload_n 0, 1) := by decide +kernel
theorem dX9_changes_55 : decode cX9_changes 55 = .ok (.iload_n 1, 1) := by decide +kernel
theorem dX9_changes_56 : decode cX9_changes 56 = .ok (.iload_n 2, 1) := by decide +kernel
theorem dX9_changes_57 : decode cX9_changes 57 = .ok (.iload_n 3, 1) := by decide +kernel
theorem dX9_changes_58 : decode cX9_changes 58 = .ok (.iconst 2, 1) := by decide +kernel
theorem dX9_changes_59 : decode cX9_changes 59 = .ok (.iload 4, 2) := by decide +kernel
theorem dX9_changes_61 : decode cX9_changes 61 = .ok (.imul, 1) := by decide +kernel
theorem dX9_changes_62 : decode cX9_changes 62 = .ok (.invokevirtual 298, 3) := by decide +kernel
theorem dX9_changes_65 : decode cX9_changes 65 = .ok (.istore 6, 2) := by decide +kernel
theorem dX9_changes_67 : decode cX9_changes 67 = .ok (.iload 6, 2) := by decide +kernel
theorem dX9_changes_69 : decode cX9_changes 69 = .ok (.ifCond .eq 6, 3) := by decide +kernel
theorem dX9_changes_72 : decode cX9_changes 72 = .ok (.iload 6, 2) := by decide +kernel
theorem dX9_changes_74 : decode cX9_changes 74 = .ok (.ireturn, 1) := by decide +kernel
theorem dX9_changes_75 : decode cX9_changes 75 = .ok (.bipush 24, 2) := by decide +kernel
theorem dX9_changes_77 : decode cX9_changes 77 = .ok (.iload_n 1, 1) := by decide +kernel
theorem dX9_changes_78 : decode cX9_changes 78 = .ok (.imul, 1) := by decide +kernel
theorem dX9_changes_79 : decode cX9_changes 79 = .ok (.iload_n 3, 1) := by decide +kernel
theorem dX9_changes_80 : decode cX9_changes 80 = .ok (.iadd, 1) := by decide +kernel
theorem dX9_changes_81 : decode cX9_changes 81 = .ok (.istore 7, 2) := by decide +kernel
theorem dX9_changes_83 : decode cX9_changes 83 = .ok (.iconst 0, 1) := by decide +kernel
theorem dX9_changes_84 : decode cX9_changes 84 = .ok (.istore 8, 2) := by decide +kernel
theorem dX9_changes_86 : decode cX9_changes 86 = .ok (.iload 8, 2) := by decide +kernel
theorem dX9_changes_88 : decode cX9_changes 88 = .ok (.iconst 2, 1) := by decide +kernel
theorem dX9_changes_89 : decode cX9_changes 89 = .ok (.iload 4, 2) := by decide +kernel
theorem dX9_changes_91 : decode cX9_changes 91 = .ok (.imul, 1) := by decide +kernel
theorem dX9_changes_92 : decode cX9_changes 92 = .ok (.if_icmp .ge 32, 3) := by decide +kernel
theorem dX9_changes_95 : decode cX9_changes 95 = .ok (.aload_n 0, 1) := by decide +kernel
theorem dX9_changes_96 : decode cX9_changes 96 = .ok (.getfield 62, 3) := by decide +kernel
theorem dX9_changes_99 : decode cX9_changes 99 = .ok (.iload 7, 2) := by decide +kernel
theorem dX9_changes_101 : decode cX9_changes 101 = .ok (.iload 8, 2) := by decide +kernel
theorem dX9_changes_103 : decode cX9_changes 103 = .ok (.iadd, 1) := by decide +kernel
theorem dX9_changes_104 : decode cX9_changes 104 = .ok (.laload, 1) := by decide +kernel
theorem dX9_changes_105 : decode cX9_changes 105 = .ok (.lconst 0, 1) := by decide +kernel
theorem dX9_changes_106 : decode cX9_changes 106 = .ok (.ldc2_w 310, 3) := by decide +kernel
theorem dX9_changes_109 : decode cX9_changes 109 = .ok (.invokestatic 69, 3) := by decide +kernel
theorem dX9_changes_112 : decode cX9_changes 112 = .ok (.ifCond .ne 6, 3) := by decide +kernel
theorem dX9_changes_115 : decode cX9_changes 115 = .ok (.bipush (-2), 2) := by decide +kernel
theorem dX9_changes_117 : decode cX9_changes 117 = .ok (.ireturn, 1) := by decide +kernel
theorem dX9_changes_118 : decode cX9_changes 118 = .ok (.iinc 8 1, 3) := by decide +kernel
theorem dX9_changes_121 : decode cX9_changes 121 = .ok (.goto (-35), 3) := by decide +kernel
theorem dX9_changes_124 : decode cX9_changes 124 = .ok (.iconst 0, 1) := by decide +kernel
theorem dX9_changes_125 : decode cX9_changes 125 = .ok (.istore 8, 2) := by decide +kernel
theorem dX9_changes_127 : decode cX9_changes 127 = .ok (.iload 8, 2) := by decide +kernel
theorem dX9_changes_129 : decode cX9_changes 129 = .ok (.iconst 5, 1) := by decide +kernel
theorem dX9_changes_130 : decode cX9_changes 130 = .ok (.if_icmp .ge 18, 3) := by decide +kernel
theorem dX9_changes_133 : decode cX9_changes 133 = .ok (.aload_n 0, 1) := by decide +kernel
theorem dX9_changes_134 : decode cX9_changes 134 = .ok (.getfield 66, 3) := by decide +kernel
theorem dX9_changes_137 : decode cX9_changes 137 = .ok (.iload 8, 2) := by decide +kernel
theorem dX9_changes_139 : decode cX9_changes 139 = .ok (.bipush (-4), 2) := by decide +kernel
theorem dX9_changes_141 : decode cX9_changes 141 = .ok (.iastore, 1) := by decide +kernel
theorem dX9_changes_142 : decode cX9_changes 142 = .ok (.iinc 8 1, 3) := by decide +kernel
theorem dX9_changes_145 : decode cX9_changes 145 = .ok (.goto (-18), 3) := by decide +kernel
theorem dX9_changes_148 : decode cX9_changes 148 = .ok (.iconst 0, 1) := by decide +kernel
theorem dX9_changes_149 : decode cX9_changes 149 = .ok (.istore 8, 2) := by decide +kernel
theorem dX9_changes_151 : decode cX9_changes 151 = .ok (.iconst 0, 1) := by decide +kernel
theorem dX9_changes_152 : decode cX9_changes 152 = .ok (.istore 9, 2) := by decide +kernel
theorem dX9_changes_154 : decode cX9_changes 154 = .ok (.iload 9, 2) := by decide +kernel
theorem dX9_changes_156 : decode cX9_changes 156 = .ok (.iload 4, 2) := by decide +kernel
theorem dX9_changes_158 : decode cX9_changes 158 = .ok (.if_icmp .ge 86, 3) := by decide +kernel
theorem dX9_changes_161 : decode cX9_changes 161 = .ok (.aload_n 0, 1) := by decide +kernel
theorem dX9_changes_162 : decode cX9_changes 162 = .ok (.getfield 62, 3) := by decide +kernel
theorem dX9_changes_165 : decode cX9_changes 165 = .ok (.iload 7, 2) := by decide +kernel
theorem dX9_changes_167 : decode cX9_changes 167 = .ok (.iconst 2, 1) := by decide +kernel
theorem dX9_changes_168 : decode cX9_changes 168 = .ok (.iload 9, 2) := by decide +kernel
theorem dX9_changes_170 : decode cX9_changes 170 = .ok (.imul, 1) := by decide +kernel
theorem dX9_changes_171 : decode cX9_changes 171 = .ok (.iadd, 1) := by decide +kernel
theorem dX9_changes_172 : decode cX9_changes 172 = .ok (.laload, 1) := by decide +kernel
theorem dX9_changes_173 : decode cX9_changes 173 = .ok (.l2i, 1) := by decide +kernel
theorem dX9_changes_174 : decode cX9_changes 174 = .ok (.istore 10, 2) := by decide +kernel
theorem dX9_changes_176 : decode cX9_changes 176 = .ok (.aload_n 0, 1) := by decide +kernel
theorem dX9_changes_177 : decode cX9_changes 177 = .ok (.getfield 62, 3) := by decide +kernel
theorem dX9_changes_180 : decode cX9_changes 180 = .ok (.iload 7, 2) := by decide +kernel
theorem dX9_changes_182 : decode cX9_changes 182 = .ok (.iconst 2, 1) := by decide +kernel
theorem dX9_changes_183 : decode cX9_changes 183 = .ok (.iload 9, 2) := by decide +kernel
theorem dX9_changes_185 : decode cX9_changes 185 = .ok (.imul, 1) := by decide +kernel
theorem dX9_changes_186 : decode cX9_changes 186 = .ok (.iadd, 1) := by decide +kernel
theorem dX9_changes_187 : decode cX9_changes 187 = .ok (.iconst 1, 1) := by decide +kernel
theorem dX9_changes_188 : decode cX9_changes 188 = .ok (.iadd, 1) := by decide +kernel
theorem dX9_changes_189 : decode cX9_changes 189 = .ok (.laload, 1) := by decide +kernel
theorem dX9_changes_190 : decode cX9_changes 190 = .ok (.l2i, 1) := by decide +kernel
theorem dX9_changes_191 : decode cX9_changes 191 = .ok (.istore 11, 2) := by decide +kernel
theorem dX9_changes_193 : decode cX9_changes 193 = .ok (.iload 8, 2) := by decide +kernel
theorem dX9_changes_195 : decode cX9_changes 195 = .ok (.ifCond .ne 27, 3) := by decide +kernel
theorem dX9_changes_198 : decode cX9_changes 198 = .ok (.aload_n 0, 1) := by decide +kernel
theorem dX9_changes_199 : decode cX9_changes 199 = .ok (.getfield 66, 3) := by decide +kernel
theorem dX9_changes_202 : decode cX9_changes 202 = .ok (.iload 10, 2) := by decide +kernel
theorem dX9_changes_204 : decode cX9_changes 204 = .ok (.iaload, 1) := by decide +kernel
theorem dX9_changes_205 : decode cX9_changes 205 = .ok (.bipush (-4), 2) := by decide +kernel
theorem dX9_changes_207 : decode cX9_changes 207 = .ok (.if_icmp .eq 19, 3) := by decide +kernel
theorem dX9_changes_210 : decode cX9_changes 210 = .ok (.aload_n 0, 1) := by decide +kernel
theorem dX9_changes_211 : decode cX9_changes 211 = .ok (.getfield 66, 3) := by decide +kernel
theorem dX9_changes_214 : decode cX9_changes 214 = .ok (.iload 10, 2) := by decide +kernel
theorem dX9_changes_216 : decode cX9_changes 216 = .ok (.iaload, 1) := by decide +kernel
theorem dX9_changes_217 : decode cX9_changes 217 = .ok (.iload 11, 2) := by decide +kernel
theorem dX9_changes_219 : decode cX9_changes 219 = .ok (.if_icmp .eq 7, 3) := by decide +kernel
theorem dX9_changes_222 : decode cX9_changes 222 = .ok (.iconst 1, 1) := by decide +kernel
theorem dX9_changes_223 : decode cX9_changes 223 = .ok (.goto 4, 3) := by decide +kernel
theorem dX9_changes_226 : decode cX9_changes 226 = .ok (.iconst 0, 1) := by decide +kernel
theorem dX9_changes_227 : decode cX9_changes 227 = .ok (.istore 8, 2) := by decide +kernel
theorem dX9_changes_229 : decode cX9_changes 229 = .ok (.aload_n 0, 1) := by decide +kernel
theorem dX9_changes_230 : decode cX9_changes 230 = .ok (.getfield 66, 3) := by decide +kernel
theorem dX9_changes_233 : decode cX9_changes 233 = .ok (.iload 10, 2) := by decide +kernel
theorem dX9_changes_235 : decode cX9_changes 235 = .ok (.iload 11, 2) := by decide +kernel
theorem dX9_changes_237 : decode cX9_changes 237 = .ok (.iastore, 1) := by decide +kernel
theorem dX9_changes_238 : decode cX9_changes 238 = .ok (.iinc 9 1, 3) := by decide +kernel
theorem dX9_changes_241 : decode cX9_changes 241 = .ok (.goto (-87), 3) := by decide +kernel
theorem dX9_changes_244 : decode cX9_changes 244 = .ok (.iload 8, 2) := by decide +kernel
theorem dX9_changes_246 : decode cX9_changes 246 = .ok (.ifCond .eq 7, 3) := by decide +kernel
theorem dX9_changes_249 : decode cX9_changes 249 = .ok (.iconst 0, 1) := by decide +kernel
theorem dX9_changes_250 : decode cX9_changes 250 = .ok (.goto 4, 3) := by decide +kernel
theorem dX9_changes_253 : decode cX9_changes 253 = .ok (.iconst 1, 1) := by decide +kernel
theorem dX9_changes_254 : decode cX9_changes 254 = .ok (.istore 9, 2) := by decide +kernel
theorem dX9_changes_256 : decode cX9_changes 256 = .ok (.iconst 0, 1) := by decide +kernel
theorem dX9_changes_257 : decode cX9_changes 257 = .ok (.istore 10, 2) := by decide +kernel
theorem dX9_changes_259 : decode cX9_changes 259 = .ok (.iload 10, 2) := by decide +kernel
theorem dX9_changes_261 : decode cX9_changes 261 = .ok (.iconst 5, 1) := by decide +kernel
theorem dX9_changes_262 : decode cX9_changes 262 = .ok (.if_icmp .ge 31, 3) := by decide +kernel
theorem dX9_changes_265 : decode cX9_changes 265 = .ok (.iload 9, 2) := by decide +kernel
theorem dX9_changes_267 : decode cX9_changes 267 = .ok (.aload_n 0, 1) := by decide +kernel
theorem dX9_changes_268 : decode cX9_changes 268 = .ok (.getfield 66, 3) := by decide +kernel
theorem dX9_changes_271 : decode cX9_changes 271 = .ok (.iload 10, 2) := by decide +kernel
theorem dX9_changes_273 : decode cX9_changes 273 = .ok (.iaload, 1) := by decide +kernel
theorem dX9_changes_274 : decode cX9_changes 274 = .ok (.bipush (-4), 2) := by decide +kernel
theorem dX9_changes_276 : decode cX9_changes 276 = .ok (.if_icmp .ne 7, 3) := by decide +kernel
theorem dX9_changes_279 : decode cX9_changes 279 = .ok (.iconst 5, 1) := by decide +kernel
theorem dX9_changes_280 : decode cX9_changes 280 = .ok (.goto 4, 3) := by decide +kernel
theorem dX9_changes_283 : decode cX9_changes 283 = .ok (.iconst 1, 1) := by decide +kernel
theorem dX9_changes_284 : decode cX9_changes 284 = .ok (.imul, 1) := by decide +kernel
theorem dX9_changes_285 : decode cX9_changes 285 = .ok (.istore 9, 2) := by decide +kernel
theorem dX9_changes_287 : decode cX9_changes 287 = .ok (.iinc 10 1, 3) := by decide +kernel
theorem dX9_changes_290 : decode cX9_changes 290 = .ok (.goto (-31), 3) := by decide +kernel
theorem dX9_changes_293 : decode cX9_changes 293 = .ok (.iload 5, 2) := by decide +kernel
theorem dX9_changes_295 : decode cX9_changes 295 = .ok (.bipush (-4), 2) := by decide +kernel
theorem dX9_changes_297 : decode cX9_changes 297 = .ok (.if_icmp .ne 8, 3) := by decide +kernel
theorem dX9_changes_300 : decode cX9_changes 300 = .ok (.iload 9, 2) := by decide +kernel
theorem dX9_changes_302 : decode cX9_changes 302 = .ok (.goto 36, 3) := by decide +kernel
theorem dX9_changes_305 : decode cX9_changes 305 = .ok (.iload 8, 2) := by decide +kernel
theorem dX9_changes_307 : decode cX9_changes 307 = .ok (.ifCond .eq 8, 3) := by decide +kernel
theorem dX9_changes_310 : decode cX9_changes 310 = .ok (.bipush (-4), 2) := by decide +kernel
theorem dX9_changes_312 : decode cX9_changes 312 = .ok (.goto 26, 3) := by decide +kernel
theorem dX9_changes_315 : decode cX9_changes 315 = .ok (.aload_n 0, 1) := by decide +kernel
theorem dX9_changes_316 : decode cX9_changes 316 = .ok (.getfield 66, 3) := by decide +kernel
theorem dX9_changes_319 : decode cX9_changes 319 = .ok (.iload 5, 2) := by decide +kernel
theorem dX9_changes_321 : decode cX9_changes 321 = .ok (.iaload, 1) := by decide +kernel
theorem dX9_changes_322 : decode cX9_changes 322 = .ok (.bipush (-4), 2) := by decide +kernel
theorem dX9_changes_324 : decode cX9_changes 324 = .ok (.if_icmp .ne 7, 3) := by decide +kernel
theorem dX9_changes_327 : decode cX9_changes 327 = .ok (.iconst 0, 1) := by decide +kernel
theorem dX9_changes_328 : decode cX9_changes 328 = .ok (.goto 10, 3) := by decide +kernel
theorem dX9_changes_331 : decode cX9_changes 331 = .ok (.aload_n 0, 1) := by decide +kernel
theorem dX9_changes_332 : decode cX9_changes 332 = .ok (.getfield 66, 3) := by decide +kernel
theorem dX9_changes_335 : decode cX9_changes 335 = .ok (.iload 5, 2) := by decide +kernel
theorem dX9_changes_337 : decode cX9_changes 337 = .ok (.iaload, 1) := by decide +kernel
theorem dX9_changes_338 : decode cX9_changes 338 = .ok (.ireturn, 1) := by decide +kernel
def X9_changes_L86 (x4 : Int32) (S0 : Rec) (v6 : Int32) : Nat → Int32 → Option ((Int32 × Rec) ⊕ (Unit))
  | 0, _ => none
  | n86 + 1, v7 => if ((2 : Int32) * x4) ≤ v7 then
      some (.inr ())
    else
      (rdL (S0.2.2 28) 96 (v6 + v7)).bind fun v9 =>
      if (X9_in v9 (0 : Int64) (4 : Int64)) = 0 then
        some (.inl ((-2 : Int32), S0))
      else
        aLet (v7 + (1 : Int32)) fun v11 =>
        X9_changes_L86 x4 S0 v6 n86 v11
def X9_changes_L127 : Nat → Int32 → Rec → Option (Rec)
  | 0, _, _ => none
  | n127 + 1, v16, Z17 => if (5 : Int32) ≤ v16 then
      some Z17
    else
      (wrI (Z17.2.1 29) 5 v16 (-4 : Int32)).bind fun w20 =>
      aLet (v16 + (1 : Int32)) fun v22 =>
      X9_changes_L127 n127 v22 (sA Z17 29 w20)
def X9_changes_L154 (x4 : Int32) (v6 : Int32) : Nat → Int32 → Int32 → Rec → Option (Int32 × Rec)
  | 0, _, _, _ => none
  | n154 + 1, v25, v26, Z27 => if x4 ≤ v26 then
      some (v25, Z27)
    else
      (rdL (Z27.2.2 28) 96 (v6 + ((2 : Int32) * v26))).bind fun v30 =>
      aLet (v30.toInt32) fun v31 =>
      (rdL (Z27.2.2 28) 96 ((v6 + ((2 : Int32) * v26)) + (1 : Int32))).bind fun v32 =>
      aLet (v32.toInt32) fun v33 =>
      if v25 = 0 then
        (rdI (Z27.2.1 29) 5 v31).bind fun v38 =>
        if v38 = (-4 : Int32) then
          (wrI (Z27.2.1 29) 5 v31 v33).bind fun w40 =>
          aLet (v26 + (1 : Int32)) fun v42 =>
          X9_changes_L154 x4 v6 n154 (0 : Int32) v42 (sA Z27 29 w40)
        else
          (rdI (Z27.2.1 29) 5 v31).bind fun v43 =>
          if v43 = v33 then
            (wrI (Z27.2.1 29) 5 v31 v33).bind fun w45 =>
            aLet (v26 + (1 : Int32)) fun v47 =>
            X9_changes_L154 x4 v6 n154 (0 : Int32) v47 (sA Z27 29 w45)
          else
            (wrI (Z27.2.1 29) 5 v31 v33).bind fun w48 =>
            aLet (v26 + (1 : Int32)) fun v50 =>
            X9_changes_L154 x4 v6 n154 (1 : Int32) v50 (sA Z27 29 w48)
      else
        (wrI (Z27.2.1 29) 5 v31 v33).bind fun w35 =>
        aLet (v26 + (1 : Int32)) fun v37 =>
        X9_changes_L154 x4 v6 n154 (1 : Int32) v37 (sA Z27 29 w35)
def X9_changes_L259 (e51 : (Int32 × Rec)) : Nat → Int32 → Int32 → Option (Int32)
  | 0, _, _ => none
  | n259 + 1, v54, v55 => if (5 : Int32) ≤ v55 then
      some v54
    else
      (rdI (e51.2.2.1 29) 5 v55).bind fun v57 =>
      if v57 = (-4 : Int32) then
        aLet (v54 * (5 : Int32)) fun v61 =>
        aLet (v55 + (1 : Int32)) fun v62 =>
        X9_changes_L259 e51 n259 v61 v62
      else
        aLet (v54 * (1 : Int32)) fun v59 =>
        aLet (v55 + (1 : Int32)) fun v60 =>
        X9_changes_L259 e51 n259 v59 v60
def X9_changes_J254 (e51 : (Int32 × Rec)) (x5 : Int32) (v53 : Int32) : Option (Int32 × Rec) :=
  (X9_changes_L259 e51 aFu v53 (0 : Int32)).bind fun e63 =>
  if x5 = (-4 : Int32) then
    some (e63, e51.2)
  else
    if e51.1 = 0 then
      (rdI (e51.2.2.1 29) 5 x5).bind fun v66 =>
      if v66 = (-4 : Int32) then
        some ((0 : Int32), e51.2)
      else
        (rdI (e51.2.2.1 29) 5 x5).bind fun v68 =>
        some (v68, e51.2)
    else
      some ((-4 : Int32), e51.2)
def X9_changes_J54 (S0 : Rec) (x1 : Int32) (x2 : Int32) (x3 : Int32) (x4 : Int32) (x5 : Int32) : Option (Int32 × Rec) :=
  (X9_refusal S0 x1 x2 x3 ((2 : Int32) * x4)).bind fun v4 =>
  if v4 = 0 then
    aLet (((24 : Int32) * x1) + x3) fun v6 =>
    (X9_changes_L86 x4 S0 v6 aFu (0 : Int32)).bind fun e12 =>
    aCs e12 (fun t14 => some t14) (fun s13 =>
      (X9_changes_L127 aFu (0 : Int32) S0).bind fun e23 =>
      (X9_changes_L154 x4 v6 aFu (0 : Int32) (0 : Int32) e23).bind fun e51 =>
      if e51.1 = 0 then
        X9_changes_J254 e51 x5 (1 : Int32)
      else
        X9_changes_J254 e51 x5 (0 : Int32))
  else
    some (v4, S0)
def X9_changes (S0 : Rec) (x1 : Int32) (x2 : Int32) (x3 : Int32) (x4 : Int32) (x5 : Int32) : Option (Int32 × Rec) :=
  if (X9_isSheet x1) = 0 then
    some ((-1 : Int32), S0)
  else
    if (X9_in (x2.toInt64) (0 : Int64) (3 : Int64)) = 0 then
      some ((-1 : Int32), S0)
    else
      if (X9_in (x4.toInt64) (1 : Int64) (12 : Int64)) = 0 then
        some ((-1 : Int32), S0)
      else
        if x5 = (-4 : Int32) then
          X9_changes_J54 S0 x1 x2 x3 x4 x5
        else
          if (X9_in (x5.toInt64) (0 : Int64) (4 : Int64)) = 0 then
            some ((-1 : Int32), S0)
          else
            X9_changes_J54 S0 x1 x2 x3 x4 x5
set_option maxRecDepth 100000 in
set_option maxHeartbeats 4000000 in
theorem X9_changes_ok (l : Launch) {h : aH} {nx : Nat} {a0 : Nat} {S0 : Rec} {x1 : Int32} {x2 : Int32} {x3 : Int32} {x4 : Int32} {x5 : Int32} (hB0 : X9_at h a0 S0) {r : Int32 × Rec} (hF : X9_changes S0 x1 x2 x3 x4 x5 = some r) : aOk l 2 0 0 yX9_changes cX9_changes 12 (some .int) [.ref a0, .int x1, .int x2, .int x3, .int x4, .int x5] h nx (aMt (some (.int r.1)) nx (fun h1 => X9_at h1 a0 r.2 ∧ (∀ q, (q < a0 ∨ a0 + 20 ≤ q) → h1 q = h q))) := by
  refine aOk.of (by decide +kernel) (Nat.le_of_ble_eq_true rfl) (fun X G hX C R0 _ => ?_)
  subst hX
  show aV X G 12 0 [(0, .ref a0), (1, .int x1), (2, .int x2), (3, .int x3), (4, .int x4), (5, .int x5)] [] h nx 0 0
  have hFr : ∀ q, (q < a0 ∨ a0 + 20 ≤ q) → h q = h q := fun _ _ => rfl
  rw [X9_changes] at hF
  refine ab_iload_n C 1 rfl rfl dX9_changes_0 ?_
  refine ab_cSR (v := .int (X9_isSheet x1)) (st := []) C lm_X9_293 (X9_isSheet_ok (xl X) (r := (X9_isSheet x1)) rfl) rfl rfl (by decide) ⟨Nat.zero_le _, Nat.zero_le _⟩ (Nat.le_of_ble_eq_true rfl) dX9_changes_1 ?_
  refine ab_if_eq C 52 dX9_changes_4 (by decide) (fun c1 => ?_) (fun c1 => ?_)
  · replace hF := (if_pos c1).symm.trans hF
    refine ab_iconst (v := (-1 : Int32)) C dX9_changes_52 (by decide) ?_
    obtain rfl := Option.some.inj hF
    exact ab_iret C R0 rfl dX9_changes_53 ⟨rfl, rfl, hB0, hFr⟩
  · replace hF := (if_neg c1).symm.trans hF
    refine ab_iload_n C 2 rfl rfl dX9_changes_7 ?_
    refine ab_i2l C dX9_changes_8 ?_
    refine ab_lconst (v := (0 : Int64)) C dX9_changes_9 (by decide) ?_
    refine ab_ldc2 (v := (3 : Int64)) C dX9_changes_10 lq_X9_240 ?_
    refine ab_cSR (v := .int (X9_in (x2.toInt64) (0 : Int64) (3 : Int64))) (st := []) C lm_X9_69 (X9_in_ok (xl X) (r := (X9_in (x2.toInt64) (0 : Int64) (3 : Int64))) rfl) rfl rfl (by decide) ⟨Nat.zero_le _, Nat.zero_le _⟩ (Nat.le_of_ble_eq_true rfl) dX9_changes_13 ?_
    refine ab_if_eq C 52 dX9_changes_16 (by decide) (fun c2 => ?_) (fun c2 => ?_)
    · replace hF := (if_pos c2).symm.trans hF
      refine ab_iconst (v := (-1 : Int32)) C dX9_changes_52 (by decide) ?_
      obtain rfl := Option.some.inj hF
      exact ab_iret C R0 rfl dX9_changes_53 ⟨rfl, rfl, hB0, hFr⟩
    · replace hF := (if_neg c2).symm.trans hF
      refine ab_iload C 4 rfl dX9_changes_19 ?_
      refine ab_i2l C dX9_changes_21 ?_
      refine ab_lconst (v := (1 : Int64)) C dX9_changes_22 (by decide) ?_
      refine ab_ldc2 (v := (12 : Int64)) C dX9_changes_23 lq_X9_308 ?_
      refine ab_cSR (v := .int (X9_in (x4.toInt64) (1 : Int64) (12 : Int64))) (st := []) C lm_X9_69 (X9_in_ok (xl X) (r := (X9_in (x4.toInt64) (1 : Int64) (12 : Int64))) rfl) rfl rfl (by decide) ⟨Nat.zero_le _, Nat.zero_le _⟩ (Nat.le_of_ble_eq_true rfl) dX9_changes_26 ?_
      refine ab_if_eq C 52 dX9_changes_29 (by decide) (fun c3 => ?_) (fun c3 => ?_)
      · replace hF := (if_pos c3).symm.trans hF
        refine ab_iconst (v := (-1 : Int32)) C dX9_changes_52 (by decide) ?_
        obtain rfl := Option.some.inj hF
        exact ab_iret C R0 rfl dX9_changes_53 ⟨rfl, rfl, hB0, hFr⟩
      · replace hF := (if_neg c3).symm.trans hF
        refine ab_iload C 5 rfl dX9_changes_32 ?_
        refine ab_bipush (v := (-4 : Int32)) C dX9_changes_34 (by decide) ?_
        have J54 : X9_changes_J54 S0 x1 x2 x3 x4 x5 = some r → aV X G 12 54 [(0, .ref a0), (1, .int x1), (2, .int x2), (3, .int x3), (4, .int x4), (5, .int x5)] [] h nx 0 0 := by
          intro  hF
          rw [X9_changes_J54] at hF
          refine ab_aload_n C 0 rfl rfl dX9_changes_54 ?_
          refine ab_iload_n C 1 rfl rfl dX9_changes_55 ?_
          refine ab_iload_n C 2 rfl rfl dX9_changes_56 ?_
          refine ab_iload_n C 3 rfl rfl dX9_changes_57 ?_
          refine ab_iconst (v := (2 : Int32)) C dX9_changes_58 (by decide) ?_
          refine ab_iload C 4 rfl dX9_changes_59 ?_
          refine ab_imul C dX9_changes_61 ?_
          obtain ⟨v4, hxv4, hF⟩ := Option.bind_eq_some_iff.mp hF
          refine ab_cVR (v := .int v4) (st := []) C lm_X9_298 (X9_refusal_ok (xl X) hB0 (r := v4) hxv4) [.int x1, .int x2, .int x3, .int ((2 : Int32) * x4)] rfl hB0.1 rfl rfl rfl (by decide) ⟨Nat.zero_le _, Nat.zero_le _⟩ (Nat.le_of_ble_eq_true rfl) dX9_changes_62 ?_
          refine ab_istore (lv' := [(6, .int v4), (0, .ref a0), (1, .int x1), (2, .int x2), (3, .int x3), (4, .int x4), (5, .int x5)]) C dX9_changes_65 (by decide) rfl ?_
          refine ab_iload C 0 rfl dX9_changes_67 ?_
          refine ab_if_eq C 75 dX9_changes_69 (by decide) (fun c5 => ?_) (fun c5 => ?_)
          · replace hF := (if_pos c5).symm.trans hF
            refine ab_bipush (v := (24 : Int32)) C dX9_changes_75 (by decide) ?_
            refine ab_iload_n C 2 rfl rfl dX9_changes_77 ?_
            refine ab_imul C dX9_changes_78 ?_
            refine ab_iload_n C 4 rfl rfl dX9_changes_79 ?_
            refine ab_iadd C dX9_changes_80 ?_
            refine ab_topi (fun v6 qv6 => ?_)
            replace hF := aLet_e hF v6 qv6
            refine ab_istore (lv' := [(7, .int v6), (6, .int v4), (0, .ref a0), (1, .int x1), (2, .int x2), (3, .int x3), (4, .int x4), (5, .int x5)]) C dX9_changes_81 (by decide) rfl ?_
            refine ab_iconst (v := (0 : Int32)) C dX9_changes_83 (by decide) ?_
            refine ab_istore (lv' := [(8, .int (0 : Int32)), (7, .int v6), (6, .int v4), (0, .ref a0), (1, .int x1), (2, .int x2), (3, .int x3), (4, .int x4), (5, .int x5)]) C dX9_changes_84 (by decide) rfl ?_
            have L86 : ∀ (n86 : Nat) (v7 : Int32), ∀ (res86 : (Int32 × Rec) ⊕ (Unit)), X9_changes_L86 x4 S0 v6 n86 v7 = some res86 → (∀ (s : Unit), res86 = .inr s → aV X G 12 124 [(0, .ref a0), (4, .int x4), (5, .int x5), (7, .int v6)] [] h nx 0 0) → (∀ (t : Int32 × Rec) (q9 : aH), (X9_at q9 a0 t.2) → (∀ q, (q < a0 ∨ a0 + 20 ≤ q) → q9 q = h q) → res86 = .inl t → (aMt (some (.int r.1)) nx (fun h1 => X9_at h1 a0 r.2 ∧ (∀ q, (q < a0 ∨ a0 + 20 ≤ q) → h1 q = h q))) (some (.int t.1)) q9 nx) → aV X G 12 86 [(0, .ref a0), (4, .int x4), (5, .int x5), (7, .int v6), (8, .int v7)] [] h nx 0 0 := by
              intro n86
              induction n86 with
              | zero => intro v7 res86 hF KX86 KR86; cases (show (none : Option ((Int32 × Rec) ⊕ (Unit))) = some res86 from hF)
              | succ n86 ih86 =>
                intro v7 res86 hF KX86 KR86
                rw [X9_changes_L86] at hF
                refine ab_iload C 4 rfl dX9_changes_86 ?_
                refine ab_iconst (v := (2 : Int32)) C dX9_changes_88 (by decide) ?_
                refine ab_iload C 1 rfl dX9_changes_89 ?_
                refine ab_imul C dX9_changes_91 ?_
                refine ab_icmp_ge C 124 dX9_changes_92 (by decide) (fun c8 => ?_) (fun c8 => ?_)
                · replace hF := (if_pos c8).symm.trans hF
                  obtain rfl := Option.some.inj hF
                  refine aV.sub (lv' := [(0, .ref a0), (4, .int x4), (5, .int x5), (7, .int v6)]) [0, 1, 2, 3] rfl ?_
                  exact KX86 () rfl
                · replace hF := (if_neg c8).symm.trans hF
                  refine ab_aload_n C 0 rfl rfl dX9_changes_95 ?_
                  refine ab_g9 (v := .ref (a0 + 18)) C lf_X9_62 hB0.1 rfl dX9_changes_96 ?_
                  refine ab_iload C 3 rfl dX9_changes_99 ?_
                  refine ab_iload C 4 rfl dX9_changes_101 ?_
                  refine ab_iadd C dX9_changes_103 ?_
                  obtain ⟨v9, hxv9, hF⟩ := Option.bind_eq_some_iff.mp hF
                  refine ab_lald C (X9_r28 hB0) hxv9 dX9_changes_104 ?_
                  refine ab_lconst (v := (0 : Int64)) C dX9_changes_105 (by decide) ?_
                  refine ab_ldc2 (v := (4 : Int64)) C dX9_changes_106 lq_X9_310 ?_
                  refine ab_cSR (v := .int (X9_in v9 (0 : Int64) (4 : Int64))) (st := []) C lm_X9_69 (X9_in_ok (xl X) (r := (X9_in v9 (0 : Int64) (4 : Int64))) rfl) rfl rfl (by decide) ⟨Nat.zero_le _, Nat.zero_le _⟩ (Nat.le_of_ble_eq_true rfl) dX9_changes_109 ?_
                  refine ab_if_ne C 118 dX9_changes_112 (by decide) (fun c10 => ?_) (fun c10 => ?_)
                  · replace hF := (if_neg c10).symm.trans hF
                    obtain ⟨v11, qv11⟩ : ∃ y : Int32, y = (v7 + (1 : Int32)) := ⟨_, rfl⟩
                    replace hF := aLet_e hF v11 qv11
                    refine ab_iinc (lv' := [(8, .int v11), (0, .ref a0), (4, .int x4), (5, .int x5), (7, .int v6)]) C 4 rfl dX9_changes_118 (by rw [qv11]; rfl) (by decide) rfl ?_
                    refine ab_goto C 86 dX9_changes_121 (by decide) ?_
                    refine aV.sub (lv' := [(0, .ref a0), (4, .int x4), (5, .int x5), (7, .int v6), (8, .int v11)]) [1, 2, 3, 4, 0] rfl ?_
                    exact ih86 v11 res86 hF KX86 KR86
                  · replace hF := (if_pos c10).symm.trans hF
                    refine ab_bipush (v := (-2 : Int32)) C dX9_changes_115 (by decide) ?_
                    obtain rfl := Option.some.inj hF
                    exact ab_iret C R0 rfl dX9_changes_117 (KR86 ((-2 : Int32), S0) h hB0 hFr rfl)
            refine aV.sub (lv' := [(0, .ref a0), (4, .int x4), (5, .int x5), (7, .int v6), (8, .int (0 : Int32))]) [3, 7, 8, 1, 0] rfl ?_
            obtain ⟨e12, he12, hF⟩ := Option.bind_eq_some_iff.mp hF
            refine L86 aFu (0 : Int32) e12 he12 (fun s13 eqs13 => ?_) (fun t14 g15 hB0 hFr eqt14 => ?_)
            · subst eqs13
              replace hF := aCs_r hF
              refine ab_iconst (v := (0 : Int32)) C dX9_changes_124 (by decide) ?_
              refine ab_istore (lv' := [(8, .int (0 : Int32)), (0, .ref a0), (4, .int x4), (5, .int x5), (7, .int v6)]) C dX9_changes_125 (by decide) rfl ?_
              have L127 : ∀ (n127 : Nat) (v16 : Int32) (Z17 : Rec) (g18 : aH), (X9_at g18 a0 Z17) → (∀ q, (q < a0 ∨ a0 + 20 ≤ q) → g18 q = h q) → ∀ (res127 : Rec), X9_changes_L127 n127 v16 Z17 = some res127 → (∀ (q9 : aH), (X9_at q9 a0 res127) → (∀ q, (q < a0 ∨ a0 + 20 ≤ q) → q9 q = h q) → aV X G 12 148 [(0, .ref a0), (4, .int x4), (5, .int x5), (7, .int v6)] [] q9 nx 0 0) → aV X G 12 127 [(0, .ref a0), (4, .int x4), (5, .int x5), (7, .int v6), (8, .int v16)] [] g18 nx 0 0 := by
                intro n127
                induction n127 with
                | zero => intro v16 Z17 g18 hB0 hFr res127 hF KX127; cases (show (none : Option (Rec)) = some res127 from hF)
                | succ n127 ih127 =>
                  intro v16 Z17 g18 hB0 hFr res127 hF KX127
                  rw [X9_changes_L127] at hF
                  refine ab_iload C 4 rfl dX9_changes_127 ?_
                  refine ab_iconst (v := (5 : Int32)) C dX9_changes_129 (by decide) ?_
                  refine ab_icmp_ge C 148 dX9_changes_130 (by decide) (fun c19 => ?_) (fun c19 => ?_)
                  · replace hF := (if_pos c19).symm.trans hF
                    obtain rfl := Option.some.inj hF
                    refine aV.sub (lv' := [(0, .ref a0), (4, .int x4), (5, .int x5), (7, .int v6)]) [0, 1, 2, 3] rfl ?_
                    exact KX127 g18 hB0 hFr
                  · replace hF := (if_neg c19).symm.trans hF
                    refine ab_aload_n C 0 rfl rfl dX9_changes_133 ?_
                    refine ab_g9 (v := .ref (a0 + 19)) C lf_X9_66 hB0.1 rfl dX9_changes_134 ?_
                    refine ab_iload C 4 rfl dX9_changes_137 ?_
                    refine ab_bipush (v := (-4 : Int32)) C dX9_changes_139 (by decide) ?_
                    obtain ⟨w20, hxw20, hF⟩ := Option.bind_eq_some_iff.mp hF
                    refine ab_iast C (X9_r29 hB0) hxw20 dX9_changes_141 (fun g21 eg21 og21 => ?_)
                    have hB0 : X9_at g21 a0 (sA Z17 29 w20) := X9_w29 hB0 eg21 og21
                    have hFr : ∀ q, (q < a0 ∨ a0 + 20 ≤ q) → g21 q = h q := fun q u0 => (og21 q (by omega)).trans (hFr q u0)
                    obtain ⟨v22, qv22⟩ : ∃ y : Int32, y = (v16 + (1 : Int32)) := ⟨_, rfl⟩
                    replace hF := aLet_e hF v22 qv22
                    refine ab_iinc (lv' := [(8, .int v22), (0, .ref a0), (4, .int x4), (5, .int x5), (7, .int v6)]) C 4 rfl dX9_changes_142 (by rw [qv22]; rfl) (by decide) rfl ?_
                    refine ab_goto C 127 dX9_changes_145 (by decide) ?_
                    refine aV.sub (lv' := [(0, .ref a0), (4, .int x4), (5, .int x5), (7, .int v6), (8, .int v22)]) [1, 2, 3, 4, 0] rfl ?_
                    exact ih127 v22 (sA Z17 29 w20) g21 hB0 hFr res127 hF KX127
              refine aV.sub (lv' := [(0, .ref a0), (4, .int x4), (5, .int x5), (7, .int v6), (8, .int (0 : Int32))]) [1, 2, 3, 4, 0] rfl ?_
              obtain ⟨e23, he23, hF⟩ := Option.bind_eq_some_iff.mp hF
              refine L127 aFu (0 : Int32) S0 h hB0 hFr e23 he23 (fun g24 hB0 hFr => ?_)
              refine ab_iconst (v := (0 : Int32)) C dX9_changes_148 (by decide) ?_
              refine ab_istore (lv' := [(8, .int (0 : Int32)), (0, .ref a0), (4, .int x4), (5, .int x5), (7, .int v6)]) C dX9_changes_149 (by decide) rfl ?_
              refine ab_iconst (v := (0 : Int32)) C dX9_changes_151 (by decide) ?_
              refine ab_istore (lv' := [(9, .int (0 : Int32)), (8, .int (0 : Int32)), (0, .ref a0), (4, .int x4), (5, .int x5), (7, .int v6)]) C dX9_changes_152 (by decide) rfl ?_
              have L154 : ∀ (n154 : Nat) (v25 : Int32) (v26 : Int32) (Z27 : Rec) (g28 : aH), (X9_at g28 a0 Z27) → (∀ q, (q < a0 ∨ a0 + 20 ≤ q) → g28 q = h q) → ∀ (res154 : Int32 × Rec), X9_changes_L154 x4 v6 n154 v25 v26 Z27 = some res154 → (∀ (q9 : aH), (X9_at q9 a0 res154.2) → (∀ q, (q < a0 ∨ a0 + 20 ≤ q) → q9 q = h q) → aV X G 12 244 [(0, .ref a0), (5, .int x5), (8, .int res154.1)] [] q9 nx 0 0) → aV X G 12 154 [(0, .ref a0), (4, .int x4), (5, .int x5), (7, .int v6), (8, .int v25), (9, .int v26)] [] g28 nx 0 0 := by
                intro n154
                induction n154 with
                | zero => intro v25 v26 Z27 g28 hB0 hFr res154 hF KX154; cases (show (none : Option (Int32 × Rec)) = some res154 from hF)
                | succ n154 ih154 =>
                  intro v25 v26 Z27 g28 hB0 hFr res154 hF KX154
                  rw [X9_changes_L154] at hF
                  refine ab_iload C 5 rfl dX9_changes_154 ?_
                  refine ab_iload C 1 rfl dX9_changes_156 ?_
                  refine ab_icmp_ge C 244 dX9_changes_158 (by decide) (fun c29 => ?_) (fun c29 => ?_)
                  · replace hF := (if_pos c29).symm.trans hF
                    obtain rfl := Option.some.inj hF
                    refine aV.sub (lv' := [(0, .ref a0), (5, .int x5), (8, .int v25)]) [0, 2, 4] rfl ?_
                    exact KX154 g28 hB0 hFr
                  · replace hF := (if_neg c29).symm.trans hF
                    refine ab_aload_n C 0 rfl rfl dX9_changes_161 ?_
                    refine ab_g9 (v := .ref (a0 + 18)) C lf_X9_62 hB0.1 rfl dX9_changes_162 ?_
                    refine ab_iload C 3 rfl dX9_changes_165 ?_
                    refine ab_iconst (v := (2 : Int32)) C dX9_changes_167 (by decide) ?_
                    refine ab_iload C 5 rfl dX9_changes_168 ?_
                    refine ab_imul C dX9_changes_170 ?_
                    refine ab_iadd C dX9_changes_171 ?_
                    obtain ⟨v30, hxv30, hF⟩ := Option.bind_eq_some_iff.mp hF
                    refine ab_lald C (X9_r28 hB0) hxv30 dX9_changes_172 ?_
                    refine ab_l2i C dX9_changes_173 ?_
                    refine ab_topi (fun v31 qv31 => ?_)
                    replace hF := aLet_e hF v31 qv31
                    refine ab_istore (lv' := [(10, .int v31), (0, .ref a0), (4, .int x4), (5, .int x5), (7, .int v6), (8, .int v25), (9, .int v26)]) C dX9_changes_174 (by decide) rfl ?_
                    refine ab_aload_n C 1 rfl rfl dX9_changes_176 ?_
                    refine ab_g9 (v := .ref (a0 + 18)) C lf_X9_62 hB0.1 rfl dX9_changes_177 ?_
                    refine ab_iload C 4 rfl dX9_changes_180 ?_
                    refine ab_iconst (v := (2 : Int32)) C dX9_changes_182 (by decide) ?_
                    refine ab_iload C 6 rfl dX9_changes_183 ?_
                    refine ab_imul C dX9_changes_185 ?_
                    refine ab_iadd C dX9_changes_186 ?_
                    refine ab_iconst (v := (1 : Int32)) C dX9_changes_187 (by decide) ?_
                    refine ab_iadd C dX9_changes_188 ?_
                    obtain ⟨v32, hxv32, hF⟩ := Option.bind_eq_some_iff.mp hF
                    refine ab_lald C (X9_r28 hB0) hxv32 dX9_changes_189 ?_
                    refine ab_l2i C dX9_changes_190 ?_
                    refine ab_topi (fun v33 qv33 => ?_)
                    replace hF := aLet_e hF v33 qv33
                    refine ab_istore (lv' := [(11, .int v33), (10, .int v31), (0, .ref a0), (4, .int x4), (5, .int x5), (7, .int v6), (8, .int v25), (9, .int v26)]) C dX9_changes_191 (by decide) rfl ?_
                    refine ab_iload C 6 rfl dX9_changes_193 ?_
                    refine ab_if_ne C 222 dX9_changes_195 (by decide) (fun c34 => ?_) (fun c34 => ?_)
                    · replace hF := (if_neg c34).symm.trans hF
                      refine ab_iconst (v := (1 : Int32)) C dX9_changes_222 (by decide) ?_
                      refine ab_goto C 227 dX9_changes_223 (by decide) ?_
                      refine ab_istore (lv' := [(8, .int (1 : Int32)), (11, .int v33), (10, .int v31), (0, .ref a0), (4, .int x4), (5, .int x5), (7, .int v6), (9, .int v26)]) C dX9_changes_227 (by decide) rfl ?_
                      refine ab_aload_n C 3 rfl rfl dX9_changes_229 ?_
                      refine ab_g9 (v := .ref (a0 + 19)) C lf_X9_66 hB0.1 rfl dX9_changes_230 ?_
                      refine ab_iload C 2 rfl dX9_changes_233 ?_
                      refine ab_iload C 1 rfl dX9_changes_235 ?_
                      obtain ⟨w35, hxw35, hF⟩ := Option.bind_eq_some_iff.mp hF
                      refine ab_iast C (X9_r29 hB0) hxw35 dX9_changes_237 (fun g36 eg36 og36 => ?_)
                      have hB0 : X9_at g36 a0 (sA Z27 29 w35) := X9_w29 hB0 eg36 og36
                      have hFr : ∀ q, (q < a0 ∨ a0 + 20 ≤ q) → g36 q = h q := fun q u0 => (og36 q (by omega)).trans (hFr q u0)
                      obtain ⟨v37, qv37⟩ : ∃ y : Int32, y = (v26 + (1 : Int32)) := ⟨_, rfl⟩
                      replace hF := aLet_e hF v37 qv37
                      refine ab_iinc (lv' := [(9, .int v37), (8, .int (1 : Int32)), (11, .int v33), (10, .int v31), (0, .ref a0), (4, .int x4), (5, .int x5), (7, .int v6)]) C 7 rfl dX9_changes_238 (by rw [qv37]; rfl) (by decide) rfl ?_
                      refine ab_goto C 154 dX9_changes_241 (by decide) ?_
                      refine aV.sub (lv' := [(0, .ref a0), (4, .int x4), (5, .int x5), (7, .int v6), (8, .int (1 : Int32)), (9, .int v37)]) [4, 5, 6, 7, 1, 0] rfl ?_
                      exact ih154 (1 : Int32) v37 (sA Z27 29 w35) g36 hB0 hFr res154 hF KX154
                    · replace hF := (if_pos c34).symm.trans hF
                      refine ab_aload_n C 2 rfl rfl dX9_changes_198 ?_
                      refine ab_g9 (v := .ref (a0 + 19)) C lf_X9_66 hB0.1 rfl dX9_changes_199 ?_
                      refine ab_iload C 1 rfl dX9_changes_202 ?_
                      obtain ⟨v38, hxv38, hF⟩ := Option.bind_eq_some_iff.mp hF
                      refine ab_iald C (X9_r29 hB0) hxv38 dX9_changes_204 ?_
                      refine ab_bipush (v := (-4 : Int32)) C dX9_changes_205 (by decide) ?_
                      refine ab_icmp_eq C 226 dX9_changes_207 (by decide) (fun c39 => ?_) (fun c39 => ?_)
                      · replace hF := (if_pos c39).symm.trans hF
                        refine ab_iconst (v := (0 : Int32)) C dX9_changes_226 (by decide) ?_
                        refine ab_istore (lv' := [(8, .int (0 : Int32)), (11, .int v33), (10, .int v31), (0, .ref a0), (4, .int x4), (5, .int x5), (7, .int v6), (9, .int v26)]) C dX9_changes_227 (by decide) rfl ?_
                        refine ab_aload_n C 3 rfl rfl dX9_changes_229 ?_
                        refine ab_g9 (v := .ref (a0 + 19)) C lf_X9_66 hB0.1 rfl dX9_changes_230 ?_
                        refine ab_iload C 2 rfl dX9_changes_233 ?_
                        refine ab_iload C 1 rfl dX9_changes_235 ?_
                        obtain ⟨w40, hxw40, hF⟩ := Option.bind_eq_some_iff.mp hF
                        refine ab_iast C (X9_r29 hB0) hxw40 dX9_changes_237 (fun g41 eg41 og41 => ?_)
                        have hB0 : X9_at g41 a0 (sA Z27 29 w40) := X9_w29 hB0 eg41 og41
                        have hFr : ∀ q, (q < a0 ∨ a0 + 20 ≤ q) → g41 q = h q := fun q u0 => (og41 q (by omega)).trans (hFr q u0)
                        obtain ⟨v42, qv42⟩ : ∃ y : Int32, y = (v26 + (1 : Int32)) := ⟨_, rfl⟩
                        replace hF := aLet_e hF v42 qv42
                        refine ab_iinc (lv' := [(9, .int v42), (8, .int (0 : Int32)), (11, .int v33), (10, .int v31), (0, .ref a0), (4, .int x4), (5, .int x5), (7, .int v6)]) C 7 rfl dX9_changes_238 (by rw [qv42]; rfl) (by decide) rfl ?_
                        refine ab_goto C 154 dX9_changes_241 (by decide) ?_
                        refine aV.sub (lv' := [(0, .ref a0), (4, .int x4), (5, .int x5), (7, .int v6), (8, .int (0 : Int32)), (9, .int v42)]) [4, 5, 6, 7, 1, 0] rfl ?_
                        exact ih154 (0 : Int32) v42 (sA Z27 29 w40) g41 hB0 hFr res154 hF KX154
                      · replace hF := (if_neg c39).symm.trans hF
                        refine ab_aload_n C 2 rfl rfl dX9_changes_210 ?_
                        refine ab_g9 (v := .ref (a0 + 19)) C lf_X9_66 hB0.1 rfl dX9_changes_211 ?_
                        refine ab_iload C 1 rfl dX9_changes_214 ?_
                        obtain ⟨v43, hxv43, hF⟩ := Option.bind_eq_some_iff.mp hF
                        refine ab_iald C (X9_r29 hB0) hxv43 dX9_changes_216 ?_
                        refine ab_iload C 0 rfl dX9_changes_217 ?_
                        refine ab_icmp_eq C 226 dX9_changes_219 (by decide) (fun c44 => ?_) (fun c44 => ?_)
                        · replace hF := (if_pos c44).symm.trans hF
                          refine ab_iconst (v := (0 : Int32)) C dX9_changes_226 (by decide) ?_
                          refine ab_istore (lv' := [(8, .int (0 : Int32)), (11, .int v33), (10, .int v31), (0, .ref a0), (4, .int x4), (5, .int x5), (7, .int v6), (9, .int v26)]) C dX9_changes_227 (by decide) rfl ?_
                          refine ab_aload_n C 3 rfl rfl dX9_changes_229 ?_
                          refine ab_g9 (v := .ref (a0 + 19)) C lf_X9_66 hB0.1 rfl dX9_changes_230 ?_
                          refine ab_iload C 2 rfl dX9_changes_233 ?_
                          refine ab_iload C 1 rfl dX9_changes_235 ?_
                          obtain ⟨w45, hxw45, hF⟩ := Option.bind_eq_some_iff.mp hF
                          refine ab_iast C (X9_r29 hB0) hxw45 dX9_changes_237 (fun g46 eg46 og46 => ?_)
                          have hB0 : X9_at g46 a0 (sA Z27 29 w45) := X9_w29 hB0 eg46 og46
                          have hFr : ∀ q, (q < a0 ∨ a0 + 20 ≤ q) → g46 q = h q := fun q u0 => (og46 q (by omega)).trans (hFr q u0)
                          obtain ⟨v47, qv47⟩ : ∃ y : Int32, y = (v26 + (1 : Int32)) := ⟨_, rfl⟩
                          replace hF := aLet_e hF v47 qv47
                          refine ab_iinc (lv' := [(9, .int v47), (8, .int (0 : Int32)), (11, .int v33), (10, .int v31), (0, .ref a0), (4, .int x4), (5, .int x5), (7, .int v6)]) C 7 rfl dX9_changes_238 (by rw [qv47]; rfl) (by decide) rfl ?_
                          refine ab_goto C 154 dX9_changes_241 (by decide) ?_
                          refine aV.sub (lv' := [(0, .ref a0), (4, .int x4), (5, .int x5), (7, .int v6), (8, .int (0 : Int32)), (9, .int v47)]) [4, 5, 6, 7, 1, 0] rfl ?_
                          exact ih154 (0 : Int32) v47 (sA Z27 29 w45) g46 hB0 hFr res154 hF KX154
                        · replace hF := (if_neg c44).symm.trans hF
                          refine ab_iconst (v := (1 : Int32)) C dX9_changes_222 (by decide) ?_
                          refine ab_goto C 227 dX9_changes_223 (by decide) ?_
                          refine ab_istore (lv' := [(8, .int (1 : Int32)), (11, .int v33), (10, .int v31), (0, .ref a0), (4, .int x4), (5, .int x5), (7, .int v6), (9, .int v26)]) C dX9_changes_227 (by decide) rfl ?_
                          refine ab_aload_n C 3 rfl rfl dX9_changes_229 ?_
                          refine ab_g9 (v := .ref (a0 + 19)) C lf_X9_66 hB0.1 rfl dX9_changes_230 ?_
                          refine ab_iload C 2 rfl dX9_changes_233 ?_
                          refine ab_iload C 1 rfl dX9_changes_235 ?_
                          obtain ⟨w48, hxw48, hF⟩ := Option.bind_eq_some_iff.mp hF
                          refine ab_iast C (X9_r29 hB0) hxw48 dX9_changes_237 (fun g49 eg49 og49 => ?_)
                          have hB0 : X9_at g49 a0 (sA Z27 29 w48) := X9_w29 hB0 eg49 og49
                          have hFr : ∀ q, (q < a0 ∨ a0 + 20 ≤ q) → g49 q = h q := fun q u0 => (og49 q (by omega)).trans (hFr q u0)
                          obtain ⟨v50, qv50⟩ : ∃ y : Int32, y = (v26 + (1 : Int32)) := ⟨_, rfl⟩
                          replace hF := aLet_e hF v50 qv50
                          refine ab_iinc (lv' := [(9, .int v50), (8, .int (1 : Int32)), (11, .int v33), (10, .int v31), (0, .ref a0), (4, .int x4), (5, .int x5), (7, .int v6)]) C 7 rfl dX9_changes_238 (by rw [qv50]; rfl) (by decide) rfl ?_
                          refine ab_goto C 154 dX9_changes_241 (by decide) ?_
                          refine aV.sub (lv' := [(0, .ref a0), (4, .int x4), (5, .int x5), (7, .int v6), (8, .int (1 : Int32)), (9, .int v50)]) [4, 5, 6, 7, 1, 0] rfl ?_
                          exact ih154 (1 : Int32) v50 (sA Z27 29 w48) g49 hB0 hFr res154 hF KX154
              refine aV.sub (lv' := [(0, .ref a0), (4, .int x4), (5, .int x5), (7, .int v6), (8, .int (0 : Int32)), (9, .int (0 : Int32))]) [2, 3, 4, 5, 1, 0] rfl ?_
              obtain ⟨e51, he51, hF⟩ := Option.bind_eq_some_iff.mp hF
              refine L154 aFu (0 : Int32) (0 : Int32) e23 g24 hB0 hFr e51 he51 (fun g52 hB0 hFr => ?_)
              refine ab_iload C 2 rfl dX9_changes_244 ?_
              have J254 : ∀ (v53 : Int32), X9_changes_J254 e51 x5 v53 = some r → aV X G 12 254 [(0, .ref a0), (5, .int x5), (8, .int e51.1)] [.int v53] g52 nx 0 0 := by
                intro v53 hF
                rw [X9_changes_J254] at hF
                refine ab_istore (lv' := [(9, .int v53), (0, .ref a0), (5, .int x5), (8, .int e51.1)]) C dX9_changes_254 (by decide) rfl ?_
                refine ab_iconst (v := (0 : Int32)) C dX9_changes_256 (by decide) ?_
                refine ab_istore (lv' := [(10, .int (0 : Int32)), (9, .int v53), (0, .ref a0), (5, .int x5), (8, .int e51.1)]) C dX9_changes_257 (by decide) rfl ?_
                have L259 : ∀ (n259 : Nat) (v54 : Int32) (v55 : Int32), ∀ (res259 : Int32), X9_changes_L259 e51 n259 v54 v55 = some res259 → (aV X G 12 293 [(0, .ref a0), (5, .int x5), (8, .int e51.1), (9, .int res259)] [] g52 nx 0 0) → aV X G 12 259 [(0, .ref a0), (5, .int x5), (8, .int e51.1), (9, .int v54), (10, .int v55)] [] g52 nx 0 0 := by
                  intro n259
                  induction n259 with
                  | zero => intro v54 v55 res259 hF KX259; cases (show (none : Option (Int32)) = some res259 from hF)
                  | succ n259 ih259 =>
                    intro v54 v55 res259 hF KX259
                    rw [X9_changes_L259] at hF
                    refine ab_iload C 4 rfl dX9_changes_259 ?_
                    refine ab_iconst (v := (5 : Int32)) C dX9_changes_261 (by decide) ?_
                    refine ab_icmp_ge C 293 dX9_changes_262 (by decide) (fun c56 => ?_) (fun c56 => ?_)
                    · replace hF := (if_pos c56).symm.trans hF
                      obtain rfl := Option.some.inj hF
                      refine aV.sub (lv' := [(0, .ref a0), (5, .int x5), (8, .int e51.1), (9, .int v54)]) [0, 1, 2, 3] rfl ?_
                      exact KX259
                    · replace hF := (if_neg c56).symm.trans hF
                      refine ab_iload C 3 rfl dX9_changes_265 ?_
                      refine ab_aload_n C 0 rfl rfl dX9_changes_267 ?_
                      refine ab_g9 (v := .ref (a0 + 19)) C lf_X9_66 hB0.1 rfl dX9_changes_268 ?_
                      refine ab_iload C 4 rfl dX9_changes_271 ?_
                      obtain ⟨v57, hxv57, hF⟩ := Option.bind_eq_some_iff.mp hF
                      refine ab_iald C (X9_r29 hB0) hxv57 dX9_changes_273 ?_
                      refine ab_bipush (v := (-4 : Int32)) C dX9_changes_274 (by decide) ?_
                      refine ab_icmp_ne C 283 dX9_changes_276 (by decide) (fun c58 => ?_) (fun c58 => ?_)
                      · replace hF := (if_neg c58).symm.trans hF
                        refine ab_iconst (v := (1 : Int32)) C dX9_changes_283 (by decide) ?_
                        refine ab_imul C dX9_changes_284 ?_
                        refine ab_topi (fun v59 qv59 => ?_)
                        replace hF := aLet_e hF v59 qv59
                        refine ab_istore (lv' := [(9, .int v59), (0, .ref a0), (5, .int x5), (8, .int e51.1), (10, .int v55)]) C dX9_changes_285 (by decide) rfl ?_
                        obtain ⟨v60, qv60⟩ : ∃ y : Int32, y = (v55 + (1 : Int32)) := ⟨_, rfl⟩
                        replace hF := aLet_e hF v60 qv60
                        refine ab_iinc (lv' := [(10, .int v60), (9, .int v59), (0, .ref a0), (5, .int x5), (8, .int e51.1)]) C 4 rfl dX9_changes_287 (by rw [qv60]; rfl) (by decide) rfl ?_
                        refine ab_goto C 259 dX9_changes_290 (by decide) ?_
                        refine aV.sub (lv' := [(0, .ref a0), (5, .int x5), (8, .int e51.1), (9, .int v59), (10, .int v60)]) [2, 3, 4, 1, 0] rfl ?_
                        exact ih259 v59 v60 res259 hF KX259
                      · replace hF := (if_pos c58).symm.trans hF
                        refine ab_iconst (v := (5 : Int32)) C dX9_changes_279 (by decide) ?_
                        refine ab_goto C 284 dX9_changes_280 (by decide) ?_
                        refine ab_imul C dX9_changes_284 ?_
                        refine ab_topi (fun v61 qv61 => ?_)
                        replace hF := aLet_e hF v61 qv61
                        refine ab_istore (lv' := [(9, .int v61), (0, .ref a0), (5, .int x5), (8, .int e51.1), (10, .int v55)]) C dX9_changes_285 (by decide) rfl ?_
                        obtain ⟨v62, qv62⟩ : ∃ y : Int32, y = (v55 + (1 : Int32)) := ⟨_, rfl⟩
                        replace hF := aLet_e hF v62 qv62
                        refine ab_iinc (lv' := [(10, .int v62), (9, .int v61), (0, .ref a0), (5, .int x5), (8, .int e51.1)]) C 4 rfl dX9_changes_287 (by rw [qv62]; rfl) (by decide) rfl ?_
                        refine ab_goto C 259 dX9_changes_290 (by decide) ?_
                        refine aV.sub (lv' := [(0, .ref a0), (5, .int x5), (8, .int e51.1), (9, .int v61), (10, .int v62)]) [2, 3, 4, 1, 0] rfl ?_
                        exact ih259 v61 v62 res259 hF KX259
                refine aV.sub (lv' := [(0, .ref a0), (5, .int x5), (8, .int e51.1), (9, .int v53), (10, .int (0 : Int32))]) [2, 3, 4, 1, 0] rfl ?_
                obtain ⟨e63, he63, hF⟩ := Option.bind_eq_some_iff.mp hF
                refine L259 aFu v53 (0 : Int32) e63 he63 ?_
                refine ab_iload C 1 rfl dX9_changes_293 ?_
                refine ab_bipush (v := (-4 : Int32)) C dX9_changes_295 (by decide) ?_
                refine ab_icmp_ne C 305 dX9_changes_297 (by decide) (fun c64 => ?_) (fun c64 => ?_)
                · replace hF := (if_neg c64).symm.trans hF
                  refine ab_iload C 2 rfl dX9_changes_305 ?_
                  refine ab_if_eq C 315 dX9_changes_307 (by decide) (fun c65 => ?_) (fun c65 => ?_)
                  · replace hF := (if_pos c65).symm.trans hF
                    refine ab_aload_n C 0 rfl rfl dX9_changes_315 ?_
                    refine ab_g9 (v := .ref (a0 + 19)) C lf_X9_66 hB0.1 rfl dX9_changes_316 ?_
                    refine ab_iload C 1 rfl dX9_changes_319 ?_
                    obtain ⟨v66, hxv66, hF⟩ := Option.bind_eq_some_iff.mp hF
                    refine ab_iald C (X9_r29 hB0) hxv66 dX9_changes_321 ?_
                    refine ab_bipush (v := (-4 : Int32)) C dX9_changes_322 (by decide) ?_
                    refine ab_icmp_ne C 331 dX9_changes_324 (by decide) (fun c67 => ?_) (fun c67 => ?_)
                    · replace hF := (if_neg c67).symm.trans hF
                      refine ab_aload_n C 0 rfl rfl dX9_changes_331 ?_
                      refine ab_g9 (v := .ref (a0 + 19)) C lf_X9_66 hB0.1 rfl dX9_changes_332 ?_
                      refine ab_iload C 1 rfl dX9_changes_335 ?_
                      obtain ⟨v68, hxv68, hF⟩ := Option.bind_eq_some_iff.mp hF
                      refine ab_iald C (X9_r29 hB0) hxv68 dX9_changes_337 ?_
                      obtain rfl := Option.some.inj hF
                      exact ab_iret C R0 rfl dX9_changes_338 ⟨rfl, rfl, hB0, hFr⟩
                    · replace hF := (if_pos c67).symm.trans hF
                      refine ab_iconst (v := (0 : Int32)) C dX9_changes_327 (by decide) ?_
                      refine ab_goto C 338 dX9_changes_328 (by decide) ?_
                      obtain rfl := Option.some.inj hF
                      exact ab_iret C R0 rfl dX9_changes_338 ⟨rfl, rfl, hB0, hFr⟩
                  · replace hF := (if_neg c65).symm.trans hF
                    refine ab_bipush (v := (-4 : Int32)) C dX9_changes_310 (by decide) ?_
                    refine ab_goto C 338 dX9_changes_312 (by decide) ?_
                    obtain rfl := Option.some.inj hF
                    exact ab_iret C R0 rfl dX9_changes_338 ⟨rfl, rfl, hB0, hFr⟩
                · replace hF := (if_pos c64).symm.trans hF
                  refine ab_iload C 3 rfl dX9_changes_300 ?_
                  refine ab_goto C 338 dX9_changes_302 (by decide) ?_
                  obtain rfl := Option.some.inj hF
                  exact ab_iret C R0 rfl dX9_changes_338 ⟨rfl, rfl, hB0, hFr⟩
              refine ab_if_eq C 253 dX9_changes_246 (by decide) (fun c69 => ?_) (fun c69 => ?_)
              · replace hF := (if_pos c69).symm.trans hF
                refine ab_iconst (v := (1 : Int32)) C dX9_changes_253 (by decide) ?_
                exact J254 (1 : Int32) hF
              · replace hF := (if_neg c69).symm.trans hF
                refine ab_iconst (v := (0 : Int32)) C dX9_changes_249 (by decide) ?_
                refine ab_goto C 254 dX9_changes_250 (by decide) ?_
                exact J254 (0 : Int32) hF
            · subst eqt14
              replace hF := aCs_l hF
              obtain rfl := Option.some.inj hF
              exact ⟨rfl, rfl, hB0, hFr⟩
          · replace hF := (if_neg c5).symm.trans hF
            refine ab_iload C 0 rfl dX9_changes_72 ?_
            obtain rfl := Option.some.inj hF
            exact ab_iret C R0 rfl dX9_changes_74 ⟨rfl, rfl, hB0, hFr⟩
        refine ab_icmp_eq C 54 dX9_changes_36 (by decide) (fun c70 => ?_) (fun c70 => ?_)
        · replace hF := (if_pos c70).symm.trans hF
          exact J54 hF
        · replace hF := (if_neg c70).symm.trans hF
          refine ab_iload C 5 rfl dX9_changes_39 ?_
          refine ab_i2l C dX9_changes_41 ?_
          refine ab_lconst (v := (0 : Int64)) C dX9_changes_42 (by decide) ?_
          refine ab_ldc2 (v := (4 : Int64)) C dX9_changes_43 lq_X9_310 ?_
          refine ab_cSR (v := .int (X9_in (x5.toInt64) (0 : Int64) (4 : Int64))) (st := []) C lm_X9_69 (X9_in_ok (xl X) (r := (X9_in (x5.toInt64) (0 : Int64) (4 : Int64))) rfl) rfl rfl (by decide) ⟨Nat.zero_le _, Nat.zero_le _⟩ (Nat.le_of_ble_eq_true rfl) dX9_changes_46 ?_
          refine ab_if_ne C 54 dX9_changes_49 (by decide) (fun c71 => ?_) (fun c71 => ?_)
          · replace hF := (if_neg c71).symm.trans hF
            exact J54 hF
          · replace hF := (if_pos c71).symm.trans hF
            refine ab_iconst (v := (-1 : Int32)) C dX9_changes_52 (by decide) ?_
            obtain rfl := Option.some.inj hF
            exact ab_iret C R0 rfl dX9_changes_53 ⟨rfl, rfl, hB0, hFr⟩
theorem dX9_count_0 : decode cX9_count 0 = .ok (.iconst 0, 1) := by decide +kernel
theorem dX9_count_1 : decode cX9_count 1 = .ok (.istore_n 2, 1) := by decide +kernel
theorem dX9_count_2 : decode cX9_count 2 = .ok (.iconst 0, 1) := by decide +kernel
theorem dX9_count_3 : decode cX9_count 3 = .ok (.istore_n 3, 1) := by decide +kernel
theorem dX9_count_4 : decode cX9_count 4 = .ok (.iconst 0, 1) := by decide +kernel
theorem dX9_count_5 : decode cX9_count 5 = .ok (.istore 4, 2) := by decide +kernel
theorem dX9_count_7 : decode cX9_count 7 = .ok (.iload 4, 2) := by decide +kernel
theorem dX9_count_9 : decode cX9_count 9 = .ok (.iconst 5, 1) := by decide +kernel
theorem dX9_count_10 : decode cX9_count 10 = .ok (.if_icmp .ge 40, 3) := by decide +kernel
theorem dX9_count_13 : decode cX9_count 13 = .ok (.iload_n 2, 1) := by decide +kernel
theorem dX9_count_14 : decode cX9_count 14 = .ok (.aload_n 0, 1) := by decide +kernel
theorem dX9_count_15 : decode cX9_count 15 = .ok (.invokevirtual 185, 3) := by decide +kernel
theorem dX9_count_18 : decode cX9_count 18 = .ok (.ifCond .eq 23, 3) := by decide +kernel
theorem dX9_count_21 : decode cX9_count 21 = .ok (.aload_n 0, 1) := by decide +kernel
theorem dX9_count_22 : decode cX9_count 22 = .ok (.getfield 7, 3) := by decide +kernel
theorem dX9_count_25 : decode cX9_count 25 = .ok (.iconst (-1), 1) := by decide +kernel
theorem dX9_count_26 : decode cX9_count 26 = .ok (.iload 4, 2) := by decide +kernel
theorem dX9_count_28 : decode cX9_count 28 = .ok (.invokestatic 141, 3) := by decide +kernel
theorem dX9_count_31 : decode cX9_count 31 = .ok (.ifCond .le 10, 3) := by decide +kernel
theorem dX9_count_34 : decode cX9_count 34 = .ok (.iconst 1, 1) := by decide +kernel
theorem dX9_count_35 : decode cX9_count 35 = .ok (.iload 4, 2) := by decide +kernel
theorem dX9_count_37 : decode cX9_count 37 = .ok (.ishl, 1) := by decide +kernel
theorem dX9_count_38 : decode cX9_count 38 = .ok (.goto 4, 3) := by decide +kernel
theorem dX9_count_41 : decode cX9_count 41 = .ok (.iconst 0, 1) := by decide +kernel
theorem dX9_count_42 : decode cX9_count 42 = .ok (.ior, 1) := by decide +kernel
theorem dX9_count_43 : decode cX9_count 43 = .ok (.istore_n 2, 1) := by decide +kernel
theorem dX9_count_44 : decode cX9_count 44 = .ok (.iinc 4 1, 3) := by decide +kernel
theorem dX9_count_47 : decode cX9_count 47 = .ok (.goto (-40), 3) := by decide +kernel
theorem dX9_count_50 : decode cX9_count 50 = .ok (.iconst 0, 1) := by decide +kernel
theorem dX9_count_51 : decode cX9_count 51 = .ok (.istore 4, 2) := by decide +kernel
theorem dX9_count_53 : decode cX9_count 53 = .ok (.iload 4, 2) := by decide +kernel
theorem dX9_count_55 : decode cX9_count 55 = .ok (.aload_n 0, 1) := by decide +kernel
theorem dX9_count_56 : decode cX9_count 56 = .ok (.getfield 7, 3) := by decide +kernel
theorem dX9_count_59 : decode cX9_count 59 = .ok (.iconst 0, 1) := by decide +kernel
theorem dX9_count_60 : decode cX9_count 60 = .ok (.iaload, 1) := by decide +kernel
theorem dX9_count_61 : decode cX9_count 61 = .ok (.if_icmp .ge 21, 3) := by decide +kernel
theorem dX9_count_64 : decode cX9_count 64 = .ok (.iload_n 3, 1) := by decide +kernel
theorem dX9_count_65 : decode cX9_count 65 = .ok (.aload_n 0, 1) := by decide +kernel
theorem dX9_count_66 : decode cX9_count 66 = .ok (.getfield 7, 3) := by decide +kernel
theorem dX9_count_69 : decode cX9_count 69 = .ok (.iload 4, 2) := by decide +kernel
theorem dX9_count_71 : decode cX9_count 71 = .ok (.invokestatic 149, 3) := by decide +kernel
theorem dX9_count_74 : decode cX9_count 74 = .ok (.ior, 1) := by decide +kernel
theorem dX9_count_75 : decode cX9_count 75 = .ok (.istore_n 3, 1) := by decide +kernel
theorem dX9_count_76 : decode cX9_count 76 = .ok (.iinc 4 1, 3) := by decide +kernel
theorem dX9_count_79 : decode cX9_count 79 = .ok (.goto (-26), 3) := by decide +kernel
theorem dX9_count_82 : decode cX9_count 82 = .ok (.iload_n 1, 1) := by decide +kernel
theorem dX9_count_83 : decode cX9_count 83 = .ok (.tableswitch 110 0 9 #[53, 60, 67, 74, 81, 88, 96, 101, 106, 108], 53) := by decide +kernel
theorem dX9_count_136 : decode cX9_count 136 = .ok (.aload_n 0, 1) := by decide +kernel
theorem dX9_count_137 : decode cX9_count 137 = .ok (.getfield 7, 3) := by decide +kernel
theorem dX9_count_140 : decode cX9_count 140 = .ok (.iconst 0, 1) := by decide +kernel
theorem dX9_count_141 : decode cX9_count 141 = .ok (.iaload, 1) := by decide +kernel
theorem dX9_count_142 : decode cX9_count 142 = .ok (.ireturn, 1) := by decide +kernel
theorem dX9_count_143 : decode cX9_count 143 = .ok (.aload_n 0, 1) := by decide +kernel
theorem dX9_count_144 : decode cX9_count 144 = .ok (.getfield 7, 3) := by decide +kernel
theorem dX9_count_147 : decode cX9_count 147 = .ok (.iconst 1, 1) := by decide +kernel
theorem dX9_count_148 : decode cX9_count 148 = .ok (.iaload, 1) := by decide +kernel
theorem dX9_count_149 : decode cX9_count 149 = .ok (.ireturn, 1) := by decide +kernel
theorem dX9_count_150 : decode cX9_count 150 = .ok (.aload_n 0, 1) := by decide +kernel
theorem dX9_count_151 : decode cX9_count 151 = .ok (.getfield 7, 3) := by decide +kernel
theorem dX9_count_154 : decode cX9_count 154 = .ok (.iconst 2, 1) := by decide +kernel
theorem dX9_count_155 : decode cX9_count 155 = .ok (.iaload, 1) := by decide +kernel
theorem dX9_count_156 : decode cX9_count 156 = .ok (.ireturn, 1) := by decide +kernel
theorem dX9_count_157 : decode cX9_count 157 = .ok (.aload_n 0, 1) := by decide +kernel
theorem dX9_count_158 : decode cX9_count 158 = .ok (.getfield 7, 3) := by decide +kernel
theorem dX9_count_161 : decode cX9_count 161 = .ok (.iconst 3, 1) := by decide +kernel
theorem dX9_count_162 : decode cX9_count 162 = .ok (.iaload, 1) := by decide +kernel
theorem dX9_count_163 : decode cX9_count 163 = .ok (.ireturn, 1) := by decide +kernel
theorem dX9_count_164 : decode cX9_count 164 = .ok (.aload_n 0, 1) := by decide +kernel
theorem dX9_count_165 : decode cX9_count 165 = .ok (.getfield 7, 3) := by decide +kernel
theorem dX9_count_168 : decode cX9_count 168 = .ok (.iconst 4, 1) := by decide +kernel
theorem dX9_count_169 : decode cX9_count 169 = .ok (.iaload, 1) := by decide +kernel
theorem dX9_count_170 : decode cX9_count 170 = .ok (.ireturn, 1) := by decide +kernel
theorem dX9_count_171 : decode cX9_count 171 = .ok (.aload_n 0, 1) := by decide +kernel
theorem dX9_count_172 : decode cX9_count 172 = .ok (.getfield 7, 3) := by decide +kernel
theorem dX9_count_175 : decode cX9_count 175 = .ok (.invokestatic 290, 3) := by decide +kernel
theorem dX9_count_178 : decode cX9_count 178 = .ok (.ireturn, 1) := by decide +kernel
theorem dX9_count_179 : decode cX9_count 179 = .ok (.aload_n 0, 1) := by decide +kernel
theorem dX9_count_180 : decode cX9_count 180 = .ok (.getfield 130, 3) := by decide +kernel
theorem dX9_count_183 : decode cX9_count 183 = .ok (.ireturn, 1) := by decide +kernel
theorem dX9_count_184 : decode cX9_count 184 = .ok (.aload_n 0, 1) := by decide +kernel
theorem dX9_count_185 : decode cX9_count 185 = .ok (.getfield 75, 3) := by decide +kernel
theorem dX9_count_188 : decode cX9_count 188 = .ok (.ireturn, 1) := by decide +kernel
theorem dX9_count_189 : decode cX9_count 189 = .ok (.iload_n 2, 1) := by decide +kernel
theorem dX9_count_190 : decode cX9_count 190 = .ok (.ireturn, 1) := by decide +kernel
theorem dX9_count_191 : decode cX9_count 191 = .ok (.iload_n 3, 1) := by decide +kernel
theorem dX9_count_192 : decode cX9_count 192 = .ok (.ireturn, 1) := by decide +kernel
theorem dX9_count_193 : decode cX9_count 193 = .ok (.iconst (-1), 1) := by decide +kernel
theorem dX9_count_194 : decode cX9_count 194 = .ok (.ireturn, 1) := by decide +kernel
def X9_count_L7 (S0 : Rec) : Nat → Int32 → Int32 → Option (Int32)
  | 0, _, _ => none
  | n7 + 1, v1, v2 => if (5 : Int32) ≤ v2 then
      some v1
    else
      (X9_isThere S0).bind fun v4 =>
      if v4 = 0 then
        aLet (v1 ||| (0 : Int32)) fun v6 =>
        aLet (v2 + (1 : Int32)) fun v7 =>
        X9_count_L7 S0 n7 v6 v7
      else
        (X9_cellsOf (S0.2.1 0) (-1 : Int32) v2).bind fun v8 =>
        if v8 ≤ 0 then
          aLet (v1 ||| (0 : Int32)) fun v10 =>
          aLet (v2 + (1 : Int32)) fun v11 =>
          X9_count_L7 S0 n7 v10 v11
        else
          aLet (v1 ||| ((1 : Int32) <<< (v2 &&& 31))) fun v12 =>
          aLet (v2 + (1 : Int32)) fun v13 =>
          X9_count_L7 S0 n7 v12 v13
def X9_count_L53 (S0 : Rec) : Nat → Int32 → Int32 → Option (Int32)
  | 0, _, _ => none
  | n53 + 1, v15, v16 => (rdI (S0.2.1 0) 96 (0 : Int32)).bind fun v17 =>
    if v17 ≤ v16 then
      some v15
    else
      (X9_says (S0.2.1 0) v16).bind fun v19 =>
      aLet (v15 ||| v19) fun v20 =>
      aLet (v16 + (1 : Int32)) fun v21 =>
      X9_count_L53 S0 n53 v20 v21
def X9_count (S0 : Rec) (x1 : Int32) : Option (Int32) :=
  (X9_count_L7 S0 aFu (0 : Int32) (0 : Int32)).bind fun e14 =>
  (X9_count_L53 S0 aFu (0 : Int32) (0 : Int32)).bind fun e22 =>
  if x1 = (0 : Int32) then
    (rdI (S0.2.1 0) 96 (0 : Int32)).bind fun v24 =>
    some v24
  else if x1 = (1 : Int32) then
    (rdI (S0.2.1 0) 96 (1 : Int32)).bind fun v26 =>
    some v26
  else if x1 = (2 : Int32) then
    (rdI (S0.2.1 0) 96 (2 : Int32)).bind fun v28 =>
    some v28
  else if x1 = (3 : Int32) then
    (rdI (S0.2.1 0) 96 (3 : Int32)).bind fun v30 =>
    some v30
  else if x1 = (4 : Int32) then
    (rdI (S0.2.1 0) 96 (4 : Int32)).bind fun v32 =>
    some v32
  else if x1 = (5 : Int32) then
    (X9_nobodys (S0.2.1 0)).bind fun v34 =>
    some v34
  else if x1 = (6 : Int32) then
    some (S0.1 4)
  else if x1 = (7 : Int32) then
    some (S0.1 6)
  else if x1 = (8 : Int32) then
    some e14
  else if x1 = (9 : Int32) then
    some e22
  else 
  some (-1 : Int32)
set_option maxRecDepth 100000 in
set_option maxHeartbeats 4000000 in
theorem X9_count_ok (l : Launch) {h : aH} {nx : Nat} {a0 : Nat} {S0 : Rec} {x1 : Int32} (hB0 : X9_at h a0 S0) {r : Int32} (hF : X9_count S0 x1 = some r) : aOk l 4 0 0 yX9_count cX9_count 5 (some .int) [.ref a0, .int x1] h nx (aRd (.int r) h nx) := by
  refine aOk.of (by decide +kernel) (Nat.le_of_ble_eq_true rfl) (fun X G hX C R0 _ => ?_)
  subst hX
  show aV X G 5 0 [(0, .ref a0), (1, .int x1)] [] h nx 0 0
  rw [X9_count] at hF
  refine ab_iconst (v := (0 : Int32)) C dX9_count_0 (by decide) ?_
  refine ab_istore_n (lv' := [(2, .int (0 : Int32)), (0, .ref a0), (1, .int x1)]) C dX9_count_1 rfl (by decide) rfl ?_
  refine ab_iconst (v := (0 : Int32)) C dX9_count_2 (by decide) ?_
  refine ab_istore_n (lv' := [(3, .int (0 : Int32)), (2, .int (0 : Int32)), (0, .ref a0), (1, .int x1)]) C dX9_count_3 rfl (by decide) rfl ?_
  refine ab_iconst (v := (0 : Int32)) C dX9_count_4 (by decide) ?_
  refine ab_istore (lv' := [(4, .int (0 : Int32)), (3, .int (0 : Int32)), (2, .int (0 : Int32)), (0, .ref a0), (1, .int x1)]) C dX9_count_5 (by decide) rfl ?_
  have L7 : ∀ (n7 : Nat) (v1 : Int32) (v2 : Int32), ∀ (res7 : Int32), X9_count_L7 S0 n7 v1 v2 = some res7 → (aV X G 5 50 [(0, .ref a0), (1, .int x1), (2, .int res7), (3, .int (0 : Int32))] [] h nx 0 0) → aV X G 5 7 [(0, .ref a0), (1, .int x1), (2, .int v1), (3, .int (0 : Int32)), (4, .int v2)] [] h nx 0 0 := by
    intro n7
    induction n7 with
    | zero => intro v1 v2 res7 hF KX7; cases (show (none : Option (Int32)) = some res7 from hF)
    | succ n7 ih7 =>
      intro v1 v2 res7 hF KX7
      rw [X9_count_L7] at hF
      refine ab_iload C 4 rfl dX9_count_7 ?_
      refine ab_iconst (v := (5 : Int32)) C dX9_count_9 (by decide) ?_
      refine ab_icmp_ge C 50 dX9_count_10 (by decide) (fun c3 => ?_) (fun c3 => ?_)
      · replace hF := (if_pos c3).symm.trans hF
        obtain rfl := Option.some.inj hF
        refine aV.sub (lv' := [(0, .ref a0), (1, .int x1), (2, .int v1), (3, .int (0 : Int32))]) [0, 1, 2, 3] rfl ?_
        exact KX7
      · replace hF := (if_neg c3).symm.trans hF
        refine ab_iload_n C 2 rfl rfl dX9_count_13 ?_
        refine ab_aload_n C 0 rfl rfl dX9_count_14 ?_
        obtain ⟨v4, hxv4, hF⟩ := Option.bind_eq_some_iff.mp hF
        refine ab_cVR (v := .int v4) (st := [.int v1]) C lm_X9_185 (X9_isThere_ok (xl X) hB0 (r := v4) hxv4) [] rfl hB0.1 rfl rfl rfl (by decide) ⟨Nat.zero_le _, Nat.zero_le _⟩ (Nat.le_of_ble_eq_true rfl) dX9_count_15 ?_
        refine ab_if_eq C 41 dX9_count_18 (by decide) (fun c5 => ?_) (fun c5 => ?_)
        · replace hF := (if_pos c5).symm.trans hF
          refine ab_iconst (v := (0 : Int32)) C dX9_count_41 (by decide) ?_
          refine ab_ior C dX9_count_42 ?_
          refine ab_topi (fun v6 qv6 => ?_)
          replace hF := aLet_e hF v6 qv6
          refine ab_istore_n (lv' := [(2, .int v6), (0, .ref a0), (1, .int x1), (3, .int (0 : Int32)), (4, .int v2)]) C dX9_count_43 rfl (by decide) rfl ?_
          obtain ⟨v7, qv7⟩ : ∃ y : Int32, y = (v2 + (1 : Int32)) := ⟨_, rfl⟩
          replace hF := aLet_e hF v7 qv7
          refine ab_iinc (lv' := [(4, .int v7), (2, .int v6), (0, .ref a0), (1, .int x1), (3, .int (0 : Int32))]) C 4 rfl dX9_count_44 (by rw [qv7]; rfl) (by decide) rfl ?_
          refine ab_goto C 7 dX9_count_47 (by decide) ?_
          refine aV.sub (lv' := [(0, .ref a0), (1, .int x1), (2, .int v6), (3, .int (0 : Int32)), (4, .int v7)]) [2, 3, 1, 4, 0] rfl ?_
          exact ih7 v6 v7 res7 hF KX7
        · replace hF := (if_neg c5).symm.trans hF
          refine ab_aload_n C 0 rfl rfl dX9_count_21 ?_
          refine ab_g9 (v := .ref (a0 + 1)) C lf_X9_7 hB0.1 rfl dX9_count_22 ?_
          refine ab_iconst (v := (-1 : Int32)) C dX9_count_25 (by decide) ?_
          refine ab_iload C 4 rfl dX9_count_26 ?_
          obtain ⟨v8, hxv8, hF⟩ := Option.bind_eq_some_iff.mp hF
          refine ab_cSR (v := .int v8) (st := [.int v1]) C lm_X9_141 (X9_cellsOf_ok (xl X) (X9_r0 hB0) (r := v8) hxv8) rfl rfl (by decide) ⟨Nat.zero_le _, Nat.zero_le _⟩ (Nat.le_of_ble_eq_true rfl) dX9_count_28 ?_
          refine ab_if_le C 41 dX9_count_31 (by decide) (fun c9 => ?_) (fun c9 => ?_)
          · replace hF := (if_pos c9).symm.trans hF
            refine ab_iconst (v := (0 : Int32)) C dX9_count_41 (by decide) ?_
            refine ab_ior C dX9_count_42 ?_
            refine ab_topi (fun v10 qv10 => ?_)
            replace hF := aLet_e hF v10 qv10
            refine ab_istore_n (lv' := [(2, .int v10), (0, .ref a0), (1, .int x1), (3, .int (0 : Int32)), (4, .int v2)]) C dX9_count_43 rfl (by decide) rfl ?_
            obtain ⟨v11, qv11⟩ : ∃ y : Int32, y = (v2 + (1 : Int32)) := ⟨_, rfl⟩
            replace hF := aLet_e hF v11 qv11
            refine ab_iinc (lv' := [(4, .int v11), (2, .int v10), (0, .ref a0), (1, .int x1), (3, .int (0 : Int32))]) C 4 rfl dX9_count_44 (by rw [qv11]; rfl) (by decide) rfl ?_
            refine ab_goto C 7 dX9_count_47 (by decide) ?_
            refine aV.sub (lv' := [(0, .ref a0), (1, .int x1), (2, .int v10), (3, .int (0 : Int32)), (4, .int v11)]) [2, 3, 1, 4, 0] rfl ?_
            exact ih7 v10 v11 res7 hF KX7
          · replace hF := (if_neg c9).symm.trans hF
            refine ab_iconst (v := (1 : Int32)) C dX9_count_34 (by decide) ?_
            refine ab_iload C 4 rfl dX9_count_35 ?_
            refine ab_ishl C dX9_count_37 ?_
            refine ab_goto C 42 dX9_count_38 (by decide) ?_
            refine ab_ior C dX9_count_42 ?_
            refine ab_topi (fun v12 qv12 => ?_)
            replace hF := aLet_e hF v12 qv12
            refine ab_istore_n (lv' := [(2, .int v12), (0, .ref a0), (1, .int x1), (3, .int (0 : Int32)), (4, .int v2)]) C dX9_count_43 rfl (by decide) rfl ?_
            obtain ⟨v13, qv13⟩ : ∃ y : Int32, y = (v2 + (1 : Int32)) := ⟨_, rfl⟩
            replace hF := aLet_e hF v13 qv13
            refine ab_iinc (lv' := [(4, .int v13), (2, .int v12), (0, .ref a0), (1, .int x1), (3, .int (0 : Int32))]) C 4 rfl dX9_count_44 (by rw [qv13]; rfl) (by decide) rfl ?_
            refine ab_goto C 7 dX9_count_47 (by decide) ?_
            refine aV.sub (lv' := [(0, .ref a0), (1, .int x1), (2, .int v12), (3, .int (0 : Int32)), (4, .int v13)]) [2, 3, 1, 4, 0] rfl ?_
            exact ih7 v12 v13 res7 hF KX7
  refine aV.sub (lv' := [(0, .ref a0), (1, .int x1), (2, .int (0 : Int32)), (3, .int (0 : Int32)), (4, .int (0 : Int32))]) [3, 4, 2, 1, 0] rfl ?_
  obtain ⟨e14, he14, hF⟩ := Option.bind_eq_some_iff.mp hF
  refine L7 aFu (0 : Int32) (0 : Int32) e14 he14 ?_
  refine ab_iconst (v := (0 : Int32)) C dX9_count_50 (by decide) ?_
  refine ab_istore (lv' := [(4, .int (0 : Int32)), (0, .ref a0), (1, .int x1), (2, .int e14), (3, .int (0 : Int32))]) C dX9_count_51 (by decide) rfl ?_
  have L53 : ∀ (n53 : Nat) (v15 : Int32) (v16 : Int32), ∀ (res53 : Int32), X9_count_L53 S0 n53 v15 v16 = some res53 → (aV X G 5 82 [(0, .ref a0), (1, .int x1), (2, .int e14), (3, .int res53)] [] h nx 0 0) → aV X G 5 53 [(0, .ref a0), (1, .int x1), (2, .int e14), (3, .int v15), (4, .int v16)] [] h nx 0 0 := by
    intro n53
    induction n53 with
    | zero => intro v15 v16 res53 hF KX53; cases (show (none : Option (Int32)) = some res53 from hF)
    | succ n53 ih53 =>
      intro v15 v16 res53 hF KX53
      rw [X9_count_L53] at hF
      refine ab_iload C 4 rfl dX9_count_53 ?_
      refine ab_aload_n C 0 rfl rfl dX9_count_55 ?_
      refine ab_g9 (v := .ref (a0 + 1)) C lf_X9_7 hB0.1 rfl dX9_count_56 ?_
      refine ab_iconst (v := (0 : Int32)) C dX9_count_59 (by decide) ?_
      obtain ⟨v17, hxv17, hF⟩ := Option.bind_eq_some_iff.mp hF
      refine ab_iald C (X9_r0 hB0) hxv17 dX9_count_60 ?_
      refine ab_icmp_ge C 82 dX9_count_61 (by decide) (fun c18 => ?_) (fun c18 => ?_)
      · replace hF := (if_pos c18).symm.trans hF
        obtain rfl := Option.some.inj hF
        refine aV.sub (lv' := [(0, .ref a0), (1, .int x1), (2, .int e14), (3, .int v15)]) [0, 1, 2, 3] rfl ?_
        exact KX53
      · replace hF := (if_neg c18).symm.trans hF
        refine ab_iload_n C 3 rfl rfl dX9_count_64 ?_
        refine ab_aload_n C 0 rfl rfl dX9_count_65 ?_
        refine ab_g9 (v := .ref (a0 + 1)) C lf_X9_7 hB0.1 rfl dX9_count_66 ?_
        refine ab_iload C 4 rfl dX9_count_69 ?_
        obtain ⟨v19, hxv19, hF⟩ := Option.bind_eq_some_iff.mp hF
        refine ab_cSR (v := .int v19) (st := [.int v15]) C lm_X9_149 (X9_says_ok (xl X) (X9_r0 hB0) (r := v19) hxv19) rfl rfl (by decide) ⟨Nat.zero_le _, Nat.zero_le _⟩ (Nat.le_of_ble_eq_true rfl) dX9_count_71 ?_
        refine ab_ior C dX9_count_74 ?_
        refine ab_topi (fun v20 qv20 => ?_)
        replace hF := aLet_e hF v20 qv20
        refine ab_istore_n (lv' := [(3, .int v20), (0, .ref a0), (1, .int x1), (2, .int e14), (4, .int v16)]) C dX9_count_75 rfl (by decide) rfl ?_
        obtain ⟨v21, qv21⟩ : ∃ y : Int32, y = (v16 + (1 : Int32)) := ⟨_, rfl⟩
        replace hF := aLet_e hF v21 qv21
        refine ab_iinc (lv' := [(4, .int v21), (3, .int v20), (0, .ref a0), (1, .int x1), (2, .int e14)]) C 4 rfl dX9_count_76 (by rw [qv21]; rfl) (by decide) rfl ?_
        refine ab_goto C 53 dX9_count_79 (by decide) ?_
        refine aV.sub (lv' := [(0, .ref a0), (1, .int x1), (2, .int e14), (3, .int v20), (4, .int v21)]) [2, 3, 4, 1, 0] rfl ?_
        exact ih53 v20 v21 res53 hF KX53
  refine aV.sub (lv' := [(0, .ref a0), (1, .int x1), (2, .int e14), (3, .int (0 : Int32)), (4, .int (0 : Int32))]) [1, 2, 3, 4, 0] rfl ?_
  obtain ⟨e22, he22, hF⟩ := Option.bind_eq_some_iff.mp hF
  refine L53 aFu (0 : Int32) (0 : Int32) e22 he22 ?_
  refine ab_iload_n C 1 rfl rfl dX9_count_82 ?_
  rcases Classical.em (x1 = (0 : Int32)) with c23 | c23
  · replace hF := (if_pos c23).symm.trans hF
    refine ab_tableIn (off := 53) C 136 dX9_count_83 (by rw [c23]; decide) (by rw [c23]; decide) (by rw [c23]; rfl) (by decide) ?_
    refine ab_aload_n C 0 rfl rfl dX9_count_136 ?_
    refine ab_g9 (v := .ref (a0 + 1)) C lf_X9_7 hB0.1 rfl dX9_count_137 ?_
    refine ab_iconst (v := (0 : Int32)) C dX9_count_140 (by decide) ?_
    obtain ⟨v24, hxv24, hF⟩ := Option.bind_eq_some_iff.mp hF
    refine ab_iald C (X9_r0 hB0) hxv24 dX9_count_141 ?_
    obtain rfl := Option.some.inj hF
    exact ab_iret C R0 rfl dX9_count_142 ⟨rfl, rfl, rfl⟩
  replace hF := (if_neg c23).symm.trans hF
  rcases Classical.em (x1 = (1 : Int32)) with c25 | c25
  · replace hF := (if_pos c25).symm.trans hF
    refine ab_tableIn (off := 60) C 143 dX9_count_83 (by rw [c25]; decide) (by rw [c25]; decide) (by rw [c25]; rfl) (by decide) ?_
    refine ab_aload_n C 0 rfl rfl dX9_count_143 ?_
    refine ab_g9 (v := .ref (a0 + 1)) C lf_X9_7 hB0.1 rfl dX9_count_144 ?_
    refine ab_iconst (v := (1 : Int32)) C dX9_count_147 (by decide) ?_
    obtain ⟨v26, hxv26, hF⟩ := Option.bind_eq_some_iff.mp hF
    refine ab_iald C (X9_r0 hB0) hxv26 dX9_count_148 ?_
    obtain rfl := Option.some.inj hF
    exact ab_iret C R0 rfl dX9_count_149 ⟨rfl, rfl, rfl⟩
  replace hF := (if_neg c25).symm.trans hF
  rcases Classical.em (x1 = (2 : Int32)) with c27 | c27
  · replace hF := (if_pos c27).symm.trans hF
    refine ab_tableIn (off := 67) C 150 dX9_count_83 (by rw [c27]; decide) (by rw [c27]; decide) (by rw [c27]; rfl) (by decide) ?_
    refine ab_aload_n C 0 rfl rfl dX9_count_150 ?_
    refine ab_g9 (v := .ref (a0 + 1)) C lf_X9_7 hB0.1 rfl dX9_count_151 ?_
    refine ab_iconst (v := (2 : Int32)) C dX9_count_154 (by decide) ?_
    obtain ⟨v28, hxv28, hF⟩ := Option.bind_eq_some_iff.mp hF
    refine ab_iald C (X9_r0 hB0) hxv28 dX9_count_155 ?_
    obtain rfl := Option.some.inj hF
    exact ab_iret C R0 rfl dX9_count_156 ⟨rfl, rfl, rfl⟩
  replace hF := (if_neg c27).symm.trans hF
  rcases Classical.em (x1 = (3 : Int32)) with c29 | c29
  · replace hF := (if_pos c29).symm.trans hF
    refine ab_tableIn (off := 74) C 157 dX9_count_83 (by rw [c29]; decide) (by rw [c29]; decide) (by rw [c29]; rfl) (by decide) ?_
    refine ab_aload_n C 0 rfl rfl dX9_count_157 ?_
    refine ab_g9 (v := .ref (a0 + 1)) C lf_X9_7 hB0.1 rfl dX9_count_158 ?_
    refine ab_iconst (v := (3 : Int32)) C dX9_count_161 (by decide) ?_
    obtain ⟨v30, hxv30, hF⟩ := Option.bind_eq_some_iff.mp hF
    refine ab_iald C (X9_r0 hB0) hxv30 dX9_count_162 ?_
    obtain rfl := Option.some.inj hF
    exact ab_iret C R0 rfl dX9_count_163 ⟨rfl, rfl, rfl⟩
  replace hF := (if_neg c29).symm.trans hF
  rcases Classical.em (x1 = (4 : Int32)) with c31 | c31
  · replace hF := (if_pos c31).symm.trans hF
    refine ab_tableIn (off := 81) C 164 dX9_count_83 (by rw [c31]; decide) (by rw [c31]; decide) (by rw [c31]; rfl) (by decide) ?_
    refine ab_aload_n C 0 rfl rfl dX9_count_164 ?_
    refine ab_g9 (v := .ref (a0 + 1)) C lf_X9_7 hB0.1 rfl dX9_count_165 ?_
    refine ab_iconst (v := (4 : Int32)) C dX9_count_168 (by decide) ?_
    obtain ⟨v32, hxv32, hF⟩ := Option.bind_eq_some_iff.mp hF
    refine ab_iald C (X9_r0 hB0) hxv32 dX9_count_169 ?_
    obtain rfl := Option.some.inj hF
    exact ab_iret C R0 rfl dX9_count_170 ⟨rfl, rfl, rfl⟩
  replace hF := (if_neg c31).symm.trans hF
  rcases Classical.em (x1 = (5 : Int32)) with c33 | c33
  · replace hF := (if_pos c33).symm.trans hF
    refine ab_tableIn (off := 88) C 171 dX9_count_83 (by rw [c33]; decide) (by rw [c33]; decide) (by rw [c33]; rfl) (by decide) ?_
    refine ab_aload_n C 0 rfl rfl dX9_count_171 ?_
    refine ab_g9 (v := .ref (a0 + 1)) C lf_X9_7 hB0.1 rfl dX9_count_172 ?_
    obtain ⟨v34, hxv34, hF⟩ := Option.bind_eq_some_iff.mp hF
    refine ab_cSR (v := .int v34) (st := []) C lm_X9_290 (X9_nobodys_ok (xl X) (X9_r0 hB0) (r := v34) hxv34) rfl rfl (by decide) ⟨Nat.zero_le _, Nat.zero_le _⟩ (Nat.le_of_ble_eq_true rfl) dX9_count_175 ?_
    obtain rfl := Option.some.inj hF
    exact ab_iret C R0 rfl dX9_count_178 ⟨rfl, rfl, rfl⟩
  replace hF := (if_neg c33).symm.trans hF
  rcases Classical.em (x1 = (6 : Int32)) with c35 | c35
  · replace hF := (if_pos c35).symm.trans hF
    refine ab_tableIn (off := 96) C 179 dX9_count_83 (by rw [c35]; decide) (by rw [c35]; decide) (by rw [c35]; rfl) (by decide) ?_
    refine ab_aload_n C 0 rfl rfl dX9_count_179 ?_
    refine ab_g9 (v := .int (S0.1 4)) C lf_X9_130 hB0.1 rfl dX9_count_180 ?_
    obtain rfl := Option.some.inj hF
    exact ab_iret C R0 rfl dX9_count_183 ⟨rfl, rfl, rfl⟩
  replace hF := (if_neg c35).symm.trans hF
  rcases Classical.em (x1 = (7 : Int32)) with c36 | c36
  · replace hF := (if_pos c36).symm.trans hF
    refine ab_tableIn (off := 101) C 184 dX9_count_83 (by rw [c36]; decide) (by rw [c36]; decide) (by rw [c36]; rfl) (by decide) ?_
    refine ab_aload_n C 0 rfl rfl dX9_count_184 ?_
    refine ab_g9 (v := .int (S0.1 6)) C lf_X9_75 hB0.1 rfl dX9_count_185 ?_
    obtain rfl := Option.some.inj hF
    exact ab_iret C R0 rfl dX9_count_188 ⟨rfl, rfl, rfl⟩
  replace hF := (if_neg c36).symm.trans hF
  rcases Classical.em (x1 = (8 : Int32)) with c37 | c37
  · replace hF := (if_pos c37).symm.trans hF
    refine ab_tableIn (off := 106) C 189 dX9_count_83 (by rw [c37]; decide) (by rw [c37]; decide) (by rw [c37]; rfl) (by decide) ?_
    refine ab_iload_n C 2 rfl rfl dX9_count_189 ?_
    obtain rfl := Option.some.inj hF
    exact ab_iret C R0 rfl dX9_count_190 ⟨rfl, rfl, rfl⟩
  replace hF := (if_neg c37).symm.trans hF
  rcases Classical.em (x1 = (9 : Int32)) with c38 | c38
  · replace hF := (if_pos c38).symm.trans hF
    refine ab_tableIn (off := 108) C 191 dX9_count_83 (by rw [c38]; decide) (by rw [c38]; decide) (by rw [c38]; rfl) (by decide) ?_
    refine ab_iload_n C 3 rfl rfl dX9_count_191 ?_
    obtain rfl := Option.some.inj hF
    exact ab_iret C R0 rfl dX9_count_192 ⟨rfl, rfl, rfl⟩
  replace hF := (if_neg c38).symm.trans hF
  refine ab_tableOut C 193 dX9_count_83 (by have zc23 := lv_neT (a := 0) c23 (by decide); have zc25 := lv_neT (a := 1) c25 (by decide); have zc27 := lv_neT (a := 2) c27 (by decide); have zc29 := lv_neT (a := 3) c29 (by decide); have zc31 := lv_neT (a := 4) c31 (by decide); have zc33 := lv_neT (a := 5) c33 (by decide); have zc35 := lv_neT (a := 6) c35 (by decide); have zc36 := lv_neT (a := 7) c36 (by decide); have zc37 := lv_neT (a := 8) c37 (by decide); have zc38 := lv_neT (a := 9) c38 (by decide); omega) (by decide) ?_
  refine ab_iconst (v := (-1 : Int32)) C dX9_count_193 (by decide) ?_
  obtain rfl := Option.some.inj hF
  exact ab_iret C R0 rfl dX9_count_194 ⟨rfl, rfl, rfl⟩
