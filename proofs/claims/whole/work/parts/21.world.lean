/-! the whole world of the law: the object, its parts, the reference; each call as a step of numbers -/
theorem aOk.post {l : Launch} {d mc ms : Nat} {y : MethodName} {cc : ByteArray} {nL : Nat} {ret : Option FieldType} {as : List Value} {h : aH} {nx : Nat} {P P' : Option Value → aH → Nat → Prop} (ok : aOk l d mc ms y cc nL ret as h nx P) (hp : ∀ v h1 nx1, P v h1 nx1 → P' v h1 nx1) : aOk l d mc ms y cc nL ret as h nx P' := by
  intro G
  refine MetFree.mono (ok G) (fun _ _ q => q) (fun _ _ _ _ _ q => q) (fun a s o s2 _ q => ?_)
  obtain ⟨⟨⟨v, h1, nx1, q1, q2, q3⟩, q4⟩, q5⟩ := q
  exact ⟨⟨⟨v, h1, nx1, q1, hp _ _ _ q2, q3⟩, q4⟩, q5⟩
theorem kD_none {T : Type} {Q : T → Prop} : ∀ r, (none : Option T) = some r → Q r := fun _ h => nomatch h
theorem kD_some {T : Type} {Q : T → Prop} {v : T} (h : Q v) : ∀ r, some v = some r → Q r := fun _ e => by cases e; exact h
theorem kD_ite {T : Type} {Q : T → Prop} {c : Prop} [Decidable c] {x y : Option T} (h1 : ∀ r, x = some r → Q r) (h2 : ∀ r, y = some r → Q r) : ∀ r, (if c then x else y) = some r → Q r := by
  intro r h
  split at h
  · exact h1 r h
  · exact h2 r h
theorem kD_bind {T U : Type} {Q : T → Prop} {x : Option U} {f : U → Option T} (h : ∀ v, x = some v → ∀ r, f v = some r → Q r) : ∀ r, x.bind f = some r → Q r := by
  intro r e
  obtain ⟨v, hv, hf⟩ := Option.bind_eq_some_iff.mp e
  exact h v hv r hf
theorem kD_aQs {T : Type} {Q : T → Prop} {v : Option Nat} {a : Option T} {f : Nat → Option T} (h1 : ∀ r, a = some r → Q r) (h2 : ∀ q r, f q = some r → Q r) : ∀ r, aQs v a f = some r → Q r := by
  intro r e
  cases v with
  | none => exact h1 r e
  | some q => exact h2 q r e
theorem X8_film_L101_D1 {x2 x1 x3 x5 : Int32} : ∀ (n : Nat) (v : Int32) (Z : Rec) (D : DynT) (Y : Rec), ∀ r, X8_film_L101 x2 x1 x3 x5 n v Z D Y = some r → r.2.1.1 = D.1 := by
  intro n
  induction n with
  | zero => intro v Z D Y; exact kD_none
  | succ n ih =>
    intro v Z D Y
    rw [X8_film_L101]
    refine kD_ite (kD_some rfl) (kD_bind fun v1 _ => kD_bind fun v2 _ => kD_bind fun v3 _ => ?_)
    exact ih _ _ (dLV D _ _) _
theorem X8_image_D1 {D0 : DynT} {S_now : Rec} {x1 : Int32} : ∀ r, X8_image D0 S_now x1 = some r → r.2.1 = D0.1 := by
  unfold X8_image
  repeat first | exact kD_none | exact kD_some rfl | apply kD_ite | (refine kD_bind fun v hv => ?_) | (refine kD_aQs ?_ fun q => ?_)
theorem X8_sheet_D1 {D0 : DynT} {x1 x2 x3 : Int32} : ∀ r, X8_sheet D0 x1 x2 x3 = some r → r.2.1 = D0.1 := by
  unfold X8_sheet
  repeat first | exact kD_none | exact kD_some rfl | apply kD_ite | (refine kD_bind fun v hv => ?_) | (refine kD_aQs ?_ fun q => ?_)
theorem X8_drop_D1 {D0 : DynT} {x1 : Int32} : ∀ r, X8_drop D0 x1 = some r → r.2.1 = D0.1 := by
  unfold X8_drop
  repeat first | exact kD_none | exact kD_some rfl | apply kD_ite | (refine kD_bind fun v hv => ?_) | (refine kD_aQs ?_ fun q => ?_)
theorem X8_item_D1 {D0 : DynT} {x1 x2 x3 : Int32} {y4 : Int64} : ∀ r, X8_item D0 x1 x2 x3 y4 = some r → r.2.1 = D0.1 := by
  unfold X8_item
  repeat first | exact kD_none | exact kD_some rfl | apply kD_ite | (refine kD_bind fun v hv => ?_) | (refine kD_aQs ?_ fun q => ?_)
theorem X8_copy_D1 {D0 : DynT} {x1 x2 x3 x4 x5 : Int32} : ∀ r, X8_copy D0 x1 x2 x3 x4 x5 = some r → r.2.1 = D0.1 := by
  unfold X8_copy
  repeat first | exact kD_none | exact kD_some rfl | apply kD_ite | (refine kD_bind fun v hv => ?_) | (refine kD_aQs ?_ fun q => ?_)
theorem X8_film_D1 {D0 : DynT} {S_now S_trial : Rec} {x1 x2 x3 x4 x5 : Int32} : ∀ r, X8_film D0 S_now S_trial x1 x2 x3 x4 x5 = some r → r.2.2.1 = D0.1 := by
  unfold X8_film
  repeat first | exact kD_none | exact kD_some rfl | apply kD_ite | (refine kD_bind fun v hv => ?_) | (refine kD_aQs ?_ fun q => ?_)
  · exact kD_some (X8_film_L101_D1 _ _ _ _ _ _ hv)
  · exact kD_some rfl
/-- tape, now, past, what is made later, trial, earlier, sets, survey, marriages, finder -/
abbrev CSt : Type := Rec × Rec × Rec × DynT × Rec × Rec × Rec × Rec × Rec × Rec
abbrev c_tape (c : CSt) : Rec := c.1
abbrev c_now (c : CSt) : Rec := c.2.1
abbrev c_past (c : CSt) : Rec := c.2.2.1
abbrev c_D (c : CSt) : DynT := c.2.2.2.1
abbrev c_trial (c : CSt) : Rec := c.2.2.2.2.1
abbrev c_earlier (c : CSt) : Rec := c.2.2.2.2.2.1
abbrev c_sets (c : CSt) : Rec := c.2.2.2.2.2.2.1
abbrev c_survey (c : CSt) : Rec := c.2.2.2.2.2.2.2.1
abbrev c_marriages (c : CSt) : Rec := c.2.2.2.2.2.2.2.2.1
abbrev c_finder (c : CSt) : Rec := c.2.2.2.2.2.2.2.2.2
def wAt (h : aH) (nx : Nat) (c : CSt) (m : Rec) : Prop := X8_at h ∧ X7_at h 5 (c_tape c) ∧ X2_at h 7 (c_now c) ∧ X4_at h 15 (c_D c).1 (c_past c) ∧ xD h (c_D c) ∧ X2_at h 19 (c_trial c) ∧ X2_at h 27 (c_earlier c) ∧ X0_at h 35 (c_sets c) ∧ X6_at h 38 (c_survey c) ∧ X3_at h 40 (c_marriages c) ∧ X1_at h 44 (c_finder c) ∧ nx = (c_D c).2.2.2.2.2 ∧ X9_at h 46 m
def stC_feed (c : CSt) (x1 : Int32) : Option (Int32 × CSt) := (X8_feed (c_tape c) x1).map (fun r => (r.1, (r.2, c_now c, c_past c, c_D c, c_trial c, c_earlier c, c_sets c, c_survey c, c_marriages c, c_finder c)))
set_option maxHeartbeats 1000000 in
theorem wC_feed (l : Launch) {h : aH} {nx : Nat} {c : CSt} {m : Rec} {x1 : Int32} (hw : wAt h nx c m) {r : Int32 × CSt} (hF : stC_feed c x1 = some r) : aOk l 1 0 0 yX8_feed cX8_feed 2 (some .int) [.ref 4, .int x1] h nx (fun v h1 nx1 => v = some (.int r.1) ∧ wAt h1 nx1 r.2 m) := by
  obtain ⟨hX, h_tape, h_now, h_past, hD, h_trial, h_earlier, h_sets, h_survey, h_marriages, h_finder, hn, hm⟩ := hw
  subst hn
  obtain ⟨r0, h0, rfl⟩ := Option.map_eq_some_iff.mp hF
  refine (X8_feed_ok l hX h_tape (r := r0) h0).post (fun v h1 nx1 q => ?_)
  obtain ⟨rfl, rfl, k0, O⟩ := q
  exact ⟨rfl, (O 4 (by omega)).trans hX, k0, X2_off h_now (fun q i1 i2 => O q (by omega)), X4_off h_past (fun q i1 i2 => O q (by omega)), xD_off hD (fun q i1 => O q (by omega)), X2_off h_trial (fun q i1 i2 => O q (by omega)), X2_off h_earlier (fun q i1 i2 => O q (by omega)), X0_off h_sets (fun q i1 i2 => O q (by omega)), X6_off h_survey (fun q i1 i2 => O q (by omega)), X3_off h_marriages (fun q i1 i2 => O q (by omega)), X1_off h_finder (fun q i1 i2 => O q (by omega)), rfl, X9_off hm (fun q i1 i2 => O q (by omega))⟩
def stM_feed (m : Rec) (x1 : Int32) : Option (Int32 × Rec) := (X9_feed m x1).map (fun r => (r.1, r.2))
theorem wM_feed (l : Launch) {h : aH} {nx : Nat} {c : CSt} {m : Rec} {x1 : Int32} (hw : wAt h nx c m) {r : Int32 × Rec} (hF : stM_feed m x1 = some r) : aOk l 1 0 0 yX9_feed cX9_feed 2 (some .int) [.ref 46, .int x1] h nx (fun v h1 nx1 => v = some (.int r.1) ∧ nx1 = nx ∧ wAt h1 nx c r.2) := by
  obtain ⟨hX, h_tape, h_now, h_past, hD, h_trial, h_earlier, h_sets, h_survey, h_marriages, h_finder, hn, hm⟩ := hw
  obtain ⟨r0, h0, rfl⟩ := Option.map_eq_some_iff.mp hF
  refine (X9_feed_ok l hm (r := r0) h0).post (fun v h1 nx1 q => ?_)
  obtain ⟨rfl, rfl, k0, O⟩ := q
  exact ⟨rfl, rfl, (O 4 (by omega)).trans hX, X7_off h_tape (fun q i1 i2 => O q (by omega)), X2_off h_now (fun q i1 i2 => O q (by omega)), X4_off h_past (fun q i1 i2 => O q (by omega)), xD_off hD (fun q i1 => O q (by omega)), X2_off h_trial (fun q i1 i2 => O q (by omega)), X2_off h_earlier (fun q i1 i2 => O q (by omega)), X0_off h_sets (fun q i1 i2 => O q (by omega)), X6_off h_survey (fun q i1 i2 => O q (by omega)), X3_off h_marriages (fun q i1 i2 => O q (by omega)), X1_off h_finder (fun q i1 i2 => O q (by omega)), hn, k0⟩
def stC_land (c : CSt) : Option (Int32 × CSt) := (X8_land (c_tape c) (c_trial c) (c_now c) (c_D c).1 (c_past c)).map (fun r => (r.1, (r.2.1, r.2.2.2.1, r.2.2.2.2, c_D c, r.2.2.1, c_earlier c, c_sets c, c_survey c, c_marriages c, c_finder c)))
set_option maxHeartbeats 1000000 in
theorem wC_land (l : Launch) {h : aH} {nx : Nat} {c : CSt} {m : Rec} (hw : wAt h nx c m) {r : Int32 × CSt} (hF : stC_land c = some r) : aOk l 12 0 0 yX8_land cX8_land 3 (some .int) [.ref 4] h nx (fun v h1 nx1 => v = some (.int r.1) ∧ wAt h1 nx1 r.2 m) := by
  obtain ⟨hX, h_tape, h_now, h_past, hD, h_trial, h_earlier, h_sets, h_survey, h_marriages, h_finder, hn, hm⟩ := hw
  subst hn
  obtain ⟨r0, h0, rfl⟩ := Option.map_eq_some_iff.mp hF
  refine (X8_land_ok l hX h_tape h_trial h_now h_past (r := r0) h0).post (fun v h1 nx1 q => ?_)
  obtain ⟨rfl, rfl, k0, k1, k2, k3, O⟩ := q
  exact ⟨rfl, (O 4 (by omega) (by omega) (by omega) (by omega)).trans hX, k0, k2, k3, xD_off hD (fun q i1 => O q (by omega) (by omega) (by omega) (by omega)), k1, X2_off h_earlier (fun q i1 i2 => O q (by omega) (by omega) (by omega) (by omega)), X0_off h_sets (fun q i1 i2 => O q (by omega) (by omega) (by omega) (by omega)), X6_off h_survey (fun q i1 i2 => O q (by omega) (by omega) (by omega) (by omega)), X3_off h_marriages (fun q i1 i2 => O q (by omega) (by omega) (by omega) (by omega)), X1_off h_finder (fun q i1 i2 => O q (by omega) (by omega) (by omega) (by omega)), rfl, X9_off hm (fun q i1 i2 => O q (by omega) (by omega) (by omega) (by omega))⟩
def stM_land (m : Rec) : Option (Int32 × Rec) := (X9_land m).map (fun r => (r.1, r.2))
theorem wM_land (l : Launch) {h : aH} {nx : Nat} {c : CSt} {m : Rec} (hw : wAt h nx c m) {r : Int32 × Rec} (hF : stM_land m = some r) : aOk l 3 0 0 yX9_land cX9_land 2 (some .int) [.ref 46] h nx (fun v h1 nx1 => v = some (.int r.1) ∧ nx1 = nx ∧ wAt h1 nx c r.2) := by
  obtain ⟨hX, h_tape, h_now, h_past, hD, h_trial, h_earlier, h_sets, h_survey, h_marriages, h_finder, hn, hm⟩ := hw
  obtain ⟨r0, h0, rfl⟩ := Option.map_eq_some_iff.mp hF
  refine (X9_land_ok l hm (r := r0) h0).post (fun v h1 nx1 q => ?_)
  obtain ⟨rfl, rfl, k0, O⟩ := q
  exact ⟨rfl, rfl, (O 4 (by omega)).trans hX, X7_off h_tape (fun q i1 i2 => O q (by omega)), X2_off h_now (fun q i1 i2 => O q (by omega)), X4_off h_past (fun q i1 i2 => O q (by omega)), xD_off hD (fun q i1 => O q (by omega)), X2_off h_trial (fun q i1 i2 => O q (by omega)), X2_off h_earlier (fun q i1 i2 => O q (by omega)), X0_off h_sets (fun q i1 i2 => O q (by omega)), X6_off h_survey (fun q i1 i2 => O q (by omega)), X3_off h_marriages (fun q i1 i2 => O q (by omega)), X1_off h_finder (fun q i1 i2 => O q (by omega)), hn, k0⟩
def stC_holder (c : CSt) (x1 : Int32) (x2 : Int32) : Option (Int32 × CSt) := (X8_holder (c_now c) x1 x2).map (fun r => (r, c))
set_option maxHeartbeats 1000000 in
theorem wC_holder (l : Launch) {h : aH} {nx : Nat} {c : CSt} {m : Rec} {x1 : Int32} {x2 : Int32} (hw : wAt h nx c m) {r : Int32 × CSt} (hF : stC_holder c x1 x2 = some r) : aOk l 6 0 0 yX8_holder cX8_holder 3 (some .int) [.ref 4, .int x1, .int x2] h nx (fun v h1 nx1 => v = some (.int r.1) ∧ wAt h1 nx1 r.2 m) := by
  obtain ⟨hX, h_tape, h_now, h_past, hD, h_trial, h_earlier, h_sets, h_survey, h_marriages, h_finder, hn, hm⟩ := hw
  subst hn
  obtain ⟨r0, h0, rfl⟩ := Option.map_eq_some_iff.mp hF
  refine (X8_holder_ok l hX h_now (r := r0) h0).post (fun v h1 nx1 q => ?_)
  obtain ⟨rfl, rfl, rfl⟩ := q
  exact ⟨rfl, hX, h_tape, h_now, h_past, hD, h_trial, h_earlier, h_sets, h_survey, h_marriages, h_finder, rfl, hm⟩
def stM_holder (m : Rec) (x1 : Int32) (x2 : Int32) : Option (Int32 × Rec) := (X9_holder m x1 x2).map (fun r => (r, m))
theorem wM_holder (l : Launch) {h : aH} {nx : Nat} {c : CSt} {m : Rec} {x1 : Int32} {x2 : Int32} (hw : wAt h nx c m) {r : Int32 × Rec} (hF : stM_holder m x1 x2 = some r) : aOk l 5 0 0 yX9_holder cX9_holder 7 (some .int) [.ref 46, .int x1, .int x2] h nx (fun v h1 nx1 => v = some (.int r.1) ∧ nx1 = nx ∧ wAt h1 nx c r.2) := by
  obtain ⟨hX, h_tape, h_now, h_past, hD, h_trial, h_earlier, h_sets, h_survey, h_marriages, h_finder, hn, hm⟩ := hw
  obtain ⟨r0, h0, rfl⟩ := Option.map_eq_some_iff.mp hF
  refine (X9_holder_ok l hm (r := r0) h0).post (fun v h1 nx1 q => ?_)
  obtain ⟨rfl, rfl, rfl⟩ := q
  exact ⟨rfl, rfl, hX, h_tape, h_now, h_past, hD, h_trial, h_earlier, h_sets, h_survey, h_marriages, h_finder, hn, hm⟩
def stC_cell (c : CSt) (x1 : Int32) (x2 : Int32) : Option (Int32 × CSt) := (X8_cell (c_now c) x1 x2).map (fun r => (r, c))
set_option maxHeartbeats 1000000 in
theorem wC_cell (l : Launch) {h : aH} {nx : Nat} {c : CSt} {m : Rec} {x1 : Int32} {x2 : Int32} (hw : wAt h nx c m) {r : Int32 × CSt} (hF : stC_cell c x1 x2 = some r) : aOk l 3 0 0 yX8_cell cX8_cell 3 (some .int) [.ref 4, .int x1, .int x2] h nx (fun v h1 nx1 => v = some (.int r.1) ∧ wAt h1 nx1 r.2 m) := by
  obtain ⟨hX, h_tape, h_now, h_past, hD, h_trial, h_earlier, h_sets, h_survey, h_marriages, h_finder, hn, hm⟩ := hw
  subst hn
  obtain ⟨r0, h0, rfl⟩ := Option.map_eq_some_iff.mp hF
  refine (X8_cell_ok l hX h_now (r := r0) h0).post (fun v h1 nx1 q => ?_)
  obtain ⟨rfl, rfl, rfl⟩ := q
  exact ⟨rfl, hX, h_tape, h_now, h_past, hD, h_trial, h_earlier, h_sets, h_survey, h_marriages, h_finder, rfl, hm⟩
def stM_cell (m : Rec) (x1 : Int32) (x2 : Int32) : Option (Int32 × Rec) := (X9_cell m x1 x2).map (fun r => (r, m))
theorem wM_cell (l : Launch) {h : aH} {nx : Nat} {c : CSt} {m : Rec} {x1 : Int32} {x2 : Int32} (hw : wAt h nx c m) {r : Int32 × Rec} (hF : stM_cell m x1 x2 = some r) : aOk l 1 0 0 yX9_cell cX9_cell 4 (some .int) [.ref 46, .int x1, .int x2] h nx (fun v h1 nx1 => v = some (.int r.1) ∧ nx1 = nx ∧ wAt h1 nx c r.2) := by
  obtain ⟨hX, h_tape, h_now, h_past, hD, h_trial, h_earlier, h_sets, h_survey, h_marriages, h_finder, hn, hm⟩ := hw
  obtain ⟨r0, h0, rfl⟩ := Option.map_eq_some_iff.mp hF
  refine (X9_cell_ok l hm (r := r0) h0).post (fun v h1 nx1 q => ?_)
  obtain ⟨rfl, rfl, rfl⟩ := q
  exact ⟨rfl, rfl, hX, h_tape, h_now, h_past, hD, h_trial, h_earlier, h_sets, h_survey, h_marriages, h_finder, hn, hm⟩
def stC_word (c : CSt) (x1 : Int32) (x2 : Int32) : Option (Int32 × CSt) := (X8_word (c_now c) x1 x2).map (fun r => (r, c))
set_option maxHeartbeats 1000000 in
theorem wC_word (l : Launch) {h : aH} {nx : Nat} {c : CSt} {m : Rec} {x1 : Int32} {x2 : Int32} (hw : wAt h nx c m) {r : Int32 × CSt} (hF : stC_word c x1 x2 = some r) : aOk l 6 0 0 yX8_word cX8_word 3 (some .int) [.ref 4, .int x1, .int x2] h nx (fun v h1 nx1 => v = some (.int r.1) ∧ wAt h1 nx1 r.2 m) := by
  obtain ⟨hX, h_tape, h_now, h_past, hD, h_trial, h_earlier, h_sets, h_survey, h_marriages, h_finder, hn, hm⟩ := hw
  subst hn
  obtain ⟨r0, h0, rfl⟩ := Option.map_eq_some_iff.mp hF
  refine (X8_word_ok l hX h_now (r := r0) h0).post (fun v h1 nx1 q => ?_)
  obtain ⟨rfl, rfl, rfl⟩ := q
  exact ⟨rfl, hX, h_tape, h_now, h_past, hD, h_trial, h_earlier, h_sets, h_survey, h_marriages, h_finder, rfl, hm⟩
def stM_word (m : Rec) (x1 : Int32) (x2 : Int32) : Option (Int32 × Rec) := (X9_word m x1 x2).map (fun r => (r, m))
theorem wM_word (l : Launch) {h : aH} {nx : Nat} {c : CSt} {m : Rec} {x1 : Int32} {x2 : Int32} (hw : wAt h nx c m) {r : Int32 × Rec} (hF : stM_word m x1 x2 = some r) : aOk l 5 0 0 yX9_word cX9_word 5 (some .int) [.ref 46, .int x1, .int x2] h nx (fun v h1 nx1 => v = some (.int r.1) ∧ nx1 = nx ∧ wAt h1 nx c r.2) := by
  obtain ⟨hX, h_tape, h_now, h_past, hD, h_trial, h_earlier, h_sets, h_survey, h_marriages, h_finder, hn, hm⟩ := hw
  obtain ⟨r0, h0, rfl⟩ := Option.map_eq_some_iff.mp hF
  refine (X9_word_ok l hm (r := r0) h0).post (fun v h1 nx1 q => ?_)
  obtain ⟨rfl, rfl, rfl⟩ := q
  exact ⟨rfl, rfl, hX, h_tape, h_now, h_past, hD, h_trial, h_earlier, h_sets, h_survey, h_marriages, h_finder, hn, hm⟩
def stC_as (c : CSt) (x1 : Int32) (x2 : Int32) : Option (Int32 × CSt) := (X8_as (c_now c) x1 x2).map (fun r => (r, c))
set_option maxHeartbeats 1000000 in
theorem wC_as (l : Launch) {h : aH} {nx : Nat} {c : CSt} {m : Rec} {x1 : Int32} {x2 : Int32} (hw : wAt h nx c m) {r : Int32 × CSt} (hF : stC_as c x1 x2 = some r) : aOk l 1 0 0 yX8_as cX8_as 3 (some .int) [.ref 4, .int x1, .int x2] h nx (fun v h1 nx1 => v = some (.int r.1) ∧ wAt h1 nx1 r.2 m) := by
  obtain ⟨hX, h_tape, h_now, h_past, hD, h_trial, h_earlier, h_sets, h_survey, h_marriages, h_finder, hn, hm⟩ := hw
  subst hn
  obtain ⟨r0, h0, rfl⟩ := Option.map_eq_some_iff.mp hF
  refine (X8_as_ok l hX h_now (r := r0) h0).post (fun v h1 nx1 q => ?_)
  obtain ⟨rfl, rfl, rfl⟩ := q
  exact ⟨rfl, hX, h_tape, h_now, h_past, hD, h_trial, h_earlier, h_sets, h_survey, h_marriages, h_finder, rfl, hm⟩
def stM_as (m : Rec) (x1 : Int32) (x2 : Int32) : Option (Int32 × Rec) := (X9_as m x1 x2).map (fun r => (r, m))
theorem wM_as (l : Launch) {h : aH} {nx : Nat} {c : CSt} {m : Rec} {x1 : Int32} {x2 : Int32} (hw : wAt h nx c m) {r : Int32 × Rec} (hF : stM_as m x1 x2 = some r) : aOk l 2 0 0 yX9_as cX9_as 4 (some .int) [.ref 46, .int x1, .int x2] h nx (fun v h1 nx1 => v = some (.int r.1) ∧ nx1 = nx ∧ wAt h1 nx c r.2) := by
  obtain ⟨hX, h_tape, h_now, h_past, hD, h_trial, h_earlier, h_sets, h_survey, h_marriages, h_finder, hn, hm⟩ := hw
  obtain ⟨r0, h0, rfl⟩ := Option.map_eq_some_iff.mp hF
  refine (X9_as_ok l hm (r := r0) h0).post (fun v h1 nx1 q => ?_)
  obtain ⟨rfl, rfl, rfl⟩ := q
  exact ⟨rfl, rfl, hX, h_tape, h_now, h_past, hD, h_trial, h_earlier, h_sets, h_survey, h_marriages, h_finder, hn, hm⟩
def stC_sell (c : CSt) (x1 : Int32) (x2 : Int32) : Option (Int32 × CSt) := (X8_sell (c_D c) (c_now c) (c_past c) x1 x2).map (fun r => (r.1, (c_tape c, r.2.1, r.2.2.1, r.2.2.2, c_trial c, c_earlier c, c_sets c, c_survey c, c_marriages c, c_finder c)))
set_option maxHeartbeats 1000000 in
theorem wC_sell (l : Launch) {h : aH} {nx : Nat} {c : CSt} {m : Rec} {x1 : Int32} {x2 : Int32} (hw : wAt h nx c m) {r : Int32 × CSt} (hF : stC_sell c x1 x2 = some r) : aOk l 3 8 50 yX8_sell cX8_sell 4 (some .int) [.ref 4, .int x1, .int x2] h nx (fun v h1 nx1 => v = some (.int r.1) ∧ wAt h1 nx1 r.2 m) := by
  obtain ⟨hX, h_tape, h_now, h_past, hD, h_trial, h_earlier, h_sets, h_survey, h_marriages, h_finder, hn, hm⟩ := hw
  subst hn
  obtain ⟨r0, h0, rfl⟩ := Option.map_eq_some_iff.mp hF
  refine (X8_sell_ok l hX h_now h_past hD (r := r0) h0).post (fun v h1 nx1 q => ?_)
  obtain ⟨rfl, rfl, k0, k1, kD, O⟩ := q
  exact ⟨rfl, (O 4 (by omega) (by omega) (by omega) (by omega) (by omega)).trans hX, X7_off h_tape (fun q i1 i2 => O q (by omega) (by omega) (by omega) (by omega) (by omega)), k0, k1, kD, X2_off h_trial (fun q i1 i2 => O q (by omega) (by omega) (by omega) (by omega) (by omega)), X2_off h_earlier (fun q i1 i2 => O q (by omega) (by omega) (by omega) (by omega) (by omega)), X0_off h_sets (fun q i1 i2 => O q (by omega) (by omega) (by omega) (by omega) (by omega)), X6_off h_survey (fun q i1 i2 => O q (by omega) (by omega) (by omega) (by omega) (by omega)), X3_off h_marriages (fun q i1 i2 => O q (by omega) (by omega) (by omega) (by omega) (by omega)), X1_off h_finder (fun q i1 i2 => O q (by omega) (by omega) (by omega) (by omega) (by omega)), rfl, X9_off hm (fun q i1 i2 => O q (by omega) (by omega) (by omega) (by omega) (by omega))⟩
def stM_sell (m : Rec) (x1 : Int32) (x2 : Int32) : Option (Int32 × Rec) := (X9_sell m x1 x2).map (fun r => (r.1, r.2))
theorem wM_sell (l : Launch) {h : aH} {nx : Nat} {c : CSt} {m : Rec} {x1 : Int32} {x2 : Int32} (hw : wAt h nx c m) {r : Int32 × Rec} (hF : stM_sell m x1 x2 = some r) : aOk l 2 0 0 yX9_sell cX9_sell 5 (some .int) [.ref 46, .int x1, .int x2] h nx (fun v h1 nx1 => v = some (.int r.1) ∧ nx1 = nx ∧ wAt h1 nx c r.2) := by
  obtain ⟨hX, h_tape, h_now, h_past, hD, h_trial, h_earlier, h_sets, h_survey, h_marriages, h_finder, hn, hm⟩ := hw
  obtain ⟨r0, h0, rfl⟩ := Option.map_eq_some_iff.mp hF
  refine (X9_sell_ok l hm (r := r0) h0).post (fun v h1 nx1 q => ?_)
  obtain ⟨rfl, rfl, k0, O⟩ := q
  exact ⟨rfl, rfl, (O 4 (by omega)).trans hX, X7_off h_tape (fun q i1 i2 => O q (by omega)), X2_off h_now (fun q i1 i2 => O q (by omega)), X4_off h_past (fun q i1 i2 => O q (by omega)), xD_off hD (fun q i1 => O q (by omega)), X2_off h_trial (fun q i1 i2 => O q (by omega)), X2_off h_earlier (fun q i1 i2 => O q (by omega)), X0_off h_sets (fun q i1 i2 => O q (by omega)), X6_off h_survey (fun q i1 i2 => O q (by omega)), X3_off h_marriages (fun q i1 i2 => O q (by omega)), X1_off h_finder (fun q i1 i2 => O q (by omega)), hn, k0⟩
def stC_plough (c : CSt) (x1 : Int32) (x2 : Int32) : Option (Int32 × CSt) := (X8_plough (c_D c) (c_now c) (c_past c) x1 x2).map (fun r => (r.1, (c_tape c, r.2.1, r.2.2.1, r.2.2.2, c_trial c, c_earlier c, c_sets c, c_survey c, c_marriages c, c_finder c)))
set_option maxHeartbeats 1000000 in
theorem wC_plough (l : Launch) {h : aH} {nx : Nat} {c : CSt} {m : Rec} {x1 : Int32} {x2 : Int32} (hw : wAt h nx c m) {r : Int32 × CSt} (hF : stC_plough c x1 x2 = some r) : aOk l 3 8 50 yX8_plough cX8_plough 4 (some .int) [.ref 4, .int x1, .int x2] h nx (fun v h1 nx1 => v = some (.int r.1) ∧ wAt h1 nx1 r.2 m) := by
  obtain ⟨hX, h_tape, h_now, h_past, hD, h_trial, h_earlier, h_sets, h_survey, h_marriages, h_finder, hn, hm⟩ := hw
  subst hn
  obtain ⟨r0, h0, rfl⟩ := Option.map_eq_some_iff.mp hF
  refine (X8_plough_ok l hX h_now h_past hD (r := r0) h0).post (fun v h1 nx1 q => ?_)
  obtain ⟨rfl, rfl, k0, k1, kD, O⟩ := q
  exact ⟨rfl, (O 4 (by omega) (by omega) (by omega) (by omega) (by omega)).trans hX, X7_off h_tape (fun q i1 i2 => O q (by omega) (by omega) (by omega) (by omega) (by omega)), k0, k1, kD, X2_off h_trial (fun q i1 i2 => O q (by omega) (by omega) (by omega) (by omega) (by omega)), X2_off h_earlier (fun q i1 i2 => O q (by omega) (by omega) (by omega) (by omega) (by omega)), X0_off h_sets (fun q i1 i2 => O q (by omega) (by omega) (by omega) (by omega) (by omega)), X6_off h_survey (fun q i1 i2 => O q (by omega) (by omega) (by omega) (by omega) (by omega)), X3_off h_marriages (fun q i1 i2 => O q (by omega) (by omega) (by omega) (by omega) (by omega)), X1_off h_finder (fun q i1 i2 => O q (by omega) (by omega) (by omega) (by omega) (by omega)), rfl, X9_off hm (fun q i1 i2 => O q (by omega) (by omega) (by omega) (by omega) (by omega))⟩
def stM_plough (m : Rec) (x1 : Int32) (x2 : Int32) : Option (Int32 × Rec) := (X9_plough m x1 x2).map (fun r => (r.1, r.2))
theorem wM_plough (l : Launch) {h : aH} {nx : Nat} {c : CSt} {m : Rec} {x1 : Int32} {x2 : Int32} (hw : wAt h nx c m) {r : Int32 × Rec} (hF : stM_plough m x1 x2 = some r) : aOk l 1 0 0 yX9_plough cX9_plough 4 (some .int) [.ref 46, .int x1, .int x2] h nx (fun v h1 nx1 => v = some (.int r.1) ∧ nx1 = nx ∧ wAt h1 nx c r.2) := by
  obtain ⟨hX, h_tape, h_now, h_past, hD, h_trial, h_earlier, h_sets, h_survey, h_marriages, h_finder, hn, hm⟩ := hw
  obtain ⟨r0, h0, rfl⟩ := Option.map_eq_some_iff.mp hF
  refine (X9_plough_ok l hm (r := r0) h0).post (fun v h1 nx1 q => ?_)
  obtain ⟨rfl, rfl, k0, O⟩ := q
  exact ⟨rfl, rfl, (O 4 (by omega)).trans hX, X7_off h_tape (fun q i1 i2 => O q (by omega)), X2_off h_now (fun q i1 i2 => O q (by omega)), X4_off h_past (fun q i1 i2 => O q (by omega)), xD_off hD (fun q i1 => O q (by omega)), X2_off h_trial (fun q i1 i2 => O q (by omega)), X2_off h_earlier (fun q i1 i2 => O q (by omega)), X0_off h_sets (fun q i1 i2 => O q (by omega)), X6_off h_survey (fun q i1 i2 => O q (by omega)), X3_off h_marriages (fun q i1 i2 => O q (by omega)), X1_off h_finder (fun q i1 i2 => O q (by omega)), hn, k0⟩
def stC_year (c : CSt) : Option (Int32 × CSt) := (X8_year (c_D c) (c_now c) (c_past c)).map (fun r => (r.1, (c_tape c, r.2.1, r.2.2.1, r.2.2.2, c_trial c, c_earlier c, c_sets c, c_survey c, c_marriages c, c_finder c)))
set_option maxHeartbeats 1000000 in
theorem wC_year (l : Launch) {h : aH} {nx : Nat} {c : CSt} {m : Rec} (hw : wAt h nx c m) {r : Int32 × CSt} (hF : stC_year c = some r) : aOk l 3 8 50 yX8_year cX8_year 1 (some .int) [.ref 4] h nx (fun v h1 nx1 => v = some (.int r.1) ∧ wAt h1 nx1 r.2 m) := by
  obtain ⟨hX, h_tape, h_now, h_past, hD, h_trial, h_earlier, h_sets, h_survey, h_marriages, h_finder, hn, hm⟩ := hw
  subst hn
  obtain ⟨r0, h0, rfl⟩ := Option.map_eq_some_iff.mp hF
  refine (X8_year_ok l hX h_now h_past hD (r := r0) h0).post (fun v h1 nx1 q => ?_)
  obtain ⟨rfl, rfl, k0, k1, kD, O⟩ := q
  exact ⟨rfl, (O 4 (by omega) (by omega) (by omega) (by omega) (by omega)).trans hX, X7_off h_tape (fun q i1 i2 => O q (by omega) (by omega) (by omega) (by omega) (by omega)), k0, k1, kD, X2_off h_trial (fun q i1 i2 => O q (by omega) (by omega) (by omega) (by omega) (by omega)), X2_off h_earlier (fun q i1 i2 => O q (by omega) (by omega) (by omega) (by omega) (by omega)), X0_off h_sets (fun q i1 i2 => O q (by omega) (by omega) (by omega) (by omega) (by omega)), X6_off h_survey (fun q i1 i2 => O q (by omega) (by omega) (by omega) (by omega) (by omega)), X3_off h_marriages (fun q i1 i2 => O q (by omega) (by omega) (by omega) (by omega) (by omega)), X1_off h_finder (fun q i1 i2 => O q (by omega) (by omega) (by omega) (by omega) (by omega)), rfl, X9_off hm (fun q i1 i2 => O q (by omega) (by omega) (by omega) (by omega) (by omega))⟩
def stM_year (m : Rec) : Option (Int32 × Rec) := (X9_year m).map (fun r => (r.1, r.2))
theorem wM_year (l : Launch) {h : aH} {nx : Nat} {c : CSt} {m : Rec} (hw : wAt h nx c m) {r : Int32 × Rec} (hF : stM_year m = some r) : aOk l 2 0 0 yX9_year cX9_year 1 (some .int) [.ref 46] h nx (fun v h1 nx1 => v = some (.int r.1) ∧ nx1 = nx ∧ wAt h1 nx c r.2) := by
  obtain ⟨hX, h_tape, h_now, h_past, hD, h_trial, h_earlier, h_sets, h_survey, h_marriages, h_finder, hn, hm⟩ := hw
  obtain ⟨r0, h0, rfl⟩ := Option.map_eq_some_iff.mp hF
  refine (X9_year_ok l hm (r := r0) h0).post (fun v h1 nx1 q => ?_)
  obtain ⟨rfl, rfl, k0, O⟩ := q
  exact ⟨rfl, rfl, (O 4 (by omega)).trans hX, X7_off h_tape (fun q i1 i2 => O q (by omega)), X2_off h_now (fun q i1 i2 => O q (by omega)), X4_off h_past (fun q i1 i2 => O q (by omega)), xD_off hD (fun q i1 => O q (by omega)), X2_off h_trial (fun q i1 i2 => O q (by omega)), X2_off h_earlier (fun q i1 i2 => O q (by omega)), X0_off h_sets (fun q i1 i2 => O q (by omega)), X6_off h_survey (fun q i1 i2 => O q (by omega)), X3_off h_marriages (fun q i1 i2 => O q (by omega)), X1_off h_finder (fun q i1 i2 => O q (by omega)), hn, k0⟩
def stC_undo (c : CSt) : Option (Int32 × CSt) := (X8_undo (c_D c) (c_past c) (c_now c)).map (fun r => (r.1, (c_tape c, r.2.2, r.2.1, c_D c, c_trial c, c_earlier c, c_sets c, c_survey c, c_marriages c, c_finder c)))
set_option maxHeartbeats 1000000 in
theorem wC_undo (l : Launch) {h : aH} {nx : Nat} {c : CSt} {m : Rec} (hw : wAt h nx c m) {r : Int32 × CSt} (hF : stC_undo c = some r) : aOk l 3 0 0 yX8_undo cX8_undo 1 (some .int) [.ref 4] h nx (fun v h1 nx1 => v = some (.int r.1) ∧ wAt h1 nx1 r.2 m) := by
  obtain ⟨hX, h_tape, h_now, h_past, hD, h_trial, h_earlier, h_sets, h_survey, h_marriages, h_finder, hn, hm⟩ := hw
  subst hn
  obtain ⟨r0, h0, rfl⟩ := Option.map_eq_some_iff.mp hF
  refine (X8_undo_ok l hX h_past h_now hD (r := r0) h0).post (fun v h1 nx1 q => ?_)
  obtain ⟨rfl, rfl, k0, k1, kD, O⟩ := q
  exact ⟨rfl, (O 4 (by omega) (by omega) (by omega) (by omega) (by omega)).trans hX, X7_off h_tape (fun q i1 i2 => O q (by omega) (by omega) (by omega) (by omega) (by omega)), k1, k0, kD, X2_off h_trial (fun q i1 i2 => O q (by omega) (by omega) (by omega) (by omega) (by omega)), X2_off h_earlier (fun q i1 i2 => O q (by omega) (by omega) (by omega) (by omega) (by omega)), X0_off h_sets (fun q i1 i2 => O q (by omega) (by omega) (by omega) (by omega) (by omega)), X6_off h_survey (fun q i1 i2 => O q (by omega) (by omega) (by omega) (by omega) (by omega)), X3_off h_marriages (fun q i1 i2 => O q (by omega) (by omega) (by omega) (by omega) (by omega)), X1_off h_finder (fun q i1 i2 => O q (by omega) (by omega) (by omega) (by omega) (by omega)), rfl, X9_off hm (fun q i1 i2 => O q (by omega) (by omega) (by omega) (by omega) (by omega))⟩
def stM_undo (m : Rec) : Option (Int32 × Rec) := (X9_undo m).map (fun r => (r.1, r.2))
theorem wM_undo (l : Launch) {h : aH} {nx : Nat} {c : CSt} {m : Rec} (hw : wAt h nx c m) {r : Int32 × Rec} (hF : stM_undo m = some r) : aOk l 0 0 0 yX9_undo cX9_undo 2 (some .int) [.ref 46] h nx (fun v h1 nx1 => v = some (.int r.1) ∧ nx1 = nx ∧ wAt h1 nx c r.2) := by
  obtain ⟨hX, h_tape, h_now, h_past, hD, h_trial, h_earlier, h_sets, h_survey, h_marriages, h_finder, hn, hm⟩ := hw
  obtain ⟨r0, h0, rfl⟩ := Option.map_eq_some_iff.mp hF
  refine (X9_undo_ok l hm (r := r0) h0).post (fun v h1 nx1 q => ?_)
  obtain ⟨rfl, rfl, k0, O⟩ := q
  exact ⟨rfl, rfl, (O 4 (by omega)).trans hX, X7_off h_tape (fun q i1 i2 => O q (by omega)), X2_off h_now (fun q i1 i2 => O q (by omega)), X4_off h_past (fun q i1 i2 => O q (by omega)), xD_off hD (fun q i1 => O q (by omega)), X2_off h_trial (fun q i1 i2 => O q (by omega)), X2_off h_earlier (fun q i1 i2 => O q (by omega)), X0_off h_sets (fun q i1 i2 => O q (by omega)), X6_off h_survey (fun q i1 i2 => O q (by omega)), X3_off h_marriages (fun q i1 i2 => O q (by omega)), X1_off h_finder (fun q i1 i2 => O q (by omega)), hn, k0⟩
def stC_image (c : CSt) (x1 : Int32) : Option (Int32 × CSt) := (X8_image (c_D c) (c_now c) x1).map (fun r => (r.1, (c_tape c, c_now c, c_past c, r.2, c_trial c, c_earlier c, c_sets c, c_survey c, c_marriages c, c_finder c)))
set_option maxHeartbeats 1000000 in
theorem wC_image (l : Launch) {h : aH} {nx : Nat} {c : CSt} {m : Rec} {x1 : Int32} (hw : wAt h nx c m) {r : Int32 × CSt} (hF : stC_image c x1 = some r) : aOk l 2 8 50 yX8_image cX8_image 3 (some .int) [.ref 4, .int x1] h nx (fun v h1 nx1 => v = some (.int r.1) ∧ wAt h1 nx1 r.2 m) := by
  obtain ⟨hX, h_tape, h_now, h_past, hD, h_trial, h_earlier, h_sets, h_survey, h_marriages, h_finder, hn, hm⟩ := hw
  subst hn
  obtain ⟨r0, h0, rfl⟩ := Option.map_eq_some_iff.mp hF
  refine (X8_image_ok l hX h_now hD (r := r0) h0).post (fun v h1 nx1 q => ?_)
  obtain ⟨rfl, rfl, kD, O⟩ := q
  exact ⟨rfl, (O 4 (by omega) (by omega) (by omega)).trans hX, X7_off h_tape (fun q i1 i2 => O q (by omega) (by omega) (by omega)), X2_off h_now (fun q i1 i2 => O q (by omega) (by omega) (by omega)), (X8_image_D1 _ h0).symm ▸ X4_off h_past (fun q i1 i2 => O q (by omega) (by omega) (by omega)), kD, X2_off h_trial (fun q i1 i2 => O q (by omega) (by omega) (by omega)), X2_off h_earlier (fun q i1 i2 => O q (by omega) (by omega) (by omega)), X0_off h_sets (fun q i1 i2 => O q (by omega) (by omega) (by omega)), X6_off h_survey (fun q i1 i2 => O q (by omega) (by omega) (by omega)), X3_off h_marriages (fun q i1 i2 => O q (by omega) (by omega) (by omega)), X1_off h_finder (fun q i1 i2 => O q (by omega) (by omega) (by omega)), rfl, X9_off hm (fun q i1 i2 => O q (by omega) (by omega) (by omega))⟩
def stM_image (m : Rec) (x1 : Int32) : Option (Int32 × Rec) := (X9_image m x1).map (fun r => (r.1, r.2))
theorem wM_image (l : Launch) {h : aH} {nx : Nat} {c : CSt} {m : Rec} {x1 : Int32} (hw : wAt h nx c m) {r : Int32 × Rec} (hF : stM_image m x1 = some r) : aOk l 1 0 0 yX9_image cX9_image 3 (some .int) [.ref 46, .int x1] h nx (fun v h1 nx1 => v = some (.int r.1) ∧ nx1 = nx ∧ wAt h1 nx c r.2) := by
  obtain ⟨hX, h_tape, h_now, h_past, hD, h_trial, h_earlier, h_sets, h_survey, h_marriages, h_finder, hn, hm⟩ := hw
  obtain ⟨r0, h0, rfl⟩ := Option.map_eq_some_iff.mp hF
  refine (X9_image_ok l hm (r := r0) h0).post (fun v h1 nx1 q => ?_)
  obtain ⟨rfl, rfl, k0, O⟩ := q
  exact ⟨rfl, rfl, (O 4 (by omega)).trans hX, X7_off h_tape (fun q i1 i2 => O q (by omega)), X2_off h_now (fun q i1 i2 => O q (by omega)), X4_off h_past (fun q i1 i2 => O q (by omega)), xD_off hD (fun q i1 => O q (by omega)), X2_off h_trial (fun q i1 i2 => O q (by omega)), X2_off h_earlier (fun q i1 i2 => O q (by omega)), X0_off h_sets (fun q i1 i2 => O q (by omega)), X6_off h_survey (fun q i1 i2 => O q (by omega)), X3_off h_marriages (fun q i1 i2 => O q (by omega)), X1_off h_finder (fun q i1 i2 => O q (by omega)), hn, k0⟩
def stC_restore (c : CSt) (x1 : Int32) : Option (Int32 × CSt) := (X8_restore (c_D c) (c_now c) (c_past c) x1).map (fun r => (r.1, (c_tape c, r.2.1, r.2.2, c_D c, c_trial c, c_earlier c, c_sets c, c_survey c, c_marriages c, c_finder c)))
set_option maxHeartbeats 1000000 in
theorem wC_restore (l : Launch) {h : aH} {nx : Nat} {c : CSt} {m : Rec} {x1 : Int32} (hw : wAt h nx c m) {r : Int32 × CSt} (hF : stC_restore c x1 = some r) : aOk l 2 0 0 yX8_restore cX8_restore 3 (some .int) [.ref 4, .int x1] h nx (fun v h1 nx1 => v = some (.int r.1) ∧ wAt h1 nx1 r.2 m) := by
  obtain ⟨hX, h_tape, h_now, h_past, hD, h_trial, h_earlier, h_sets, h_survey, h_marriages, h_finder, hn, hm⟩ := hw
  subst hn
  obtain ⟨r0, h0, rfl⟩ := Option.map_eq_some_iff.mp hF
  refine (X8_restore_ok l hX h_now h_past hD (r := r0) h0).post (fun v h1 nx1 q => ?_)
  obtain ⟨rfl, rfl, k0, k1, kD, O⟩ := q
  exact ⟨rfl, (O 4 (by omega) (by omega) (by omega) (by omega) (by omega)).trans hX, X7_off h_tape (fun q i1 i2 => O q (by omega) (by omega) (by omega) (by omega) (by omega)), k0, k1, kD, X2_off h_trial (fun q i1 i2 => O q (by omega) (by omega) (by omega) (by omega) (by omega)), X2_off h_earlier (fun q i1 i2 => O q (by omega) (by omega) (by omega) (by omega) (by omega)), X0_off h_sets (fun q i1 i2 => O q (by omega) (by omega) (by omega) (by omega) (by omega)), X6_off h_survey (fun q i1 i2 => O q (by omega) (by omega) (by omega) (by omega) (by omega)), X3_off h_marriages (fun q i1 i2 => O q (by omega) (by omega) (by omega) (by omega) (by omega)), X1_off h_finder (fun q i1 i2 => O q (by omega) (by omega) (by omega) (by omega) (by omega)), rfl, X9_off hm (fun q i1 i2 => O q (by omega) (by omega) (by omega) (by omega) (by omega))⟩
def stM_restore (m : Rec) (x1 : Int32) : Option (Int32 × Rec) := (X9_restore m x1).map (fun r => (r.1, r.2))
theorem wM_restore (l : Launch) {h : aH} {nx : Nat} {c : CSt} {m : Rec} {x1 : Int32} (hw : wAt h nx c m) {r : Int32 × Rec} (hF : stM_restore m x1 = some r) : aOk l 1 0 0 yX9_restore cX9_restore 3 (some .int) [.ref 46, .int x1] h nx (fun v h1 nx1 => v = some (.int r.1) ∧ nx1 = nx ∧ wAt h1 nx c r.2) := by
  obtain ⟨hX, h_tape, h_now, h_past, hD, h_trial, h_earlier, h_sets, h_survey, h_marriages, h_finder, hn, hm⟩ := hw
  obtain ⟨r0, h0, rfl⟩ := Option.map_eq_some_iff.mp hF
  refine (X9_restore_ok l hm (r := r0) h0).post (fun v h1 nx1 q => ?_)
  obtain ⟨rfl, rfl, k0, O⟩ := q
  exact ⟨rfl, rfl, (O 4 (by omega)).trans hX, X7_off h_tape (fun q i1 i2 => O q (by omega)), X2_off h_now (fun q i1 i2 => O q (by omega)), X4_off h_past (fun q i1 i2 => O q (by omega)), xD_off hD (fun q i1 => O q (by omega)), X2_off h_trial (fun q i1 i2 => O q (by omega)), X2_off h_earlier (fun q i1 i2 => O q (by omega)), X0_off h_sets (fun q i1 i2 => O q (by omega)), X6_off h_survey (fun q i1 i2 => O q (by omega)), X3_off h_marriages (fun q i1 i2 => O q (by omega)), X1_off h_finder (fun q i1 i2 => O q (by omega)), hn, k0⟩
def stC_behind (c : CSt) (x1 : Int32) (x2 : Int32) : Option (Int32 × CSt) := (X8_behind (c_now c) (c_trial c) x1 x2).map (fun r => (r.1, (c_tape c, c_now c, c_past c, c_D c, r.2, c_earlier c, c_sets c, c_survey c, c_marriages c, c_finder c)))
set_option maxHeartbeats 1000000 in
theorem wC_behind (l : Launch) {h : aH} {nx : Nat} {c : CSt} {m : Rec} {x1 : Int32} {x2 : Int32} (hw : wAt h nx c m) {r : Int32 × CSt} (hF : stC_behind c x1 x2 = some r) : aOk l 5 0 0 yX8_behind cX8_behind 4 (some .int) [.ref 4, .int x1, .int x2] h nx (fun v h1 nx1 => v = some (.int r.1) ∧ wAt h1 nx1 r.2 m) := by
  obtain ⟨hX, h_tape, h_now, h_past, hD, h_trial, h_earlier, h_sets, h_survey, h_marriages, h_finder, hn, hm⟩ := hw
  subst hn
  obtain ⟨r0, h0, rfl⟩ := Option.map_eq_some_iff.mp hF
  refine (X8_behind_ok l hX h_now h_trial (r := r0) h0).post (fun v h1 nx1 q => ?_)
  obtain ⟨rfl, rfl, k0, O⟩ := q
  exact ⟨rfl, (O 4 (by omega)).trans hX, X7_off h_tape (fun q i1 i2 => O q (by omega)), X2_off h_now (fun q i1 i2 => O q (by omega)), X4_off h_past (fun q i1 i2 => O q (by omega)), xD_off hD (fun q i1 => O q (by omega)), k0, X2_off h_earlier (fun q i1 i2 => O q (by omega)), X0_off h_sets (fun q i1 i2 => O q (by omega)), X6_off h_survey (fun q i1 i2 => O q (by omega)), X3_off h_marriages (fun q i1 i2 => O q (by omega)), X1_off h_finder (fun q i1 i2 => O q (by omega)), rfl, X9_off hm (fun q i1 i2 => O q (by omega))⟩
def stM_behind (m : Rec) (x1 : Int32) (x2 : Int32) : Option (Int32 × Rec) := (X9_behind m x1 x2).map (fun r => (r.1, r.2))
theorem wM_behind (l : Launch) {h : aH} {nx : Nat} {c : CSt} {m : Rec} {x1 : Int32} {x2 : Int32} (hw : wAt h nx c m) {r : Int32 × Rec} (hF : stM_behind m x1 x2 = some r) : aOk l 4 0 0 yX9_behind cX9_behind 5 (some .int) [.ref 46, .int x1, .int x2] h nx (fun v h1 nx1 => v = some (.int r.1) ∧ nx1 = nx ∧ wAt h1 nx c r.2) := by
  obtain ⟨hX, h_tape, h_now, h_past, hD, h_trial, h_earlier, h_sets, h_survey, h_marriages, h_finder, hn, hm⟩ := hw
  obtain ⟨r0, h0, rfl⟩ := Option.map_eq_some_iff.mp hF
  refine (X9_behind_ok l hm (r := r0) h0).post (fun v h1 nx1 q => ?_)
  obtain ⟨rfl, rfl, k0, O⟩ := q
  exact ⟨rfl, rfl, (O 4 (by omega)).trans hX, X7_off h_tape (fun q i1 i2 => O q (by omega)), X2_off h_now (fun q i1 i2 => O q (by omega)), X4_off h_past (fun q i1 i2 => O q (by omega)), xD_off hD (fun q i1 => O q (by omega)), X2_off h_trial (fun q i1 i2 => O q (by omega)), X2_off h_earlier (fun q i1 i2 => O q (by omega)), X0_off h_sets (fun q i1 i2 => O q (by omega)), X6_off h_survey (fun q i1 i2 => O q (by omega)), X3_off h_marriages (fun q i1 i2 => O q (by omega)), X1_off h_finder (fun q i1 i2 => O q (by omega)), hn, k0⟩
def stC_first (c : CSt) (x1 : Int32) (x2 : Int32) : Option (Int32 × CSt) := (X8_first (c_now c) (c_trial c) x1 x2).map (fun r => (r.1, (c_tape c, c_now c, c_past c, c_D c, r.2, c_earlier c, c_sets c, c_survey c, c_marriages c, c_finder c)))
set_option maxHeartbeats 1000000 in
theorem wC_first (l : Launch) {h : aH} {nx : Nat} {c : CSt} {m : Rec} {x1 : Int32} {x2 : Int32} (hw : wAt h nx c m) {r : Int32 × CSt} (hF : stC_first c x1 x2 = some r) : aOk l 5 0 0 yX8_first cX8_first 4 (some .int) [.ref 4, .int x1, .int x2] h nx (fun v h1 nx1 => v = some (.int r.1) ∧ wAt h1 nx1 r.2 m) := by
  obtain ⟨hX, h_tape, h_now, h_past, hD, h_trial, h_earlier, h_sets, h_survey, h_marriages, h_finder, hn, hm⟩ := hw
  subst hn
  obtain ⟨r0, h0, rfl⟩ := Option.map_eq_some_iff.mp hF
  refine (X8_first_ok l hX h_now h_trial (r := r0) h0).post (fun v h1 nx1 q => ?_)
  obtain ⟨rfl, rfl, k0, O⟩ := q
  exact ⟨rfl, (O 4 (by omega)).trans hX, X7_off h_tape (fun q i1 i2 => O q (by omega)), X2_off h_now (fun q i1 i2 => O q (by omega)), X4_off h_past (fun q i1 i2 => O q (by omega)), xD_off hD (fun q i1 => O q (by omega)), k0, X2_off h_earlier (fun q i1 i2 => O q (by omega)), X0_off h_sets (fun q i1 i2 => O q (by omega)), X6_off h_survey (fun q i1 i2 => O q (by omega)), X3_off h_marriages (fun q i1 i2 => O q (by omega)), X1_off h_finder (fun q i1 i2 => O q (by omega)), rfl, X9_off hm (fun q i1 i2 => O q (by omega))⟩
def stM_first (m : Rec) (x1 : Int32) (x2 : Int32) : Option (Int32 × Rec) := (X9_first m x1 x2).map (fun r => (r.1, r.2))
theorem wM_first (l : Launch) {h : aH} {nx : Nat} {c : CSt} {m : Rec} {x1 : Int32} {x2 : Int32} (hw : wAt h nx c m) {r : Int32 × Rec} (hF : stM_first m x1 x2 = some r) : aOk l 5 0 0 yX9_first cX9_first 5 (some .int) [.ref 46, .int x1, .int x2] h nx (fun v h1 nx1 => v = some (.int r.1) ∧ nx1 = nx ∧ wAt h1 nx c r.2) := by
  obtain ⟨hX, h_tape, h_now, h_past, hD, h_trial, h_earlier, h_sets, h_survey, h_marriages, h_finder, hn, hm⟩ := hw
  obtain ⟨r0, h0, rfl⟩ := Option.map_eq_some_iff.mp hF
  refine (X9_first_ok l hm (r := r0) h0).post (fun v h1 nx1 q => ?_)
  obtain ⟨rfl, rfl, k0, O⟩ := q
  exact ⟨rfl, rfl, (O 4 (by omega)).trans hX, X7_off h_tape (fun q i1 i2 => O q (by omega)), X2_off h_now (fun q i1 i2 => O q (by omega)), X4_off h_past (fun q i1 i2 => O q (by omega)), xD_off hD (fun q i1 => O q (by omega)), X2_off h_trial (fun q i1 i2 => O q (by omega)), X2_off h_earlier (fun q i1 i2 => O q (by omega)), X0_off h_sets (fun q i1 i2 => O q (by omega)), X6_off h_survey (fun q i1 i2 => O q (by omega)), X3_off h_marriages (fun q i1 i2 => O q (by omega)), X1_off h_finder (fun q i1 i2 => O q (by omega)), hn, k0⟩
def stC_round (c : CSt) (x1 : Int32) : Option (Int32 × CSt) := (X8_round (c_now c) (c_trial c) (c_earlier c) x1).map (fun r => (r.1, (c_tape c, c_now c, c_past c, c_D c, r.2.1, r.2.2, c_sets c, c_survey c, c_marriages c, c_finder c)))
set_option maxHeartbeats 1000000 in
theorem wC_round (l : Launch) {h : aH} {nx : Nat} {c : CSt} {m : Rec} {x1 : Int32} (hw : wAt h nx c m) {r : Int32 × CSt} (hF : stC_round c x1 = some r) : aOk l 3 0 0 yX8_round cX8_round 4 (some .int) [.ref 4, .int x1] h nx (fun v h1 nx1 => v = some (.int r.1) ∧ wAt h1 nx1 r.2 m) := by
  obtain ⟨hX, h_tape, h_now, h_past, hD, h_trial, h_earlier, h_sets, h_survey, h_marriages, h_finder, hn, hm⟩ := hw
  subst hn
  obtain ⟨r0, h0, rfl⟩ := Option.map_eq_some_iff.mp hF
  refine (X8_round_ok l hX h_now h_trial h_earlier (r := r0) h0).post (fun v h1 nx1 q => ?_)
  obtain ⟨rfl, rfl, k0, k1, O⟩ := q
  exact ⟨rfl, (O 4 (by omega) (by omega)).trans hX, X7_off h_tape (fun q i1 i2 => O q (by omega) (by omega)), X2_off h_now (fun q i1 i2 => O q (by omega) (by omega)), X4_off h_past (fun q i1 i2 => O q (by omega) (by omega)), xD_off hD (fun q i1 => O q (by omega) (by omega)), k0, k1, X0_off h_sets (fun q i1 i2 => O q (by omega) (by omega)), X6_off h_survey (fun q i1 i2 => O q (by omega) (by omega)), X3_off h_marriages (fun q i1 i2 => O q (by omega) (by omega)), X1_off h_finder (fun q i1 i2 => O q (by omega) (by omega)), rfl, X9_off hm (fun q i1 i2 => O q (by omega) (by omega))⟩
def stM_round (m : Rec) (x1 : Int32) : Option (Int32 × Rec) := (X9_round m x1).map (fun r => (r, m))
theorem wM_round (l : Launch) {h : aH} {nx : Nat} {c : CSt} {m : Rec} {x1 : Int32} (hw : wAt h nx c m) {r : Int32 × Rec} (hF : stM_round m x1 = some r) : aOk l 3 0 0 yX9_round cX9_round 5 (some .int) [.ref 46, .int x1] h nx (fun v h1 nx1 => v = some (.int r.1) ∧ nx1 = nx ∧ wAt h1 nx c r.2) := by
  obtain ⟨hX, h_tape, h_now, h_past, hD, h_trial, h_earlier, h_sets, h_survey, h_marriages, h_finder, hn, hm⟩ := hw
  obtain ⟨r0, h0, rfl⟩ := Option.map_eq_some_iff.mp hF
  refine (X9_round_ok l hm (r := r0) h0).post (fun v h1 nx1 q => ?_)
  obtain ⟨rfl, rfl, rfl⟩ := q
  exact ⟨rfl, rfl, hX, h_tape, h_now, h_past, hD, h_trial, h_earlier, h_sets, h_survey, h_marriages, h_finder, hn, hm⟩
def stC_buys (c : CSt) (x1 : Int32) (x2 : Int32) (x3 : Int32) : Option (Int32 × CSt) := (X8_buys (c_now c) (c_sets c) x1 x2 x3).map (fun r => (r.1, (c_tape c, c_now c, c_past c, c_D c, c_trial c, c_earlier c, r.2, c_survey c, c_marriages c, c_finder c)))
set_option maxHeartbeats 1000000 in
theorem wC_buys (l : Launch) {h : aH} {nx : Nat} {c : CSt} {m : Rec} {x1 : Int32} {x2 : Int32} {x3 : Int32} (hw : wAt h nx c m) {r : Int32 × CSt} (hF : stC_buys c x1 x2 x3 = some r) : aOk l 5 0 0 yX8_buys cX8_buys 6 (some .int) [.ref 4, .int x1, .int x2, .int x3] h nx (fun v h1 nx1 => v = some (.int r.1) ∧ wAt h1 nx1 r.2 m) := by
  obtain ⟨hX, h_tape, h_now, h_past, hD, h_trial, h_earlier, h_sets, h_survey, h_marriages, h_finder, hn, hm⟩ := hw
  subst hn
  obtain ⟨r0, h0, rfl⟩ := Option.map_eq_some_iff.mp hF
  refine (X8_buys_ok l hX h_now h_sets (r := r0) h0).post (fun v h1 nx1 q => ?_)
  obtain ⟨rfl, rfl, k0, O⟩ := q
  exact ⟨rfl, (O 4 (by omega)).trans hX, X7_off h_tape (fun q i1 i2 => O q (by omega)), X2_off h_now (fun q i1 i2 => O q (by omega)), X4_off h_past (fun q i1 i2 => O q (by omega)), xD_off hD (fun q i1 => O q (by omega)), X2_off h_trial (fun q i1 i2 => O q (by omega)), X2_off h_earlier (fun q i1 i2 => O q (by omega)), k0, X6_off h_survey (fun q i1 i2 => O q (by omega)), X3_off h_marriages (fun q i1 i2 => O q (by omega)), X1_off h_finder (fun q i1 i2 => O q (by omega)), rfl, X9_off hm (fun q i1 i2 => O q (by omega))⟩
def stM_buys (m : Rec) (x1 : Int32) (x2 : Int32) (x3 : Int32) : Option (Int32 × Rec) := (X9_buys m x1 x2 x3).map (fun r => (r.1, r.2))
theorem wM_buys (l : Launch) {h : aH} {nx : Nat} {c : CSt} {m : Rec} {x1 : Int32} {x2 : Int32} {x3 : Int32} (hw : wAt h nx c m) {r : Int32 × Rec} (hF : stM_buys m x1 x2 x3 = some r) : aOk l 6 0 0 yX9_buys cX9_buys 7 (some .int) [.ref 46, .int x1, .int x2, .int x3] h nx (fun v h1 nx1 => v = some (.int r.1) ∧ nx1 = nx ∧ wAt h1 nx c r.2) := by
  obtain ⟨hX, h_tape, h_now, h_past, hD, h_trial, h_earlier, h_sets, h_survey, h_marriages, h_finder, hn, hm⟩ := hw
  obtain ⟨r0, h0, rfl⟩ := Option.map_eq_some_iff.mp hF
  refine (X9_buys_ok l hm (r := r0) h0).post (fun v h1 nx1 q => ?_)
  obtain ⟨rfl, rfl, k0, O⟩ := q
  exact ⟨rfl, rfl, (O 4 (by omega)).trans hX, X7_off h_tape (fun q i1 i2 => O q (by omega)), X2_off h_now (fun q i1 i2 => O q (by omega)), X4_off h_past (fun q i1 i2 => O q (by omega)), xD_off hD (fun q i1 => O q (by omega)), X2_off h_trial (fun q i1 i2 => O q (by omega)), X2_off h_earlier (fun q i1 i2 => O q (by omega)), X0_off h_sets (fun q i1 i2 => O q (by omega)), X6_off h_survey (fun q i1 i2 => O q (by omega)), X3_off h_marriages (fun q i1 i2 => O q (by omega)), X1_off h_finder (fun q i1 i2 => O q (by omega)), hn, k0⟩
def stC_scattered (c : CSt) (x1 : Int32) (x2 : Int32) : Option (Int32 × CSt) := (X8_scattered (c_now c) x1 x2).map (fun r => (r, c))
set_option maxHeartbeats 1000000 in
theorem wC_scattered (l : Launch) {h : aH} {nx : Nat} {c : CSt} {m : Rec} {x1 : Int32} {x2 : Int32} (hw : wAt h nx c m) {r : Int32 × CSt} (hF : stC_scattered c x1 x2 = some r) : aOk l 2 0 0 yX8_scattered cX8_scattered 10 (some .int) [.ref 4, .int x1, .int x2] h nx (fun v h1 nx1 => v = some (.int r.1) ∧ wAt h1 nx1 r.2 m) := by
  obtain ⟨hX, h_tape, h_now, h_past, hD, h_trial, h_earlier, h_sets, h_survey, h_marriages, h_finder, hn, hm⟩ := hw
  subst hn
  obtain ⟨r0, h0, rfl⟩ := Option.map_eq_some_iff.mp hF
  refine (X8_scattered_ok l hX h_now (r := r0) h0).post (fun v h1 nx1 q => ?_)
  obtain ⟨rfl, rfl, rfl⟩ := q
  exact ⟨rfl, hX, h_tape, h_now, h_past, hD, h_trial, h_earlier, h_sets, h_survey, h_marriages, h_finder, rfl, hm⟩
def stM_scattered (m : Rec) (x1 : Int32) (x2 : Int32) : Option (Int32 × Rec) := (X9_scattered m x1 x2).map (fun r => (r.1, r.2))
theorem wM_scattered (l : Launch) {h : aH} {nx : Nat} {c : CSt} {m : Rec} {x1 : Int32} {x2 : Int32} (hw : wAt h nx c m) {r : Int32 × Rec} (hF : stM_scattered m x1 x2 = some r) : aOk l 2 0 0 yX9_scattered cX9_scattered 9 (some .int) [.ref 46, .int x1, .int x2] h nx (fun v h1 nx1 => v = some (.int r.1) ∧ nx1 = nx ∧ wAt h1 nx c r.2) := by
  obtain ⟨hX, h_tape, h_now, h_past, hD, h_trial, h_earlier, h_sets, h_survey, h_marriages, h_finder, hn, hm⟩ := hw
  obtain ⟨r0, h0, rfl⟩ := Option.map_eq_some_iff.mp hF
  refine (X9_scattered_ok l hm (r := r0) h0).post (fun v h1 nx1 q => ?_)
  obtain ⟨rfl, rfl, k0, O⟩ := q
  exact ⟨rfl, rfl, (O 4 (by omega)).trans hX, X7_off h_tape (fun q i1 i2 => O q (by omega)), X2_off h_now (fun q i1 i2 => O q (by omega)), X4_off h_past (fun q i1 i2 => O q (by omega)), xD_off hD (fun q i1 => O q (by omega)), X2_off h_trial (fun q i1 i2 => O q (by omega)), X2_off h_earlier (fun q i1 i2 => O q (by omega)), X0_off h_sets (fun q i1 i2 => O q (by omega)), X6_off h_survey (fun q i1 i2 => O q (by omega)), X3_off h_marriages (fun q i1 i2 => O q (by omega)), X1_off h_finder (fun q i1 i2 => O q (by omega)), hn, k0⟩
def stC_talk (c : CSt) (x1 : Int32) (x2 : Int32) : Option (Int32 × CSt) := (X8_talk (c_now c) x1 x2).map (fun r => (r, c))
set_option maxHeartbeats 1000000 in
theorem wC_talk (l : Launch) {h : aH} {nx : Nat} {c : CSt} {m : Rec} {x1 : Int32} {x2 : Int32} (hw : wAt h nx c m) {r : Int32 × CSt} (hF : stC_talk c x1 x2 = some r) : aOk l 6 0 0 yX8_talk cX8_talk 3 (some .int) [.ref 4, .int x1, .int x2] h nx (fun v h1 nx1 => v = some (.int r.1) ∧ wAt h1 nx1 r.2 m) := by
  obtain ⟨hX, h_tape, h_now, h_past, hD, h_trial, h_earlier, h_sets, h_survey, h_marriages, h_finder, hn, hm⟩ := hw
  subst hn
  obtain ⟨r0, h0, rfl⟩ := Option.map_eq_some_iff.mp hF
  refine (X8_talk_ok l hX h_now (r := r0) h0).post (fun v h1 nx1 q => ?_)
  obtain ⟨rfl, rfl, rfl⟩ := q
  exact ⟨rfl, hX, h_tape, h_now, h_past, hD, h_trial, h_earlier, h_sets, h_survey, h_marriages, h_finder, rfl, hm⟩
def stM_talk (m : Rec) (x1 : Int32) (x2 : Int32) : Option (Int32 × Rec) := (X9_talk m x1 x2).map (fun r => (r, m))
theorem wM_talk (l : Launch) {h : aH} {nx : Nat} {c : CSt} {m : Rec} {x1 : Int32} {x2 : Int32} (hw : wAt h nx c m) {r : Int32 × Rec} (hF : stM_talk m x1 x2 = some r) : aOk l 5 0 0 yX9_talk cX9_talk 5 (some .int) [.ref 46, .int x1, .int x2] h nx (fun v h1 nx1 => v = some (.int r.1) ∧ nx1 = nx ∧ wAt h1 nx c r.2) := by
  obtain ⟨hX, h_tape, h_now, h_past, hD, h_trial, h_earlier, h_sets, h_survey, h_marriages, h_finder, hn, hm⟩ := hw
  obtain ⟨r0, h0, rfl⟩ := Option.map_eq_some_iff.mp hF
  refine (X9_talk_ok l hm (r := r0) h0).post (fun v h1 nx1 q => ?_)
  obtain ⟨rfl, rfl, rfl⟩ := q
  exact ⟨rfl, rfl, hX, h_tape, h_now, h_past, hD, h_trial, h_earlier, h_sets, h_survey, h_marriages, h_finder, hn, hm⟩
def stC_marry (c : CSt) (x1 : Int32) (x2 : Int32) : Option (Int32 × CSt) := (X8_marry (c_now c) (c_marriages c) x1 x2).map (fun r => (r.1, (c_tape c, c_now c, c_past c, c_D c, c_trial c, c_earlier c, c_sets c, c_survey c, r.2, c_finder c)))
set_option maxHeartbeats 1000000 in
theorem wC_marry (l : Launch) {h : aH} {nx : Nat} {c : CSt} {m : Rec} {x1 : Int32} {x2 : Int32} (hw : wAt h nx c m) {r : Int32 × CSt} (hF : stC_marry c x1 x2 = some r) : aOk l 7 0 0 yX8_marry cX8_marry 3 (some .int) [.ref 4, .int x1, .int x2] h nx (fun v h1 nx1 => v = some (.int r.1) ∧ wAt h1 nx1 r.2 m) := by
  obtain ⟨hX, h_tape, h_now, h_past, hD, h_trial, h_earlier, h_sets, h_survey, h_marriages, h_finder, hn, hm⟩ := hw
  subst hn
  obtain ⟨r0, h0, rfl⟩ := Option.map_eq_some_iff.mp hF
  refine (X8_marry_ok l hX h_now h_marriages (r := r0) h0).post (fun v h1 nx1 q => ?_)
  obtain ⟨rfl, rfl, k0, O⟩ := q
  exact ⟨rfl, (O 4 (by omega)).trans hX, X7_off h_tape (fun q i1 i2 => O q (by omega)), X2_off h_now (fun q i1 i2 => O q (by omega)), X4_off h_past (fun q i1 i2 => O q (by omega)), xD_off hD (fun q i1 => O q (by omega)), X2_off h_trial (fun q i1 i2 => O q (by omega)), X2_off h_earlier (fun q i1 i2 => O q (by omega)), X0_off h_sets (fun q i1 i2 => O q (by omega)), X6_off h_survey (fun q i1 i2 => O q (by omega)), k0, X1_off h_finder (fun q i1 i2 => O q (by omega)), rfl, X9_off hm (fun q i1 i2 => O q (by omega))⟩
def stM_marry (m : Rec) (x1 : Int32) (x2 : Int32) : Option (Int32 × Rec) := (X9_marry m x1 x2).map (fun r => (r.1, r.2))
theorem wM_marry (l : Launch) {h : aH} {nx : Nat} {c : CSt} {m : Rec} {x1 : Int32} {x2 : Int32} (hw : wAt h nx c m) {r : Int32 × Rec} (hF : stM_marry m x1 x2 = some r) : aOk l 5 0 0 yX9_marry cX9_marry 8 (some .int) [.ref 46, .int x1, .int x2] h nx (fun v h1 nx1 => v = some (.int r.1) ∧ nx1 = nx ∧ wAt h1 nx c r.2) := by
  obtain ⟨hX, h_tape, h_now, h_past, hD, h_trial, h_earlier, h_sets, h_survey, h_marriages, h_finder, hn, hm⟩ := hw
  obtain ⟨r0, h0, rfl⟩ := Option.map_eq_some_iff.mp hF
  refine (X9_marry_ok l hm (r := r0) h0).post (fun v h1 nx1 q => ?_)
  obtain ⟨rfl, rfl, k0, O⟩ := q
  exact ⟨rfl, rfl, (O 4 (by omega)).trans hX, X7_off h_tape (fun q i1 i2 => O q (by omega)), X2_off h_now (fun q i1 i2 => O q (by omega)), X4_off h_past (fun q i1 i2 => O q (by omega)), xD_off hD (fun q i1 => O q (by omega)), X2_off h_trial (fun q i1 i2 => O q (by omega)), X2_off h_earlier (fun q i1 i2 => O q (by omega)), X0_off h_sets (fun q i1 i2 => O q (by omega)), X6_off h_survey (fun q i1 i2 => O q (by omega)), X3_off h_marriages (fun q i1 i2 => O q (by omega)), X1_off h_finder (fun q i1 i2 => O q (by omega)), hn, k0⟩
def stC_letters (c : CSt) (x1 : Int32) (x2 : Int32) (x3 : Int32) : Option (Int32 × CSt) := (X8_letters (c_now c) x1 x2 x3).map (fun r => (r, c))
set_option maxHeartbeats 1000000 in
theorem wC_letters (l : Launch) {h : aH} {nx : Nat} {c : CSt} {m : Rec} {x1 : Int32} {x2 : Int32} {x3 : Int32} (hw : wAt h nx c m) {r : Int32 × CSt} (hF : stC_letters c x1 x2 x3 = some r) : aOk l 5 0 0 yX8_letters cX8_letters 5 (some .int) [.ref 4, .int x1, .int x2, .int x3] h nx (fun v h1 nx1 => v = some (.int r.1) ∧ wAt h1 nx1 r.2 m) := by
  obtain ⟨hX, h_tape, h_now, h_past, hD, h_trial, h_earlier, h_sets, h_survey, h_marriages, h_finder, hn, hm⟩ := hw
  subst hn
  obtain ⟨r0, h0, rfl⟩ := Option.map_eq_some_iff.mp hF
  refine (X8_letters_ok l hX h_now (r := r0) h0).post (fun v h1 nx1 q => ?_)
  obtain ⟨rfl, rfl, rfl⟩ := q
  exact ⟨rfl, hX, h_tape, h_now, h_past, hD, h_trial, h_earlier, h_sets, h_survey, h_marriages, h_finder, rfl, hm⟩
def stM_letters (m : Rec) (x1 : Int32) (x2 : Int32) (x3 : Int32) : Option (Int32 × Rec) := (X9_letters m x1 x2 x3).map (fun r => (r, m))
theorem wM_letters (l : Launch) {h : aH} {nx : Nat} {c : CSt} {m : Rec} {x1 : Int32} {x2 : Int32} {x3 : Int32} (hw : wAt h nx c m) {r : Int32 × Rec} (hF : stM_letters m x1 x2 x3 = some r) : aOk l 4 0 0 yX9_letters cX9_letters 8 (some .int) [.ref 46, .int x1, .int x2, .int x3] h nx (fun v h1 nx1 => v = some (.int r.1) ∧ nx1 = nx ∧ wAt h1 nx c r.2) := by
  obtain ⟨hX, h_tape, h_now, h_past, hD, h_trial, h_earlier, h_sets, h_survey, h_marriages, h_finder, hn, hm⟩ := hw
  obtain ⟨r0, h0, rfl⟩ := Option.map_eq_some_iff.mp hF
  refine (X9_letters_ok l hm (r := r0) h0).post (fun v h1 nx1 q => ?_)
  obtain ⟨rfl, rfl, rfl⟩ := q
  exact ⟨rfl, rfl, hX, h_tape, h_now, h_past, hD, h_trial, h_earlier, h_sets, h_survey, h_marriages, h_finder, hn, hm⟩
def stC_holdings (c : CSt) (x1 : Int32) (x2 : Int32) (x3 : Int32) (x4 : Int32) : Option (Int32 × CSt) := (X8_holdings (c_now c) (c_survey c) (c_sets c) x1 x2 x3 x4).map (fun r => (r.1, (c_tape c, c_now c, c_past c, c_D c, c_trial c, c_earlier c, r.2.2, r.2.1, c_marriages c, c_finder c)))
set_option maxHeartbeats 1000000 in
theorem wC_holdings (l : Launch) {h : aH} {nx : Nat} {c : CSt} {m : Rec} {x1 : Int32} {x2 : Int32} {x3 : Int32} {x4 : Int32} (hw : wAt h nx c m) {r : Int32 × CSt} (hF : stC_holdings c x1 x2 x3 x4 = some r) : aOk l 5 0 0 yX8_holdings cX8_holdings 5 (some .int) [.ref 4, .int x1, .int x2, .int x3, .int x4] h nx (fun v h1 nx1 => v = some (.int r.1) ∧ wAt h1 nx1 r.2 m) := by
  obtain ⟨hX, h_tape, h_now, h_past, hD, h_trial, h_earlier, h_sets, h_survey, h_marriages, h_finder, hn, hm⟩ := hw
  subst hn
  obtain ⟨r0, h0, rfl⟩ := Option.map_eq_some_iff.mp hF
  refine (X8_holdings_ok l hX h_now h_survey h_sets (r := r0) h0).post (fun v h1 nx1 q => ?_)
  obtain ⟨rfl, rfl, k0, k1, O⟩ := q
  exact ⟨rfl, (O 4 (by omega) (by omega)).trans hX, X7_off h_tape (fun q i1 i2 => O q (by omega) (by omega)), X2_off h_now (fun q i1 i2 => O q (by omega) (by omega)), X4_off h_past (fun q i1 i2 => O q (by omega) (by omega)), xD_off hD (fun q i1 => O q (by omega) (by omega)), X2_off h_trial (fun q i1 i2 => O q (by omega) (by omega)), X2_off h_earlier (fun q i1 i2 => O q (by omega) (by omega)), k1, k0, X3_off h_marriages (fun q i1 i2 => O q (by omega) (by omega)), X1_off h_finder (fun q i1 i2 => O q (by omega) (by omega)), rfl, X9_off hm (fun q i1 i2 => O q (by omega) (by omega))⟩
def stM_holdings (m : Rec) (x1 : Int32) (x2 : Int32) (x3 : Int32) (x4 : Int32) : Option (Int32 × Rec) := (X9_holdings m x1 x2 x3 x4).map (fun r => (r.1, r.2))
theorem wM_holdings (l : Launch) {h : aH} {nx : Nat} {c : CSt} {m : Rec} {x1 : Int32} {x2 : Int32} {x3 : Int32} {x4 : Int32} (hw : wAt h nx c m) {r : Int32 × Rec} (hF : stM_holdings m x1 x2 x3 x4 = some r) : aOk l 5 0 0 yX9_holdings cX9_holdings 9 (some .int) [.ref 46, .int x1, .int x2, .int x3, .int x4] h nx (fun v h1 nx1 => v = some (.int r.1) ∧ nx1 = nx ∧ wAt h1 nx c r.2) := by
  obtain ⟨hX, h_tape, h_now, h_past, hD, h_trial, h_earlier, h_sets, h_survey, h_marriages, h_finder, hn, hm⟩ := hw
  obtain ⟨r0, h0, rfl⟩ := Option.map_eq_some_iff.mp hF
  refine (X9_holdings_ok l hm (r := r0) h0).post (fun v h1 nx1 q => ?_)
  obtain ⟨rfl, rfl, k0, O⟩ := q
  exact ⟨rfl, rfl, (O 4 (by omega)).trans hX, X7_off h_tape (fun q i1 i2 => O q (by omega)), X2_off h_now (fun q i1 i2 => O q (by omega)), X4_off h_past (fun q i1 i2 => O q (by omega)), xD_off hD (fun q i1 => O q (by omega)), X2_off h_trial (fun q i1 i2 => O q (by omega)), X2_off h_earlier (fun q i1 i2 => O q (by omega)), X0_off h_sets (fun q i1 i2 => O q (by omega)), X6_off h_survey (fun q i1 i2 => O q (by omega)), X3_off h_marriages (fun q i1 i2 => O q (by omega)), X1_off h_finder (fun q i1 i2 => O q (by omega)), hn, k0⟩
def stC_take (c : CSt) (x1 : Int32) (x2 : Int32) (x3 : Int32) : Option (Int32 × CSt) := (X8_take (c_now c) x1 x2 x3).map (fun r => (r, c))
set_option maxHeartbeats 1000000 in
theorem wC_take (l : Launch) {h : aH} {nx : Nat} {c : CSt} {m : Rec} {x1 : Int32} {x2 : Int32} {x3 : Int32} (hw : wAt h nx c m) {r : Int32 × CSt} (hF : stC_take c x1 x2 x3 = some r) : aOk l 11 0 0 yX8_take cX8_take 6 (some .int) [.ref 4, .int x1, .int x2, .int x3] h nx (fun v h1 nx1 => v = some (.int r.1) ∧ wAt h1 nx1 r.2 m) := by
  obtain ⟨hX, h_tape, h_now, h_past, hD, h_trial, h_earlier, h_sets, h_survey, h_marriages, h_finder, hn, hm⟩ := hw
  subst hn
  obtain ⟨r0, h0, rfl⟩ := Option.map_eq_some_iff.mp hF
  refine (X8_take_ok l hX h_now (r := r0) h0).post (fun v h1 nx1 q => ?_)
  obtain ⟨rfl, rfl, rfl⟩ := q
  exact ⟨rfl, hX, h_tape, h_now, h_past, hD, h_trial, h_earlier, h_sets, h_survey, h_marriages, h_finder, rfl, hm⟩
def stM_take (m : Rec) (x1 : Int32) (x2 : Int32) (x3 : Int32) : Option (Int32 × Rec) := (X9_take m x1 x2 x3).map (fun r => (r.1, r.2))
theorem wM_take (l : Launch) {h : aH} {nx : Nat} {c : CSt} {m : Rec} {x1 : Int32} {x2 : Int32} {x3 : Int32} (hw : wAt h nx c m) {r : Int32 × Rec} (hF : stM_take m x1 x2 x3 = some r) : aOk l 9 0 0 yX9_take cX9_take 5 (some .int) [.ref 46, .int x1, .int x2, .int x3] h nx (fun v h1 nx1 => v = some (.int r.1) ∧ nx1 = nx ∧ wAt h1 nx c r.2) := by
  obtain ⟨hX, h_tape, h_now, h_past, hD, h_trial, h_earlier, h_sets, h_survey, h_marriages, h_finder, hn, hm⟩ := hw
  obtain ⟨r0, h0, rfl⟩ := Option.map_eq_some_iff.mp hF
  refine (X9_take_ok l hm (r := r0) h0).post (fun v h1 nx1 q => ?_)
  obtain ⟨rfl, rfl, k0, O⟩ := q
  exact ⟨rfl, rfl, (O 4 (by omega)).trans hX, X7_off h_tape (fun q i1 i2 => O q (by omega)), X2_off h_now (fun q i1 i2 => O q (by omega)), X4_off h_past (fun q i1 i2 => O q (by omega)), xD_off hD (fun q i1 => O q (by omega)), X2_off h_trial (fun q i1 i2 => O q (by omega)), X2_off h_earlier (fun q i1 i2 => O q (by omega)), X0_off h_sets (fun q i1 i2 => O q (by omega)), X6_off h_survey (fun q i1 i2 => O q (by omega)), X3_off h_marriages (fun q i1 i2 => O q (by omega)), X1_off h_finder (fun q i1 i2 => O q (by omega)), hn, k0⟩
def stC_chance (c : CSt) (x1 : Int32) (x2 : Int32) (x3 : Int32) (x4 : Int32) : Option (Int32 × CSt) := (X8_chance (c_now c) x1 x2 x3 x4).map (fun r => (r, c))
set_option maxHeartbeats 1000000 in
theorem wC_chance (l : Launch) {h : aH} {nx : Nat} {c : CSt} {m : Rec} {x1 : Int32} {x2 : Int32} {x3 : Int32} {x4 : Int32} (hw : wAt h nx c m) {r : Int32 × CSt} (hF : stC_chance c x1 x2 x3 x4 = some r) : aOk l 11 0 0 yX8_chance cX8_chance 8 (some .int) [.ref 4, .int x1, .int x2, .int x3, .int x4] h nx (fun v h1 nx1 => v = some (.int r.1) ∧ wAt h1 nx1 r.2 m) := by
  obtain ⟨hX, h_tape, h_now, h_past, hD, h_trial, h_earlier, h_sets, h_survey, h_marriages, h_finder, hn, hm⟩ := hw
  subst hn
  obtain ⟨r0, h0, rfl⟩ := Option.map_eq_some_iff.mp hF
  refine (X8_chance_ok l hX h_now (r := r0) h0).post (fun v h1 nx1 q => ?_)
  obtain ⟨rfl, rfl, rfl⟩ := q
  exact ⟨rfl, hX, h_tape, h_now, h_past, hD, h_trial, h_earlier, h_sets, h_survey, h_marriages, h_finder, rfl, hm⟩
def stM_chance (m : Rec) (x1 : Int32) (x2 : Int32) (x3 : Int32) (x4 : Int32) : Option (Int32 × Rec) := (X9_chance m x1 x2 x3 x4).map (fun r => (r.1, r.2))
theorem wM_chance (l : Launch) {h : aH} {nx : Nat} {c : CSt} {m : Rec} {x1 : Int32} {x2 : Int32} {x3 : Int32} {x4 : Int32} (hw : wAt h nx c m) {r : Int32 × Rec} (hF : stM_chance m x1 x2 x3 x4 = some r) : aOk l 5 0 0 yX9_chance cX9_chance 10 (some .int) [.ref 46, .int x1, .int x2, .int x3, .int x4] h nx (fun v h1 nx1 => v = some (.int r.1) ∧ nx1 = nx ∧ wAt h1 nx c r.2) := by
  obtain ⟨hX, h_tape, h_now, h_past, hD, h_trial, h_earlier, h_sets, h_survey, h_marriages, h_finder, hn, hm⟩ := hw
  obtain ⟨r0, h0, rfl⟩ := Option.map_eq_some_iff.mp hF
  refine (X9_chance_ok l hm (r := r0) h0).post (fun v h1 nx1 q => ?_)
  obtain ⟨rfl, rfl, k0, O⟩ := q
  exact ⟨rfl, rfl, (O 4 (by omega)).trans hX, X7_off h_tape (fun q i1 i2 => O q (by omega)), X2_off h_now (fun q i1 i2 => O q (by omega)), X4_off h_past (fun q i1 i2 => O q (by omega)), xD_off hD (fun q i1 => O q (by omega)), X2_off h_trial (fun q i1 i2 => O q (by omega)), X2_off h_earlier (fun q i1 i2 => O q (by omega)), X0_off h_sets (fun q i1 i2 => O q (by omega)), X6_off h_survey (fun q i1 i2 => O q (by omega)), X3_off h_marriages (fun q i1 i2 => O q (by omega)), X1_off h_finder (fun q i1 i2 => O q (by omega)), hn, k0⟩
def stC_drawn (c : CSt) (x1 : Int32) (x2 : Int32) (x3 : Int32) : Option (Int32 × CSt) := (X8_drawn (c_now c) (c_trial c) x1 x2 x3).map (fun r => (r.1, (c_tape c, c_now c, c_past c, c_D c, r.2, c_earlier c, c_sets c, c_survey c, c_marriages c, c_finder c)))
set_option maxHeartbeats 1000000 in
theorem wC_drawn (l : Launch) {h : aH} {nx : Nat} {c : CSt} {m : Rec} {x1 : Int32} {x2 : Int32} {x3 : Int32} (hw : wAt h nx c m) {r : Int32 × CSt} (hF : stC_drawn c x1 x2 x3 = some r) : aOk l 6 0 0 yX8_drawn cX8_drawn 7 (some .int) [.ref 4, .int x1, .int x2, .int x3] h nx (fun v h1 nx1 => v = some (.int r.1) ∧ wAt h1 nx1 r.2 m) := by
  obtain ⟨hX, h_tape, h_now, h_past, hD, h_trial, h_earlier, h_sets, h_survey, h_marriages, h_finder, hn, hm⟩ := hw
  subst hn
  obtain ⟨r0, h0, rfl⟩ := Option.map_eq_some_iff.mp hF
  refine (X8_drawn_ok l hX h_now h_trial (r := r0) h0).post (fun v h1 nx1 q => ?_)
  obtain ⟨rfl, rfl, k0, O⟩ := q
  exact ⟨rfl, (O 4 (by omega)).trans hX, X7_off h_tape (fun q i1 i2 => O q (by omega)), X2_off h_now (fun q i1 i2 => O q (by omega)), X4_off h_past (fun q i1 i2 => O q (by omega)), xD_off hD (fun q i1 => O q (by omega)), k0, X2_off h_earlier (fun q i1 i2 => O q (by omega)), X0_off h_sets (fun q i1 i2 => O q (by omega)), X6_off h_survey (fun q i1 i2 => O q (by omega)), X3_off h_marriages (fun q i1 i2 => O q (by omega)), X1_off h_finder (fun q i1 i2 => O q (by omega)), rfl, X9_off hm (fun q i1 i2 => O q (by omega))⟩
def stM_drawn (m : Rec) (x1 : Int32) (x2 : Int32) (x3 : Int32) : Option (Int32 × Rec) := (X9_drawn m x1 x2 x3).map (fun r => (r.1, r.2))
theorem wM_drawn (l : Launch) {h : aH} {nx : Nat} {c : CSt} {m : Rec} {x1 : Int32} {x2 : Int32} {x3 : Int32} (hw : wAt h nx c m) {r : Int32 × Rec} (hF : stM_drawn m x1 x2 x3 = some r) : aOk l 4 0 0 yX9_drawn cX9_drawn 8 (some .int) [.ref 46, .int x1, .int x2, .int x3] h nx (fun v h1 nx1 => v = some (.int r.1) ∧ nx1 = nx ∧ wAt h1 nx c r.2) := by
  obtain ⟨hX, h_tape, h_now, h_past, hD, h_trial, h_earlier, h_sets, h_survey, h_marriages, h_finder, hn, hm⟩ := hw
  obtain ⟨r0, h0, rfl⟩ := Option.map_eq_some_iff.mp hF
  refine (X9_drawn_ok l hm (r := r0) h0).post (fun v h1 nx1 q => ?_)
  obtain ⟨rfl, rfl, k0, O⟩ := q
  exact ⟨rfl, rfl, (O 4 (by omega)).trans hX, X7_off h_tape (fun q i1 i2 => O q (by omega)), X2_off h_now (fun q i1 i2 => O q (by omega)), X4_off h_past (fun q i1 i2 => O q (by omega)), xD_off hD (fun q i1 => O q (by omega)), X2_off h_trial (fun q i1 i2 => O q (by omega)), X2_off h_earlier (fun q i1 i2 => O q (by omega)), X0_off h_sets (fun q i1 i2 => O q (by omega)), X6_off h_survey (fun q i1 i2 => O q (by omega)), X3_off h_marriages (fun q i1 i2 => O q (by omega)), X1_off h_finder (fun q i1 i2 => O q (by omega)), hn, k0⟩
def stC_sheet (c : CSt) (x1 : Int32) (x2 : Int32) (x3 : Int32) : Option (Int32 × CSt) := (X8_sheet (c_D c) x1 x2 x3).map (fun r => (r.1, (c_tape c, c_now c, c_past c, r.2, c_trial c, c_earlier c, c_sets c, c_survey c, c_marriages c, c_finder c)))
set_option maxHeartbeats 1000000 in
theorem wC_sheet (l : Launch) {h : aH} {nx : Nat} {c : CSt} {m : Rec} {x1 : Int32} {x2 : Int32} {x3 : Int32} (hw : wAt h nx c m) {r : Int32 × CSt} (hF : stC_sheet c x1 x2 x3 = some r) : aOk l 2 2 26 yX8_sheet cX8_sheet 4 (some .int) [.ref 4, .int x1, .int x2, .int x3] h nx (fun v h1 nx1 => v = some (.int r.1) ∧ wAt h1 nx1 r.2 m) := by
  obtain ⟨hX, h_tape, h_now, h_past, hD, h_trial, h_earlier, h_sets, h_survey, h_marriages, h_finder, hn, hm⟩ := hw
  subst hn
  obtain ⟨r0, h0, rfl⟩ := Option.map_eq_some_iff.mp hF
  refine (X8_sheet_ok l hX hD (r := r0) h0).post (fun v h1 nx1 q => ?_)
  obtain ⟨rfl, rfl, kD, O⟩ := q
  exact ⟨rfl, (O 4 (by omega) (by omega) (by omega)).trans hX, X7_off h_tape (fun q i1 i2 => O q (by omega) (by omega) (by omega)), X2_off h_now (fun q i1 i2 => O q (by omega) (by omega) (by omega)), (X8_sheet_D1 _ h0).symm ▸ X4_off h_past (fun q i1 i2 => O q (by omega) (by omega) (by omega)), kD, X2_off h_trial (fun q i1 i2 => O q (by omega) (by omega) (by omega)), X2_off h_earlier (fun q i1 i2 => O q (by omega) (by omega) (by omega)), X0_off h_sets (fun q i1 i2 => O q (by omega) (by omega) (by omega)), X6_off h_survey (fun q i1 i2 => O q (by omega) (by omega) (by omega)), X3_off h_marriages (fun q i1 i2 => O q (by omega) (by omega) (by omega)), X1_off h_finder (fun q i1 i2 => O q (by omega) (by omega) (by omega)), rfl, X9_off hm (fun q i1 i2 => O q (by omega) (by omega) (by omega))⟩
def stM_sheet (m : Rec) (x1 : Int32) (x2 : Int32) (x3 : Int32) : Option (Int32 × Rec) := (X9_sheet m x1 x2 x3).map (fun r => (r.1, r.2))
theorem wM_sheet (l : Launch) {h : aH} {nx : Nat} {c : CSt} {m : Rec} {x1 : Int32} {x2 : Int32} {x3 : Int32} (hw : wAt h nx c m) {r : Int32 × Rec} (hF : stM_sheet m x1 x2 x3 = some r) : aOk l 2 0 0 yX9_sheet cX9_sheet 5 (some .int) [.ref 46, .int x1, .int x2, .int x3] h nx (fun v h1 nx1 => v = some (.int r.1) ∧ nx1 = nx ∧ wAt h1 nx c r.2) := by
  obtain ⟨hX, h_tape, h_now, h_past, hD, h_trial, h_earlier, h_sets, h_survey, h_marriages, h_finder, hn, hm⟩ := hw
  obtain ⟨r0, h0, rfl⟩ := Option.map_eq_some_iff.mp hF
  refine (X9_sheet_ok l hm (r := r0) h0).post (fun v h1 nx1 q => ?_)
  obtain ⟨rfl, rfl, k0, O⟩ := q
  exact ⟨rfl, rfl, (O 4 (by omega)).trans hX, X7_off h_tape (fun q i1 i2 => O q (by omega)), X2_off h_now (fun q i1 i2 => O q (by omega)), X4_off h_past (fun q i1 i2 => O q (by omega)), xD_off hD (fun q i1 => O q (by omega)), X2_off h_trial (fun q i1 i2 => O q (by omega)), X2_off h_earlier (fun q i1 i2 => O q (by omega)), X0_off h_sets (fun q i1 i2 => O q (by omega)), X6_off h_survey (fun q i1 i2 => O q (by omega)), X3_off h_marriages (fun q i1 i2 => O q (by omega)), X1_off h_finder (fun q i1 i2 => O q (by omega)), hn, k0⟩
def stC_drop (c : CSt) (x1 : Int32) : Option (Int32 × CSt) := (X8_drop (c_D c) x1).map (fun r => (r.1, (c_tape c, c_now c, c_past c, r.2, c_trial c, c_earlier c, c_sets c, c_survey c, c_marriages c, c_finder c)))
set_option maxHeartbeats 1000000 in
theorem wC_drop (l : Launch) {h : aH} {nx : Nat} {c : CSt} {m : Rec} {x1 : Int32} (hw : wAt h nx c m) {r : Int32 × CSt} (hF : stC_drop c x1 = some r) : aOk l 1 0 0 yX8_drop cX8_drop 3 (some .int) [.ref 4, .int x1] h nx (fun v h1 nx1 => v = some (.int r.1) ∧ wAt h1 nx1 r.2 m) := by
  obtain ⟨hX, h_tape, h_now, h_past, hD, h_trial, h_earlier, h_sets, h_survey, h_marriages, h_finder, hn, hm⟩ := hw
  subst hn
  obtain ⟨r0, h0, rfl⟩ := Option.map_eq_some_iff.mp hF
  refine (X8_drop_ok l hX hD (r := r0) h0).post (fun v h1 nx1 q => ?_)
  obtain ⟨rfl, rfl, kD, O⟩ := q
  exact ⟨rfl, (O 4 (by omega) (by omega) (by omega)).trans hX, X7_off h_tape (fun q i1 i2 => O q (by omega) (by omega) (by omega)), X2_off h_now (fun q i1 i2 => O q (by omega) (by omega) (by omega)), (X8_drop_D1 _ h0).symm ▸ X4_off h_past (fun q i1 i2 => O q (by omega) (by omega) (by omega)), kD, X2_off h_trial (fun q i1 i2 => O q (by omega) (by omega) (by omega)), X2_off h_earlier (fun q i1 i2 => O q (by omega) (by omega) (by omega)), X0_off h_sets (fun q i1 i2 => O q (by omega) (by omega) (by omega)), X6_off h_survey (fun q i1 i2 => O q (by omega) (by omega) (by omega)), X3_off h_marriages (fun q i1 i2 => O q (by omega) (by omega) (by omega)), X1_off h_finder (fun q i1 i2 => O q (by omega) (by omega) (by omega)), rfl, X9_off hm (fun q i1 i2 => O q (by omega) (by omega) (by omega))⟩
def stM_drop (m : Rec) (x1 : Int32) : Option (Int32 × Rec) := (X9_drop m x1).map (fun r => (r.1, r.2))
theorem wM_drop (l : Launch) {h : aH} {nx : Nat} {c : CSt} {m : Rec} {x1 : Int32} (hw : wAt h nx c m) {r : Int32 × Rec} (hF : stM_drop m x1 = some r) : aOk l 2 0 0 yX9_drop cX9_drop 2 (some .int) [.ref 46, .int x1] h nx (fun v h1 nx1 => v = some (.int r.1) ∧ nx1 = nx ∧ wAt h1 nx c r.2) := by
  obtain ⟨hX, h_tape, h_now, h_past, hD, h_trial, h_earlier, h_sets, h_survey, h_marriages, h_finder, hn, hm⟩ := hw
  obtain ⟨r0, h0, rfl⟩ := Option.map_eq_some_iff.mp hF
  refine (X9_drop_ok l hm (r := r0) h0).post (fun v h1 nx1 q => ?_)
  obtain ⟨rfl, rfl, k0, O⟩ := q
  exact ⟨rfl, rfl, (O 4 (by omega)).trans hX, X7_off h_tape (fun q i1 i2 => O q (by omega)), X2_off h_now (fun q i1 i2 => O q (by omega)), X4_off h_past (fun q i1 i2 => O q (by omega)), xD_off hD (fun q i1 => O q (by omega)), X2_off h_trial (fun q i1 i2 => O q (by omega)), X2_off h_earlier (fun q i1 i2 => O q (by omega)), X0_off h_sets (fun q i1 i2 => O q (by omega)), X6_off h_survey (fun q i1 i2 => O q (by omega)), X3_off h_marriages (fun q i1 i2 => O q (by omega)), X1_off h_finder (fun q i1 i2 => O q (by omega)), hn, k0⟩
def stC_item (c : CSt) (x1 : Int32) (x2 : Int32) (x3 : Int32) (y4 : Int64) : Option (Int64 × CSt) := (X8_item (c_D c) x1 x2 x3 y4).map (fun r => (r.1, (c_tape c, c_now c, c_past c, r.2, c_trial c, c_earlier c, c_sets c, c_survey c, c_marriages c, c_finder c)))
set_option maxHeartbeats 1000000 in
theorem wC_item (l : Launch) {h : aH} {nx : Nat} {c : CSt} {m : Rec} {x1 : Int32} {x2 : Int32} {x3 : Int32} {y4 : Int64} (hw : wAt h nx c m) {r : Int64 × CSt} (hF : stC_item c x1 x2 x3 y4 = some r) : aOk l 1 0 0 yX8_item cX8_item 7 (some .long) [.ref 4, .int x1, .int x2, .int x3, .long y4] h nx (fun v h1 nx1 => v = some (.long r.1) ∧ wAt h1 nx1 r.2 m) := by
  obtain ⟨hX, h_tape, h_now, h_past, hD, h_trial, h_earlier, h_sets, h_survey, h_marriages, h_finder, hn, hm⟩ := hw
  subst hn
  obtain ⟨r0, h0, rfl⟩ := Option.map_eq_some_iff.mp hF
  refine (X8_item_ok l hX hD (r := r0) h0).post (fun v h1 nx1 q => ?_)
  obtain ⟨rfl, rfl, kD, O⟩ := q
  exact ⟨rfl, (O 4 (by omega) (by omega) (by omega)).trans hX, X7_off h_tape (fun q i1 i2 => O q (by omega) (by omega) (by omega)), X2_off h_now (fun q i1 i2 => O q (by omega) (by omega) (by omega)), (X8_item_D1 _ h0).symm ▸ X4_off h_past (fun q i1 i2 => O q (by omega) (by omega) (by omega)), kD, X2_off h_trial (fun q i1 i2 => O q (by omega) (by omega) (by omega)), X2_off h_earlier (fun q i1 i2 => O q (by omega) (by omega) (by omega)), X0_off h_sets (fun q i1 i2 => O q (by omega) (by omega) (by omega)), X6_off h_survey (fun q i1 i2 => O q (by omega) (by omega) (by omega)), X3_off h_marriages (fun q i1 i2 => O q (by omega) (by omega) (by omega)), X1_off h_finder (fun q i1 i2 => O q (by omega) (by omega) (by omega)), rfl, X9_off hm (fun q i1 i2 => O q (by omega) (by omega) (by omega))⟩
def stM_item (m : Rec) (x1 : Int32) (x2 : Int32) (x3 : Int32) (y4 : Int64) : Option (Int64 × Rec) := (X9_item m x1 x2 x3 y4).map (fun r => (r.1, r.2))
theorem wM_item (l : Launch) {h : aH} {nx : Nat} {c : CSt} {m : Rec} {x1 : Int32} {x2 : Int32} {x3 : Int32} {y4 : Int64} (hw : wAt h nx c m) {r : Int64 × Rec} (hF : stM_item m x1 x2 x3 y4 = some r) : aOk l 2 0 0 yX9_item cX9_item 7 (some .long) [.ref 46, .int x1, .int x2, .int x3, .long y4] h nx (fun v h1 nx1 => v = some (.long r.1) ∧ nx1 = nx ∧ wAt h1 nx c r.2) := by
  obtain ⟨hX, h_tape, h_now, h_past, hD, h_trial, h_earlier, h_sets, h_survey, h_marriages, h_finder, hn, hm⟩ := hw
  obtain ⟨r0, h0, rfl⟩ := Option.map_eq_some_iff.mp hF
  refine (X9_item_ok l hm (r := r0) h0).post (fun v h1 nx1 q => ?_)
  obtain ⟨rfl, rfl, k0, O⟩ := q
  exact ⟨rfl, rfl, (O 4 (by omega)).trans hX, X7_off h_tape (fun q i1 i2 => O q (by omega)), X2_off h_now (fun q i1 i2 => O q (by omega)), X4_off h_past (fun q i1 i2 => O q (by omega)), xD_off hD (fun q i1 => O q (by omega)), X2_off h_trial (fun q i1 i2 => O q (by omega)), X2_off h_earlier (fun q i1 i2 => O q (by omega)), X0_off h_sets (fun q i1 i2 => O q (by omega)), X6_off h_survey (fun q i1 i2 => O q (by omega)), X3_off h_marriages (fun q i1 i2 => O q (by omega)), X1_off h_finder (fun q i1 i2 => O q (by omega)), hn, k0⟩
def stC_copy (c : CSt) (x1 : Int32) (x2 : Int32) (x3 : Int32) (x4 : Int32) (x5 : Int32) : Option (Int32 × CSt) := (X8_copy (c_D c) x1 x2 x3 x4 x5).map (fun r => (r.1, (c_tape c, c_now c, c_past c, r.2, c_trial c, c_earlier c, c_sets c, c_survey c, c_marriages c, c_finder c)))
set_option maxHeartbeats 1000000 in
theorem wC_copy (l : Launch) {h : aH} {nx : Nat} {c : CSt} {m : Rec} {x1 : Int32} {x2 : Int32} {x3 : Int32} {x4 : Int32} {x5 : Int32} (hw : wAt h nx c m) {r : Int32 × CSt} (hF : stC_copy c x1 x2 x3 x4 x5 = some r) : aOk l 1 0 0 yX8_copy cX8_copy 8 (some .int) [.ref 4, .int x1, .int x2, .int x3, .int x4, .int x5] h nx (fun v h1 nx1 => v = some (.int r.1) ∧ wAt h1 nx1 r.2 m) := by
  obtain ⟨hX, h_tape, h_now, h_past, hD, h_trial, h_earlier, h_sets, h_survey, h_marriages, h_finder, hn, hm⟩ := hw
  subst hn
  obtain ⟨r0, h0, rfl⟩ := Option.map_eq_some_iff.mp hF
  refine (X8_copy_ok l hX hD (r := r0) h0).post (fun v h1 nx1 q => ?_)
  obtain ⟨rfl, rfl, kD, O⟩ := q
  exact ⟨rfl, (O 4 (by omega) (by omega) (by omega)).trans hX, X7_off h_tape (fun q i1 i2 => O q (by omega) (by omega) (by omega)), X2_off h_now (fun q i1 i2 => O q (by omega) (by omega) (by omega)), (X8_copy_D1 _ h0).symm ▸ X4_off h_past (fun q i1 i2 => O q (by omega) (by omega) (by omega)), kD, X2_off h_trial (fun q i1 i2 => O q (by omega) (by omega) (by omega)), X2_off h_earlier (fun q i1 i2 => O q (by omega) (by omega) (by omega)), X0_off h_sets (fun q i1 i2 => O q (by omega) (by omega) (by omega)), X6_off h_survey (fun q i1 i2 => O q (by omega) (by omega) (by omega)), X3_off h_marriages (fun q i1 i2 => O q (by omega) (by omega) (by omega)), X1_off h_finder (fun q i1 i2 => O q (by omega) (by omega) (by omega)), rfl, X9_off hm (fun q i1 i2 => O q (by omega) (by omega) (by omega))⟩
def stM_copy (m : Rec) (x1 : Int32) (x2 : Int32) (x3 : Int32) (x4 : Int32) (x5 : Int32) : Option (Int32 × Rec) := (X9_copy m x1 x2 x3 x4 x5).map (fun r => (r.1, r.2))
theorem wM_copy (l : Launch) {h : aH} {nx : Nat} {c : CSt} {m : Rec} {x1 : Int32} {x2 : Int32} {x3 : Int32} {x4 : Int32} {x5 : Int32} (hw : wAt h nx c m) {r : Int32 × Rec} (hF : stM_copy m x1 x2 x3 x4 x5 = some r) : aOk l 2 0 0 yX9_copy cX9_copy 8 (some .int) [.ref 46, .int x1, .int x2, .int x3, .int x4, .int x5] h nx (fun v h1 nx1 => v = some (.int r.1) ∧ nx1 = nx ∧ wAt h1 nx c r.2) := by
  obtain ⟨hX, h_tape, h_now, h_past, hD, h_trial, h_earlier, h_sets, h_survey, h_marriages, h_finder, hn, hm⟩ := hw
  obtain ⟨r0, h0, rfl⟩ := Option.map_eq_some_iff.mp hF
  refine (X9_copy_ok l hm (r := r0) h0).post (fun v h1 nx1 q => ?_)
  obtain ⟨rfl, rfl, k0, O⟩ := q
  exact ⟨rfl, rfl, (O 4 (by omega)).trans hX, X7_off h_tape (fun q i1 i2 => O q (by omega)), X2_off h_now (fun q i1 i2 => O q (by omega)), X4_off h_past (fun q i1 i2 => O q (by omega)), xD_off hD (fun q i1 => O q (by omega)), X2_off h_trial (fun q i1 i2 => O q (by omega)), X2_off h_earlier (fun q i1 i2 => O q (by omega)), X0_off h_sets (fun q i1 i2 => O q (by omega)), X6_off h_survey (fun q i1 i2 => O q (by omega)), X3_off h_marriages (fun q i1 i2 => O q (by omega)), X1_off h_finder (fun q i1 i2 => O q (by omega)), hn, k0⟩
def stC_film (c : CSt) (x1 : Int32) (x2 : Int32) (x3 : Int32) (x4 : Int32) (x5 : Int32) : Option (Int32 × CSt) := (X8_film (c_D c) (c_now c) (c_trial c) x1 x2 x3 x4 x5).map (fun r => (r.1, (c_tape c, c_now c, c_past c, r.2.2, r.2.1, c_earlier c, c_sets c, c_survey c, c_marriages c, c_finder c)))
set_option maxHeartbeats 1000000 in
theorem wC_film (l : Launch) {h : aH} {nx : Nat} {c : CSt} {m : Rec} {x1 : Int32} {x2 : Int32} {x3 : Int32} {x4 : Int32} {x5 : Int32} (hw : wAt h nx c m) {r : Int32 × CSt} (hF : stC_film c x1 x2 x3 x4 x5 = some r) : aOk l 5 0 0 yX8_film cX8_film 8 (some .int) [.ref 4, .int x1, .int x2, .int x3, .int x4, .int x5] h nx (fun v h1 nx1 => v = some (.int r.1) ∧ wAt h1 nx1 r.2 m) := by
  obtain ⟨hX, h_tape, h_now, h_past, hD, h_trial, h_earlier, h_sets, h_survey, h_marriages, h_finder, hn, hm⟩ := hw
  subst hn
  obtain ⟨r0, h0, rfl⟩ := Option.map_eq_some_iff.mp hF
  refine (X8_film_ok l hX h_now h_trial hD (r := r0) h0).post (fun v h1 nx1 q => ?_)
  obtain ⟨rfl, rfl, k0, kD, O⟩ := q
  exact ⟨rfl, (O 4 (by omega) (by omega) (by omega) (by omega)).trans hX, X7_off h_tape (fun q i1 i2 => O q (by omega) (by omega) (by omega) (by omega)), X2_off h_now (fun q i1 i2 => O q (by omega) (by omega) (by omega) (by omega)), (X8_film_D1 _ h0).symm ▸ X4_off h_past (fun q i1 i2 => O q (by omega) (by omega) (by omega) (by omega)), kD, k0, X2_off h_earlier (fun q i1 i2 => O q (by omega) (by omega) (by omega) (by omega)), X0_off h_sets (fun q i1 i2 => O q (by omega) (by omega) (by omega) (by omega)), X6_off h_survey (fun q i1 i2 => O q (by omega) (by omega) (by omega) (by omega)), X3_off h_marriages (fun q i1 i2 => O q (by omega) (by omega) (by omega) (by omega)), X1_off h_finder (fun q i1 i2 => O q (by omega) (by omega) (by omega) (by omega)), rfl, X9_off hm (fun q i1 i2 => O q (by omega) (by omega) (by omega) (by omega))⟩
def stM_film (m : Rec) (x1 : Int32) (x2 : Int32) (x3 : Int32) (x4 : Int32) (x5 : Int32) : Option (Int32 × Rec) := (X9_film m x1 x2 x3 x4 x5).map (fun r => (r.1, r.2))
theorem wM_film (l : Launch) {h : aH} {nx : Nat} {c : CSt} {m : Rec} {x1 : Int32} {x2 : Int32} {x3 : Int32} {x4 : Int32} {x5 : Int32} (hw : wAt h nx c m) {r : Int32 × Rec} (hF : stM_film m x1 x2 x3 x4 x5 = some r) : aOk l 4 0 0 yX9_film cX9_film 9 (some .int) [.ref 46, .int x1, .int x2, .int x3, .int x4, .int x5] h nx (fun v h1 nx1 => v = some (.int r.1) ∧ nx1 = nx ∧ wAt h1 nx c r.2) := by
  obtain ⟨hX, h_tape, h_now, h_past, hD, h_trial, h_earlier, h_sets, h_survey, h_marriages, h_finder, hn, hm⟩ := hw
  obtain ⟨r0, h0, rfl⟩ := Option.map_eq_some_iff.mp hF
  refine (X9_film_ok l hm (r := r0) h0).post (fun v h1 nx1 q => ?_)
  obtain ⟨rfl, rfl, k0, O⟩ := q
  exact ⟨rfl, rfl, (O 4 (by omega)).trans hX, X7_off h_tape (fun q i1 i2 => O q (by omega)), X2_off h_now (fun q i1 i2 => O q (by omega)), X4_off h_past (fun q i1 i2 => O q (by omega)), xD_off hD (fun q i1 => O q (by omega)), X2_off h_trial (fun q i1 i2 => O q (by omega)), X2_off h_earlier (fun q i1 i2 => O q (by omega)), X0_off h_sets (fun q i1 i2 => O q (by omega)), X6_off h_survey (fun q i1 i2 => O q (by omega)), X3_off h_marriages (fun q i1 i2 => O q (by omega)), X1_off h_finder (fun q i1 i2 => O q (by omega)), hn, k0⟩
def stC_changes (c : CSt) (x1 : Int32) (x2 : Int32) (x3 : Int32) (x4 : Int32) (x5 : Int32) : Option (Int32 × CSt) := (X8_changes (c_D c) (c_finder c) x1 x2 x3 x4 x5).map (fun r => (r.1, (c_tape c, c_now c, c_past c, c_D c, c_trial c, c_earlier c, c_sets c, c_survey c, c_marriages c, r.2)))
set_option maxHeartbeats 1000000 in
theorem wC_changes (l : Launch) {h : aH} {nx : Nat} {c : CSt} {m : Rec} {x1 : Int32} {x2 : Int32} {x3 : Int32} {x4 : Int32} {x5 : Int32} (hw : wAt h nx c m) {r : Int32 × CSt} (hF : stC_changes c x1 x2 x3 x4 x5 = some r) : aOk l 2 0 0 yX8_changes cX8_changes 7 (some .int) [.ref 4, .int x1, .int x2, .int x3, .int x4, .int x5] h nx (fun v h1 nx1 => v = some (.int r.1) ∧ wAt h1 nx1 r.2 m) := by
  obtain ⟨hX, h_tape, h_now, h_past, hD, h_trial, h_earlier, h_sets, h_survey, h_marriages, h_finder, hn, hm⟩ := hw
  subst hn
  obtain ⟨r0, h0, rfl⟩ := Option.map_eq_some_iff.mp hF
  refine (X8_changes_ok l hX h_finder hD (r := r0) h0).post (fun v h1 nx1 q => ?_)
  obtain ⟨rfl, rfl, k0, kD, O⟩ := q
  exact ⟨rfl, (O 4 (by omega) (by omega) (by omega) (by omega)).trans hX, X7_off h_tape (fun q i1 i2 => O q (by omega) (by omega) (by omega) (by omega)), X2_off h_now (fun q i1 i2 => O q (by omega) (by omega) (by omega) (by omega)), X4_off h_past (fun q i1 i2 => O q (by omega) (by omega) (by omega) (by omega)), kD, X2_off h_trial (fun q i1 i2 => O q (by omega) (by omega) (by omega) (by omega)), X2_off h_earlier (fun q i1 i2 => O q (by omega) (by omega) (by omega) (by omega)), X0_off h_sets (fun q i1 i2 => O q (by omega) (by omega) (by omega) (by omega)), X6_off h_survey (fun q i1 i2 => O q (by omega) (by omega) (by omega) (by omega)), X3_off h_marriages (fun q i1 i2 => O q (by omega) (by omega) (by omega) (by omega)), k0, rfl, X9_off hm (fun q i1 i2 => O q (by omega) (by omega) (by omega) (by omega))⟩
def stM_changes (m : Rec) (x1 : Int32) (x2 : Int32) (x3 : Int32) (x4 : Int32) (x5 : Int32) : Option (Int32 × Rec) := (X9_changes m x1 x2 x3 x4 x5).map (fun r => (r.1, r.2))
theorem wM_changes (l : Launch) {h : aH} {nx : Nat} {c : CSt} {m : Rec} {x1 : Int32} {x2 : Int32} {x3 : Int32} {x4 : Int32} {x5 : Int32} (hw : wAt h nx c m) {r : Int32 × Rec} (hF : stM_changes m x1 x2 x3 x4 x5 = some r) : aOk l 2 0 0 yX9_changes cX9_changes 12 (some .int) [.ref 46, .int x1, .int x2, .int x3, .int x4, .int x5] h nx (fun v h1 nx1 => v = some (.int r.1) ∧ nx1 = nx ∧ wAt h1 nx c r.2) := by
  obtain ⟨hX, h_tape, h_now, h_past, hD, h_trial, h_earlier, h_sets, h_survey, h_marriages, h_finder, hn, hm⟩ := hw
  obtain ⟨r0, h0, rfl⟩ := Option.map_eq_some_iff.mp hF
  refine (X9_changes_ok l hm (r := r0) h0).post (fun v h1 nx1 q => ?_)
  obtain ⟨rfl, rfl, k0, O⟩ := q
  exact ⟨rfl, rfl, (O 4 (by omega)).trans hX, X7_off h_tape (fun q i1 i2 => O q (by omega)), X2_off h_now (fun q i1 i2 => O q (by omega)), X4_off h_past (fun q i1 i2 => O q (by omega)), xD_off hD (fun q i1 => O q (by omega)), X2_off h_trial (fun q i1 i2 => O q (by omega)), X2_off h_earlier (fun q i1 i2 => O q (by omega)), X0_off h_sets (fun q i1 i2 => O q (by omega)), X6_off h_survey (fun q i1 i2 => O q (by omega)), X3_off h_marriages (fun q i1 i2 => O q (by omega)), X1_off h_finder (fun q i1 i2 => O q (by omega)), hn, k0⟩
def stC_count (c : CSt) (x1 : Int32) : Option (Int32 × CSt) := (X8_count (c_now c) (c_D c).1 (c_past c) (c_tape c) x1).map (fun r => (r, c))
set_option maxHeartbeats 1000000 in
theorem wC_count (l : Launch) {h : aH} {nx : Nat} {c : CSt} {m : Rec} {x1 : Int32} (hw : wAt h nx c m) {r : Int32 × CSt} (hF : stC_count c x1 = some r) : aOk l 6 0 0 yX8_count cX8_count 2 (some .int) [.ref 4, .int x1] h nx (fun v h1 nx1 => v = some (.int r.1) ∧ wAt h1 nx1 r.2 m) := by
  obtain ⟨hX, h_tape, h_now, h_past, hD, h_trial, h_earlier, h_sets, h_survey, h_marriages, h_finder, hn, hm⟩ := hw
  subst hn
  obtain ⟨r0, h0, rfl⟩ := Option.map_eq_some_iff.mp hF
  refine (X8_count_ok l hX h_now h_past h_tape (r := r0) h0).post (fun v h1 nx1 q => ?_)
  obtain ⟨rfl, rfl, rfl⟩ := q
  exact ⟨rfl, hX, h_tape, h_now, h_past, hD, h_trial, h_earlier, h_sets, h_survey, h_marriages, h_finder, rfl, hm⟩
def stM_count (m : Rec) (x1 : Int32) : Option (Int32 × Rec) := (X9_count m x1).map (fun r => (r, m))
theorem wM_count (l : Launch) {h : aH} {nx : Nat} {c : CSt} {m : Rec} {x1 : Int32} (hw : wAt h nx c m) {r : Int32 × Rec} (hF : stM_count m x1 = some r) : aOk l 4 0 0 yX9_count cX9_count 5 (some .int) [.ref 46, .int x1] h nx (fun v h1 nx1 => v = some (.int r.1) ∧ nx1 = nx ∧ wAt h1 nx c r.2) := by
  obtain ⟨hX, h_tape, h_now, h_past, hD, h_trial, h_earlier, h_sets, h_survey, h_marriages, h_finder, hn, hm⟩ := hw
  obtain ⟨r0, h0, rfl⟩ := Option.map_eq_some_iff.mp hF
  refine (X9_count_ok l hm (r := r0) h0).post (fun v h1 nx1 q => ?_)
  obtain ⟨rfl, rfl, rfl⟩ := q
  exact ⟨rfl, rfl, hX, h_tape, h_now, h_past, hD, h_trial, h_earlier, h_sets, h_survey, h_marriages, h_finder, hn, hm⟩
