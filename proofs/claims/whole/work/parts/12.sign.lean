/-! the place of a sign in one of the two texts -/
/-- the place of the first such sign, counted on from i; -1: none -/
def a_idx (c : Int32) : List Int32 → Int32 → Int32
  | [], _ => -1
  | x :: l, i => if x = c then i else a_idx c l (i + 1)
def a_sgn (t : List Int32) (S0 : Rec) : Option Int32 := (X7_sign S0).bind fun v => if v < 0 then some (-1) else some (a_idx ((v.toUInt32 % 65536).toInt32) t 0)
def X7_signAmong_0 (S0 : Rec) : Option Int32 := a_sgn [112, 98, 110, 114, 104] S0
def X7_signAmong_1 (S0 : Rec) : Option Int32 := a_sgn [97, 101, 105, 111, 117, 45] S0
theorem X7_signAmong_0_ok (l : Launch) {h : aH} {nx : Nat} {a0 : Nat} {S0 : Rec} (hB0 : X7_at h a0 S0) {r : Int32} (hF : X7_signAmong_0 S0 = some r) : aOk l 8 0 0 yX7_signAmong cX7_signAmong 3 (some .int) [.ref a0, .ref 0] h nx (aRd (.int r) h nx) := by
  sorry
theorem X7_signAmong_1_ok (l : Launch) {h : aH} {nx : Nat} {a0 : Nat} {S0 : Rec} (hB0 : X7_at h a0 S0) {r : Int32} (hF : X7_signAmong_1 S0 = some r) : aOk l 8 0 0 yX7_signAmong cX7_signAmong 3 (some .int) [.ref a0, .ref 1] h nx (aRd (.int r) h nx) := by
  sorry
