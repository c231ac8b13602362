/-! open: to be replaced by the pure layer -/
def Inv (c : CSt) (m : Rec) : Prop := True
theorem eq_feed {c : CSt} {m : Rec} (hI : Inv c m) (x1 : Int32) : ∃ (r : Int32) (c1 : CSt) (m1 : Rec), stC_feed c x1 = some (r, c1) ∧ stM_feed m x1 = some (r, m1) ∧ Inv c1 m1 := by
  sorry
theorem eq_land {c : CSt} {m : Rec} (hI : Inv c m) : ∃ (r : Int32) (c1 : CSt) (m1 : Rec), stC_land c = some (r, c1) ∧ stM_land m = some (r, m1) ∧ Inv c1 m1 := by
  sorry
theorem eq_holder {c : CSt} {m : Rec} (hI : Inv c m) (x1 : Int32) (x2 : Int32) : ∃ (r : Int32) (c1 : CSt) (m1 : Rec), stC_holder c x1 x2 = some (r, c1) ∧ stM_holder m x1 x2 = some (r, m1) ∧ Inv c1 m1 := by
  sorry
theorem eq_cell {c : CSt} {m : Rec} (hI : Inv c m) (x1 : Int32) (x2 : Int32) : ∃ (r : Int32) (c1 : CSt) (m1 : Rec), stC_cell c x1 x2 = some (r, c1) ∧ stM_cell m x1 x2 = some (r, m1) ∧ Inv c1 m1 := by
  sorry
theorem eq_word {c : CSt} {m : Rec} (hI : Inv c m) (x1 : Int32) (x2 : Int32) : ∃ (r : Int32) (c1 : CSt) (m1 : Rec), stC_word c x1 x2 = some (r, c1) ∧ stM_word m x1 x2 = some (r, m1) ∧ Inv c1 m1 := by
  sorry
theorem eq_as {c : CSt} {m : Rec} (hI : Inv c m) (x1 : Int32) (x2 : Int32) : ∃ (r : Int32) (c1 : CSt) (m1 : Rec), stC_as c x1 x2 = some (r, c1) ∧ stM_as m x1 x2 = some (r, m1) ∧ Inv c1 m1 := by
  sorry
theorem eq_sell {c : CSt} {m : Rec} (hI : Inv c m) (x1 : Int32) (x2 : Int32) : ∃ (r : Int32) (c1 : CSt) (m1 : Rec), stC_sell c x1 x2 = some (r, c1) ∧ stM_sell m x1 x2 = some (r, m1) ∧ Inv c1 m1 := by
  sorry
theorem eq_plough {c : CSt} {m : Rec} (hI : Inv c m) (x1 : Int32) (x2 : Int32) : ∃ (r : Int32) (c1 : CSt) (m1 : Rec), stC_plough c x1 x2 = some (r, c1) ∧ stM_plough m x1 x2 = some (r, m1) ∧ Inv c1 m1 := by
  sorry
theorem eq_year {c : CSt} {m : Rec} (hI : Inv c m) : ∃ (r : Int32) (c1 : CSt) (m1 : Rec), stC_year c = some (r, c1) ∧ stM_year m = some (r, m1) ∧ Inv c1 m1 := by
  sorry
theorem eq_undo {c : CSt} {m : Rec} (hI : Inv c m) : ∃ (r : Int32) (c1 : CSt) (m1 : Rec), stC_undo c = some (r, c1) ∧ stM_undo m = some (r, m1) ∧ Inv c1 m1 := by
  sorry
theorem eq_image {c : CSt} {m : Rec} (hI : Inv c m) (x1 : Int32) : ∃ (r : Int32) (c1 : CSt) (m1 : Rec), stC_image c x1 = some (r, c1) ∧ stM_image m x1 = some (r, m1) ∧ Inv c1 m1 := by
  sorry
theorem eq_restore {c : CSt} {m : Rec} (hI : Inv c m) (x1 : Int32) : ∃ (r : Int32) (c1 : CSt) (m1 : Rec), stC_restore c x1 = some (r, c1) ∧ stM_restore m x1 = some (r, m1) ∧ Inv c1 m1 := by
  sorry
theorem eq_behind {c : CSt} {m : Rec} (hI : Inv c m) (x1 : Int32) (x2 : Int32) : ∃ (r : Int32) (c1 : CSt) (m1 : Rec), stC_behind c x1 x2 = some (r, c1) ∧ stM_behind m x1 x2 = some (r, m1) ∧ Inv c1 m1 := by
  sorry
theorem eq_first {c : CSt} {m : Rec} (hI : Inv c m) (x1 : Int32) (x2 : Int32) : ∃ (r : Int32) (c1 : CSt) (m1 : Rec), stC_first c x1 x2 = some (r, c1) ∧ stM_first m x1 x2 = some (r, m1) ∧ Inv c1 m1 := by
  sorry
theorem eq_round {c : CSt} {m : Rec} (hI : Inv c m) (x1 : Int32) : ∃ (r : Int32) (c1 : CSt) (m1 : Rec), stC_round c x1 = some (r, c1) ∧ stM_round m x1 = some (r, m1) ∧ Inv c1 m1 := by
  sorry
theorem eq_buys {c : CSt} {m : Rec} (hI : Inv c m) (x1 : Int32) (x2 : Int32) (x3 : Int32) : ∃ (r : Int32) (c1 : CSt) (m1 : Rec), stC_buys c x1 x2 x3 = some (r, c1) ∧ stM_buys m x1 x2 x3 = some (r, m1) ∧ Inv c1 m1 := by
  sorry
theorem eq_scattered {c : CSt} {m : Rec} (hI : Inv c m) (x1 : Int32) (x2 : Int32) : ∃ (r : Int32) (c1 : CSt) (m1 : Rec), stC_scattered c x1 x2 = some (r, c1) ∧ stM_scattered m x1 x2 = some (r, m1) ∧ Inv c1 m1 := by
  sorry
theorem eq_talk {c : CSt} {m : Rec} (hI : Inv c m) (x1 : Int32) (x2 : Int32) : ∃ (r : Int32) (c1 : CSt) (m1 : Rec), stC_talk c x1 x2 = some (r, c1) ∧ stM_talk m x1 x2 = some (r, m1) ∧ Inv c1 m1 := by
  sorry
theorem eq_marry {c : CSt} {m : Rec} (hI : Inv c m) (x1 : Int32) (x2 : Int32) : ∃ (r : Int32) (c1 : CSt) (m1 : Rec), stC_marry c x1 x2 = some (r, c1) ∧ stM_marry m x1 x2 = some (r, m1) ∧ Inv c1 m1 := by
  sorry
theorem eq_letters {c : CSt} {m : Rec} (hI : Inv c m) (x1 : Int32) (x2 : Int32) (x3 : Int32) : ∃ (r : Int32) (c1 : CSt) (m1 : Rec), stC_letters c x1 x2 x3 = some (r, c1) ∧ stM_letters m x1 x2 x3 = some (r, m1) ∧ Inv c1 m1 := by
  sorry
theorem eq_holdings {c : CSt} {m : Rec} (hI : Inv c m) (x1 : Int32) (x2 : Int32) (x3 : Int32) (x4 : Int32) : ∃ (r : Int32) (c1 : CSt) (m1 : Rec), stC_holdings c x1 x2 x3 x4 = some (r, c1) ∧ stM_holdings m x1 x2 x3 x4 = some (r, m1) ∧ Inv c1 m1 := by
  sorry
theorem eq_take {c : CSt} {m : Rec} (hI : Inv c m) (x1 : Int32) (x2 : Int32) (x3 : Int32) : ∃ (r : Int32) (c1 : CSt) (m1 : Rec), stC_take c x1 x2 x3 = some (r, c1) ∧ stM_take m x1 x2 x3 = some (r, m1) ∧ Inv c1 m1 := by
  sorry
theorem eq_chance {c : CSt} {m : Rec} (hI : Inv c m) (x1 : Int32) (x2 : Int32) (x3 : Int32) (x4 : Int32) : ∃ (r : Int32) (c1 : CSt) (m1 : Rec), stC_chance c x1 x2 x3 x4 = some (r, c1) ∧ stM_chance m x1 x2 x3 x4 = some (r, m1) ∧ Inv c1 m1 := by
  sorry
theorem eq_drawn {c : CSt} {m : Rec} (hI : Inv c m) (x1 : Int32) (x2 : Int32) (x3 : Int32) : ∃ (r : Int32) (c1 : CSt) (m1 : Rec), stC_drawn c x1 x2 x3 = some (r, c1) ∧ stM_drawn m x1 x2 x3 = some (r, m1) ∧ Inv c1 m1 := by
  sorry
theorem eq_sheet {c : CSt} {m : Rec} (hI : Inv c m) (x1 : Int32) (x2 : Int32) (x3 : Int32) : ∃ (r : Int32) (c1 : CSt) (m1 : Rec), stC_sheet c x1 x2 x3 = some (r, c1) ∧ stM_sheet m x1 x2 x3 = some (r, m1) ∧ Inv c1 m1 := by
  sorry
theorem eq_drop {c : CSt} {m : Rec} (hI : Inv c m) (x1 : Int32) : ∃ (r : Int32) (c1 : CSt) (m1 : Rec), stC_drop c x1 = some (r, c1) ∧ stM_drop m x1 = some (r, m1) ∧ Inv c1 m1 := by
  sorry
theorem eq_item {c : CSt} {m : Rec} (hI : Inv c m) (x1 : Int32) (x2 : Int32) (x3 : Int32) (y4 : Int64) : ∃ (r : Int64) (c1 : CSt) (m1 : Rec), stC_item c x1 x2 x3 y4 = some (r, c1) ∧ stM_item m x1 x2 x3 y4 = some (r, m1) ∧ Inv c1 m1 := by
  sorry
theorem eq_copy {c : CSt} {m : Rec} (hI : Inv c m) (x1 : Int32) (x2 : Int32) (x3 : Int32) (x4 : Int32) (x5 : Int32) : ∃ (r : Int32) (c1 : CSt) (m1 : Rec), stC_copy c x1 x2 x3 x4 x5 = some (r, c1) ∧ stM_copy m x1 x2 x3 x4 x5 = some (r, m1) ∧ Inv c1 m1 := by
  sorry
theorem eq_film {c : CSt} {m : Rec} (hI : Inv c m) (x1 : Int32) (x2 : Int32) (x3 : Int32) (x4 : Int32) (x5 : Int32) : ∃ (r : Int32) (c1 : CSt) (m1 : Rec), stC_film c x1 x2 x3 x4 x5 = some (r, c1) ∧ stM_film m x1 x2 x3 x4 x5 = some (r, m1) ∧ Inv c1 m1 := by
  sorry
theorem eq_changes {c : CSt} {m : Rec} (hI : Inv c m) (x1 : Int32) (x2 : Int32) (x3 : Int32) (x4 : Int32) (x5 : Int32) : ∃ (r : Int32) (c1 : CSt) (m1 : Rec), stC_changes c x1 x2 x3 x4 x5 = some (r, c1) ∧ stM_changes m x1 x2 x3 x4 x5 = some (r, m1) ∧ Inv c1 m1 := by
  sorry
theorem eq_count {c : CSt} {m : Rec} (hI : Inv c m) (x1 : Int32) : ∃ (r : Int32) (c1 : CSt) (m1 : Rec), stC_count c x1 = some (r, c1) ∧ stM_count m x1 = some (r, m1) ∧ Inv c1 m1 := by
  sorry
