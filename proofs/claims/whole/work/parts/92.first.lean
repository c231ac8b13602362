/-! at the start both stand for the land of nothing -/
theorem inv_first : Inv c0 m0 := by
  refine ⟨⟨(0, 0, 0, 0, 0, fun _ => 0, fun _ => 0, fun _ => 0, fun _ => 0, fun _ => 0, fun _ => 0), ?_, by decide, ?_, ?_⟩, ⟨0, by decide, rfl, rfl, fun i hi => by omega⟩, ⟨0, 0, by decide, by decide, rfl, rfl, rfl, fun i hi => by omega⟩, fun k hk => Or.inl ⟨rfl, rfl⟩, fun s hs => Or.inl ⟨rfl, ?_⟩⟩
  · exact ⟨Nat.zero_le _, Nat.zero_le _, Nat.zero_le _, Nat.zero_le _, Nat.zero_le _, fun i hi => absurd hi (Nat.not_lt_zero i), fun v hv => by show 0 < 5; omega, fun p hp => by show 0 < 6; omega, fun p hp => Nat.le_refl 0, fun w hw => absurd hw (Nat.not_lt_zero w), fun _ => ⟨rfl, rfl, rfl⟩, fun z => absurd z (Nat.lt_irrefl 0)⟩
  · have e : ∀ c, inC (0, 0, 0, 0, 0, fun _ => 0, fun _ => 0, fun _ => 0, fun _ => 0, fun _ => 0, fun _ => 0) c = false := fun c => by
      show (decide (c / 8 < 0) && decide (c % 8 < 0)) = false
      rw [decide_eq_false (Nat.not_lt_zero _), Bool.false_and]
    refine ⟨rfl, rfl, rfl, rfl, rfl, fun i hi => absurd hi (Nat.not_lt_zero i), fun v hv => rfl, fun s hs c hc => ?_, fun h hh c hc => ?_, fun w hw => absurd hw (Nat.not_lt_zero w)⟩
    · rw [e, Bool.false_and]
      exact tb_0 c
    · rw [e, Bool.false_and]
      exact tb_0 c
  · exact ⟨rfl, rfl, rfl, rfl, rfl, fun i hi => absurd hi (Nat.not_lt_zero i), fun v hv => rfl, fun p hp => rfl, fun p hp => rfl, fun w hw => absurd hw (Nat.not_lt_zero w)⟩
  · rcases (show s = 0 ∨ s = 1 ∨ s = 2 ∨ s = 3 by omega) with rfl | rfl | rfl | rfl <;> rfl
