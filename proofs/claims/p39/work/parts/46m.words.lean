section RS
theorem r_falls : ∃ (n : Nat) (o : Outcome), (∀ k, k < n → Within (stepsAlone start1.p0.tables start1.e0 k r_about) Lib.HandBits.below0) ∧ (stepsAlone start1.p0.tables start1.e0 n r_about).status = Status.running ∧ Ended (stepsAlone start1.p0.tables start1.e0 n r_about) Lib.HandBits.below0 o ∧ r_Q start1.args0 r_about o (stepsAlone start1.p0.tables start1.e0 n r_about) := by
  obtain ⟨n, o, h1, h2, h3, h4⟩ := r_walk launch0 rfl 0 start1.p0 start1.e0 (launch0.admits_env _ _ _) fairChoices_fair.cas fairChoices_fair.clock r_about ⟨0, 0⟩ start1.args0 Lib.HandBits.below0 rfl ((Spec.applies_iff_loose (m := ⟨0, 0⟩) (args := start1.args0) (below := Lib.HandBits.below0) rfl).mp (r_app r_room r_has2)).1 r_P trivial
  exact ⟨n, o, h1, h2, h3, h4⟩
theorem r_no {a : Array Value} {s t : State} {o : Outcome} {L : List Loc} {k n : Nat} (hn : Nat.ble n r_lim = true) (h : r_Q a s o t) : ¬ Framed s o t L k n := by
  rintro ⟨-, -, hs⟩
  exact absurd hs.2.2.2.2.1 (Nat.not_le.mpr (Nat.lt_of_le_of_lt (Nat.le_of_ble_eq_true hn) h.2))
theorem r_refuted : RefutedClaimed_1_1 ∧ RefutedClaimed_1_2 := by
  obtain ⟨n, o, h1, h2, h3, h4⟩ := r_falls
  exact ⟨⟨launch0, start1.p0, start1.e0, r_about, ⟨0, 0⟩, start1.args0, Lib.HandBits.below0, rfl, r_atStart, n, o, h1, h2, h3, fun h => r_no rfl h4 h.2⟩, ⟨launch0, start1.p0, start1.e0, r_about, ⟨0, 0⟩, start1.args0, Lib.HandBits.below0, rfl, r_atStart, n, o, h1, h2, h3, fun h => r_no rfl h4 h.2⟩⟩
/-- so no proof of the owed statement exists -/
theorem r_no2 {s t : State} {o : Outcome} {L : List Loc} {k n : Nat} (hn : Nat.ble n r_lim = true) (h : r_lim < ((t.heap.toList.drop s.heap.size).map (·.slots.size)).sum) : ¬ Framed s o t L k n := by
  rintro ⟨-, -, hs⟩
  exact absurd hs.2.2.2.2.1 (Nat.not_le.mpr (Nat.lt_of_le_of_lt (Nat.le_of_ble_eq_true hn) h))
end RS
