section RS
theorem r_notT {Post : Tables → Env → Array Value → State → Outcome → State → Prop} (hp : ∀ (o : Outcome) (t : State), r_lim < ((t.heap.toList.drop r_about.heap.size).map (·.slots.size)).sum → ¬ Post start1.p0.tables start1.e0 start1.args0 r_about o t) : ¬ Jvm.D.ArmFor flags0 classFile x code maxLocals ret World_1 tables_1 room_1 Calls_1 rest_1 Pre_1 Post := by
  intro h
  obtain ⟨a1, a2, a3, a4, a5, a6, a7, a8, a9, a10, a11, a12, a13⟩ := r_atStart
  obtain ⟨n, o, h1, h2, h3, h4⟩ := r_falls
  obtain ⟨n', o', g1, g2, g3, g4⟩ := h launch0 rfl a1 a2 start1.p0 start1.e0 a3 a5 a6 r_about ⟨0, 0⟩ start1.args0 Lib.HandBits.below0 a7 a8 a9 a10 ⟨a11, a12, a13⟩
  have hn : n' = n := by
    rcases Nat.lt_trichotomy n' n with q | q | q
    · exact absurd (h1 n' q) g3.not_within
    · exact q
    · exact absurd (g1 n q) h3.not_within
  subst hn
  exact hp _ _ h4.2 g4
theorem r_not : ¬ Claimed_1_1 ∧ ¬ Claimed_1_2 := ⟨r_notT (fun _ _ ht hP => r_no2 rfl ht hP.2), r_notT (fun _ _ ht hP => r_no2 rfl ht hP.2)⟩
theorem r_not_owed : ¬ (Claimed_1_1 ∧ Claimed_1_2) := fun h => r_not.1 h.1
end RS
