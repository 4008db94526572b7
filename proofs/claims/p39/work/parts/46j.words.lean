section RS
theorem r_atStart : AtStart classFile x code maxLocals ret World_1 tables_1 room_1 Calls_1 rest_1 Pre_1 launch0 start1.p0 start1.e0 r_about ⟨0, 0⟩ start1.args0 Lib.HandBits.below0 :=
  ⟨lists_1, trivial, launch0.admits_env _ _ _, launch0.least_env, fairChoices_fair.cas, fairChoices_fair.clock, rfl, by decide +kernel, by decide +kernel, r_app room_1 r_has1, trivial, r_rest, r_given⟩
theorem r_head {c : Cell} {l : List Cell} : (List.toArray (c :: l))[0]? = some c := by simp
end RS
