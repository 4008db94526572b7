section RS
set_option maxRecDepth 100000 in
theorem r_cell0 (a : Array Value) : ∃ c : Cell, (start1.aboutOf a).heap[0]? = some c ∧ c.slots = a := by
  first
  | exact ⟨_, r_head, rfl⟩
  | exact ⟨_, rfl, rfl⟩
  | (unfold start1.aboutOf; exact ⟨_, by simp; rfl, rfl⟩)
end RS
