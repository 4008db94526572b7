section RS
theorem r_P : lw_P 0 r_xs start1.args0 r_about := by
  obtain ⟨b, xs, hb, hx, hN, hg⟩ := lw_pre_spec (args := start1.args0) (s := r_about) r_given r_rest
  have hb0 : b = 0 := by
    have h1 : (#[Value.ref 0] : Array Value) = #[Value.ref b] := hb
    have h3 : some (Value.ref 0) = some (Value.ref b) := congrArg (fun a : Array Value => a[0]?) h1
    cases h3; rfl
  subst hb0
  have hxs : xs = r_xs := by
    obtain ⟨scr, h1, h2, -, -⟩ := hx
    obtain ⟨h3, -, -, -⟩ := State.arrayAt?_spec h1
    have h4 : ∃ c : Cell, r_about.heap[0]? = some c ∧ c.slots = r_cells := r_cell0 r_cells
    obtain ⟨c, h5, h6⟩ := h4
    obtain rfl : scr = c := Option.some.inj (h3.symm.trans h5)
    rw [h6] at h2
    exact (r_inj h2).symm
  subst hxs
  exact ⟨rfl, hx, hN, hg⟩
end RS
