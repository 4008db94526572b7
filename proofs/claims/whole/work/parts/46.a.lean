/-! THE START: the witness's own state, with this script in its array -/
section RS
noncomputable def r_cells : Array Value := (r_xs.map Value.int).toArray
noncomputable def r_about : State := start1.aboutOf r_cells
theorem r_codeG {a : Array Value} {s t : State} (h : s.vm = t.vm) (y : MethodName) (b : ByteArray) (m : Nat) (r : Option FieldType) : (Cond.code y b m r).before a s = (Cond.code y b m r).before a t := by
  simp only [Cond.before, Cond.holds, Cond.value, State.methodNamed?, h]
theorem r_codeT {a : Array Value} {s t : State} (h : s.vm = t.vm) {c : Cond} (hc : su_isCode c = true) (hs : c.before a s = true) : c.before a t = true := by
  cases c <;> first | (rw [← r_codeG h]; exact hs) | cases hc | (simp [su_isCode] at hc)
theorem r_vm0 (a b : Array Value) : (start1.aboutOf a).vm = (start1.aboutOf b).vm := rfl
theorem r_vm : start1.about.vm = r_about.vm := r_vm0 _ _
theorem r_mix {l : List Cond} (h : ∀ c ∈ l, c.before start1.args0 start1.about = true) (h2 : l.all (fun c => su_isCode c || c.before start1.args0 r_about) = true) : ∀ c ∈ l, c.before start1.args0 r_about = true := by
  intro c hc
  have h3 := List.all_eq_true.mp h2 c hc
  cases hq : su_isCode c with
  | true => exact r_codeT r_vm hq (h c hc)
  | false => rw [hq, Bool.false_or] at h3; exact h3
theorem r_cut {α : Type} (p : α → Bool) (n : Nat) (l : List α) (h1 : (l.take n).all p = true) (h2 : (l.drop n).all p = true) : l.all p = true := by
  rw [← List.take_append_drop n l, List.all_append, h1, h2]
  rfl
theorem r_dd {α : Type} (m n : Nat) (l : List α) : (l.drop m).drop n = l.drop (m + n) := List.drop_drop
end RS
