/-! THE START: the witness's own state, with this script in its array -/
section RS
noncomputable def r_cells : Array Value := (r_xs.map Value.int).toArray
noncomputable def r_about : State := start1.aboutOf r_cells
/-- words that read the state's tables alone -/
noncomputable def r_isVm : Cond → Bool
  | .code .. => true
  | .codeSync .. => true
  | .codeWith .. => true
  | .static .. => true
  | .classLink .. => true
  | .methodLink .. => true
  | .fieldLink .. => true
  | .methodLinkNest .. => true
  | .fieldLinkNest .. => true
  | .constant .. => true
  | .constantLong .. => true
  | .stringRef .. => true
  | .initialized .. => true
  | .instantiable .. => true
  | .lays .. => true
  | .laysFinal .. => true
  | .sameField .. => true
  | .sameMethod .. => true
  | .superclass .. => true
  | .soleField .. => true
  | .declares .. => true
  | .interfaceMethod .. => true
  | .interfaceEntry .. => true
  | .publicMethod .. => true
  | .privateMethod .. => true
  | .unhidden .. => true
  | .castable .. => true
  | .instanceMethod .. => true
  | .native .. => true
  | .arrayClass .. => true
  | .arrayOver .. => true
  | .selects .. => true
  | _ => false
theorem r_vmT {a : Array Value} {s t : State} (h : s.vm = t.vm) {c : Cond} (hc : r_isVm c = true) (hs : c.before a s = true) : c.before a t = true := by
  cases s; cases t; cases h
  cases c <;> first | exact Bool.noConfusion hc | exact hs
theorem r_vm0 (a b : Array Value) : (start1.aboutOf a).vm = (start1.aboutOf b).vm := rfl
theorem r_vm : start1.about.vm = r_about.vm := r_vm0 _ _
theorem r_mix {l : List Cond} (h : ∀ c ∈ l, c.before start1.args0 start1.about = true) (h2 : l.all (fun c => r_isVm c || c.before start1.args0 r_about) = true) : ∀ c ∈ l, c.before start1.args0 r_about = true := by
  intro c hc
  have h3 := List.all_eq_true.mp h2 c hc
  cases hq : r_isVm c with
  | true => exact r_vmT r_vm hq (h c hc)
  | false => rw [hq, Bool.false_or] at h3; exact h3
set_option maxRecDepth 16384 in
theorem r_c_1 : tables_1_1.all (fun c => r_isVm c || c.before start1.args0 r_about) = true := by decide +kernel
set_option maxRecDepth 16384 in
theorem r_c_2 : tables_1_2.all (fun c => r_isVm c || c.before start1.args0 r_about) = true := by decide +kernel
set_option maxRecDepth 16384 in
theorem r_c_3 : tables_1_3.all (fun c => r_isVm c || c.before start1.args0 r_about) = true := by decide +kernel
set_option maxRecDepth 16384 in
theorem r_c_4 : tables_1_4.all (fun c => r_isVm c || c.before start1.args0 r_about) = true := by decide +kernel
set_option maxRecDepth 16384 in
theorem r_c_5 : tables_1_5.all (fun c => r_isVm c || c.before start1.args0 r_about) = true := by decide +kernel
set_option maxRecDepth 16384 in
theorem r_c_6 : tables_1_6.all (fun c => r_isVm c || c.before start1.args0 r_about) = true := by decide +kernel
set_option maxRecDepth 16384 in
theorem r_c_7 : tables_1_7.all (fun c => r_isVm c || c.before start1.args0 r_about) = true := by decide +kernel
set_option maxRecDepth 16384 in
theorem r_c_8 : tables_1_8.all (fun c => r_isVm c || c.before start1.args0 r_about) = true := by decide +kernel
set_option maxRecDepth 16384 in
theorem r_c_9 : tables_1_9.all (fun c => r_isVm c || c.before start1.args0 r_about) = true := by decide +kernel
set_option maxRecDepth 16384 in
theorem r_c_10 : tables_1_10.all (fun c => r_isVm c || c.before start1.args0 r_about) = true := by decide +kernel
set_option maxRecDepth 16384 in
theorem r_c_11 : tables_1_11.all (fun c => r_isVm c || c.before start1.args0 r_about) = true := by decide +kernel
set_option maxRecDepth 16384 in
theorem r_c_12 : tables_1_12.all (fun c => r_isVm c || c.before start1.args0 r_about) = true := by decide +kernel
set_option maxRecDepth 16384 in
theorem r_c_13 : tables_1_13.all (fun c => r_isVm c || c.before start1.args0 r_about) = true := by decide +kernel
end RS
