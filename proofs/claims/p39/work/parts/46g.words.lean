section RS
theorem r_app (R : Room) (h : r_about.hasRoom start1.e0.platform R = true) : (Jvm.D.headSpec (Cond.code x code maxLocals ret :: tables_1) R).applies x start1.e0.platform r_about = true :=
  (Spec.applies_iff rfl).mpr ⟨rfl, rfl, rfl, by decide +kernel, by decide +kernel, by decide +kernel, h, atoms_intro r_words⟩
end RS
