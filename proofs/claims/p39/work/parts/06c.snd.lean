section SN
/-- THE EVALUATOR IS SOUND, if each row of the tables is -/
theorem e_sound {tab : Nat → e_X} (ht : e_TT tab) : ∀ fuel, e_Gd (e_run tab fuel) := by
  intro fuel
  induction fuel with
  | zero => intro F pc al st w c K h; cases h
  | succ n ih =>
    intro F pc al st w c K h
    have h1 : (match tab F.1 pc with
      | some o => o (e_run tab n) F al st w c K
      | none => false) = true := h
    cases ho : tab F.1 pc with
    | none => rw [ho] at h1; exact absurd (show false = true from h1) Bool.false_ne_true
    | some o => rw [ho] at h1; exact ht F.1 pc o ho _ ih F al st w c K rfl h1
end SN
