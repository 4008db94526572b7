section RQ
noncomputable def r_old (old : Option e_O) : e_O := fun g F al st w c K => match old with
  | some o => o g F al st w c K
  | none => false
theorem r_oldT {M pc : Nat} {old : Option e_O} (h : ∀ o, old = some o → e_Sn M pc o) : e_Sn M pc (r_old old) := by
  intro g hg F al st w c K hM hk
  unfold r_old at hk
  split at hk
  · next o => exact h o rfl g hg F al st w c K hM hk
  · cases hk
end RQ
