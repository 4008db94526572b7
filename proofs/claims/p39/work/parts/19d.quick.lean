section RQ
noncomputable def r_old (old : Option e_O) : e_O := fun g F al st w c K => match old with
  | some o => o g F al st w c K
  | none => false
theorem r_oldT {M pc : Nat} {old : Option e_O} (h : ∀ o, old = some o → e_Sn M pc o) : e_Sn M pc (r_old old) := by
  cases old with
  | none => intro g hg F al st w c K hM hk; exact absurd (show false = true from hk) Bool.false_ne_true
  | some o => intro g hg F al st w c K hM hk; exact h o rfl g hg F al st w c K hM (show o g F al st w c K = true from hk)
end RQ
