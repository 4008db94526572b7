section RQ
noncomputable def rq_takO (old : Option e_O) : e_O := fun g F al st w c K => match al, st with
  | [some (.inr (.inl (some s))), some (.inl m), none, none, none, none, none], [] => (match rq_fw 2 w s with
    | some u => (match rq_fw 11 w u with
      | some _ => bif Nat.beq m 2147483648 then K (.inl (some (.inl 2147483648))) w c else r_old old g F al st w c K
      | none => r_old old g F al st w c K)
    | none => r_old old g F al st w c K)
  | _, _ => r_old old g F al st w c K
theorem rq_takT {old : Option e_O} (h : ∀ o, old = some o → e_Sn 24 0 o) : e_Sn 24 0 (rq_takO old) := by
  intro g hg F al st w c K hM hk
  have ho := r_oldT h g hg F al st w c K hM
  unfold rq_takO at hk
  split at hk
  · next s m =>
    split at hk
    · next u hu =>
      split at hk
      · next p hp =>
        cases hc : Nat.beq m 2147483648 with
        | false => rw [hc, cond_false] at hk; exact ho hk
        | true =>
          rw [hc, cond_true] at hk
          obtain ⟨F1, fr, lo, bx⟩ := F
          have hM1 : F1 = 24 := hM
          subst hM1
          rw [Nat.eq_of_beq_eq_true hc]
          obtain ⟨fs, g1, g2⟩ := rq_fw_t hu
          obtain ⟨us, g3, g4⟩ := rq_fw_t hp
          exact ⟨_, w, c, hk, rq_kOk g1 g2 g3 g4⟩
      · exact ho hk
    · exact ho hk
  · exact ho hk
end RQ
