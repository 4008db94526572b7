/-! THE WHOLE WAY, by program -/
section RW
noncomputable def r_lim : Nat := 8900000
noncomputable def r_cm : Nat := 80000
noncomputable def r_sl : Nat := 8980000
noncomputable def r_Kz : e_K := fun z w c => e_okz z && (Nat.ble c.2.1 r_cm && (Nat.ble c.2.2 r_sl && Nat.blt r_lim (r_sm c.1 13 w 0)))
theorem r_way : e_run r_u0 4000000 (e_fl r_bxL) 0 e_al0 [] (e_t0 13) (0, 0, 0) r_Kz = true := by decide +kernel
theorem r_ok : ∃ w' c', c'.2.1 ≤ r_cm ∧ c'.2.2 ≤ r_sl ∧ r_lim < r_sm c'.1 13 w' 0 ∧ e_Ok (e_fl r_bxL) 0 e_al0 [] (e_t0 13) (0, 0, 0) (.inl (some (.inl 2147483649))) w' c' := by
  obtain ⟨z, w', c', h1, h2⟩ := e_sound r_u0T 4000000 _ _ _ _ _ _ _ r_way
  unfold r_Kz at h1
  obtain ⟨g1, h1⟩ := (Bool.and_eq_true _ _).mp h1
  obtain ⟨g2, h1⟩ := (Bool.and_eq_true _ _).mp h1
  obtain ⟨g3, g4⟩ := (Bool.and_eq_true _ _).mp h1
  obtain rfl := e_okz_t g1
  exact ⟨w', c', Nat.le_of_ble_eq_true g2, Nat.le_of_ble_eq_true g3, Nat.le_of_ble_eq_true g4, h2⟩
end RW
