section RQ
/-! CALLS THAT ARE GONE THROUGH AT ONCE, by program -/
/-- one step back -/
theorem r_ext {M pc nx : Nat} {o : e_O} {F : e_F} {al al1 : e_A} {st st1 : List e_V} {w w1 : e_W} {c c1 : e_Q} {z : e_Z} {wz : e_W} {cz : e_Q} (ho : e_Sn M pc o) (hM : F.1 = M) (hf : ∀ (g : e_G) (K : e_K), o g F al st w c K = g F nx al1 st1 w1 c1 K) (h : e_Ok F nx al1 st1 w1 c1 z wz cz) : e_Ok F pc al st w c z wz cz := by
  classical
  have hg : e_Gd (fun F' pc' al' st' w' c' K => if F' = F ∧ pc' = nx ∧ al' = al1 ∧ st' = st1 ∧ w' = w1 ∧ c' = c1 then K z wz cz else false) := by
    intro F' pc' al' st' w' c' K hk
    replace hk : (if F' = F ∧ pc' = nx ∧ al' = al1 ∧ st' = st1 ∧ w' = w1 ∧ c' = c1 then K z wz cz else false) = true := hk
    by_cases hc : F' = F ∧ pc' = nx ∧ al' = al1 ∧ st' = st1 ∧ w' = w1 ∧ c' = c1
    · rw [if_pos hc] at hk
      obtain ⟨rfl, rfl, rfl, rfl, rfl, rfl⟩ := hc
      exact ⟨z, wz, cz, hk, h⟩
    · rw [if_neg hc] at hk; cases hk
  obtain ⟨z', w', c', hK, hok⟩ := ho _ hg F al st w c (fun z' w' c' => decide (z' = z ∧ w' = wz ∧ c' = cz)) hM (by
    rw [hf]
    show (if F = F ∧ nx = nx ∧ al1 = al1 ∧ st1 = st1 ∧ w1 = w1 ∧ c1 = c1 then decide (z = z ∧ wz = wz ∧ cz = cz) else false) = true
    rw [if_pos ⟨rfl, rfl, rfl, rfl, rfl, rfl⟩]
    exact decide_eq_true ⟨rfl, rfl, rfl⟩)
  obtain ⟨rfl, rfl, rfl⟩ := of_decide_eq_true hK
  exact hok
end RQ
