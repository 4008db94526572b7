section RQ
/-- a call whose callee's end is known -/
theorem rq_ext {M pc nx pa : Nat} {o : e_O} {F F1 : e_F} {al al1 la : e_A} {st st1 sa : List e_V} {w w1 : e_W} {c c1 : e_Q} {z z1 : e_Z} {wz : e_W} {cz : e_Q} {k2 : e_G → e_K → e_K} (ho : e_Sn M pc o) (hM : F.1 = M) (hx : pa ≠ nx) (hf : ∀ (g : e_G) (K : e_K), o g F al st w c K = g F1 pa la sa w c (k2 g K)) (h1 : e_Ok F1 pa la sa w c z1 w1 c1) (hq : ∀ (g : e_G) (K : e_K), k2 g K z1 w1 c1 = g F nx al1 st1 w1 c1 K) (h2 : e_Ok F nx al1 st1 w1 c1 z wz cz) : e_Ok F pc al st w c z wz cz := by
  classical
  have hg : e_Gd (fun F' pc' al' st' w' c' K => if F' = F ∧ pc' = nx ∧ al' = al1 ∧ st' = st1 ∧ w' = w1 ∧ c' = c1 then K z wz cz else if F' = F1 ∧ pc' = pa ∧ al' = la ∧ st' = sa ∧ w' = w ∧ c' = c then K z1 w1 c1 else false) := by
    intro F' pc' al' st' w' c' K hk
    replace hk : (if F' = F ∧ pc' = nx ∧ al' = al1 ∧ st' = st1 ∧ w' = w1 ∧ c' = c1 then K z wz cz else if F' = F1 ∧ pc' = pa ∧ al' = la ∧ st' = sa ∧ w' = w ∧ c' = c then K z1 w1 c1 else false) = true := hk
    by_cases hc : F' = F ∧ pc' = nx ∧ al' = al1 ∧ st' = st1 ∧ w' = w1 ∧ c' = c1
    · rw [if_pos hc] at hk
      obtain ⟨rfl, rfl, rfl, rfl, rfl, rfl⟩ := hc
      exact ⟨z, wz, cz, hk, h2⟩
    · rw [if_neg hc] at hk
      by_cases hd : F' = F1 ∧ pc' = pa ∧ al' = la ∧ st' = sa ∧ w' = w ∧ c' = c
      · rw [if_pos hd] at hk
        obtain ⟨rfl, rfl, rfl, rfl, rfl, rfl⟩ := hd
        exact ⟨z1, w1, c1, hk, h1⟩
      · rw [if_neg hd] at hk; cases hk
  obtain ⟨z', w', c', hK, hok⟩ := ho _ hg F al st w c (fun z' w' c' => decide (z' = z ∧ w' = wz ∧ c' = cz)) hM (by
    rw [hf]
    show (if F1 = F ∧ pa = nx ∧ la = al1 ∧ sa = st1 ∧ w = w1 ∧ c = c1 then _ else if F1 = F1 ∧ pa = pa ∧ la = la ∧ sa = sa ∧ w = w ∧ c = c then _ else false) = true
    rw [if_neg (fun h => hx h.2.1), if_pos ⟨rfl, rfl, rfl, rfl, rfl, rfl⟩, hq]
    show (if F = F ∧ nx = nx ∧ al1 = al1 ∧ st1 = st1 ∧ w1 = w1 ∧ c1 = c1 then decide (z = z ∧ wz = wz ∧ cz = cz) else _) = true
    rw [if_pos ⟨rfl, rfl, rfl, rfl, rfl, rfl⟩]
    exact decide_eq_true ⟨rfl, rfl, rfl⟩)
  obtain ⟨rfl, rfl, rfl⟩ := of_decide_eq_true hK
  exact hok
/-- the frame ends here -/
theorem rq_end {M pc : Nat} {o : e_O} {F : e_F} {al : e_A} {st : List e_V} {w wz : e_W} {c cz : e_Q} {z : e_Z} (ho : e_Sn M pc o) (hM : F.1 = M) (hf : ∀ (g : e_G) (K : e_K), o g F al st w c K = K z wz cz) : e_Ok F pc al st w c z wz cz := by
  classical
  obtain ⟨z', w', c', hK, hok⟩ := ho (fun _ _ _ _ _ _ _ => false) (fun _ _ _ _ _ _ _ h => absurd h Bool.false_ne_true) F al st w c (fun z' w' c' => decide (z' = z ∧ w' = wz ∧ c' = cz)) hM (by
    rw [hf]
    exact decide_eq_true ⟨rfl, rfl, rfl⟩)
  obtain ⟨rfl, rfl, rfl⟩ := of_decide_eq_true hK
  exact hok
end RQ
