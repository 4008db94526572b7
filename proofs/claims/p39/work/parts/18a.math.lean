/-! Math.max, Math.min of known ints -/
noncomputable def o_mmax (nx : Nat) : e_O := fun g F ls st w c K => match st with
  | .inl y :: .inl x :: r => bif Nat.blt 0 F.2.1 && Nat.ble 21 F.2.2.1 && Nat.ble (e_stw r) 8 then (bif Nat.blt x y then g F nx ls (.inl y :: r) w c K else g F nx ls (.inl x :: r) w c K) else false
  | _ => false
noncomputable def o_mmin (nx : Nat) : e_O := fun g F ls st w c K => match st with
  | .inl y :: .inl x :: r => bif Nat.blt 0 F.2.1 && Nat.ble 21 F.2.2.1 && Nat.ble (e_stw r) 8 then (bif Nat.blt y x then g F nx ls (.inl y :: r) w c K else g F nx ls (.inl x :: r) w c K) else false
  | _ => false
section SN
variable {M pc : Nat} {cc : ByteArray}
theorem e_stepM {F : e_F} {pc nx : Nat} {al al' : e_A} {st st' : List e_V} {w w1 w' : e_W} {c c' : e_Q} {z : e_Z} (hok : e_Ok F nx al' st' w1 c z w' c')
    (hrow : ∀ (p : Program) (l : Launch) (e : Env) (R : Room) (s : State) (m : MethodId) (args : Array Value) (below : List Frame) (meth : Method) (cd : Code) (Q : State → Prop) (ad : Nat → Nat) (D : va_G) (tys : List (ClassId × FieldType)) (base nL : Nat) (as0 : List Nat) (k0 s0 : Nat), e_Cx F p l s m args meth cd ad D tys base nL → F.2.1 ≤ R.frames → F.2.2.1 ≤ R.locals → c.2.1 - k0 ≤ R.cells → c.2.2 - s0 ≤ R.slots → e_wg p l e R s m args below meth cd Q ad D tys base nL as0 k0 s0 nx al' st' w1 c → e_wg p l e R s m args below meth cd Q ad D tys base nL as0 k0 s0 pc al st w c) : e_Ok F pc al st w c z w' c' := by
  obtain ⟨h1, h2, h3, h4⟩ := hok
  refine ⟨h1, h2, h3, ?_⟩
  intro p l e R s m args below meth cd Q ad D tys base nL as0 k0 s0 hC hf hl hk hs hc hsl hE
  exact hrow p l e R s m args below meth cd Q ad D tys base nL as0 k0 s0 hC hf hl (by omega) (by omega) (h4 p l e R s m args below meth cd Q ad D tys base nL as0 k0 s0 hC hf hl hk hs hc hsl hE)
theorem s_mmax {nx index : Nat} {own : String} (hq : (e_ml[M]?).map (·.2.1) = some cc) (ho : (e_ml[M]?).map (·.1.cls) = some own) (hl1 : Jvm.Cond.methodLink own index Lib.Math.max.name ∈ lw_tbl) (hl2 : Jvm.Cond.static Lib.Math.max.name ∈ lw_tbl) (hl3 : Jvm.Cond.initialized "java/lang/Math" ∈ lw_tbl) (hl4 : Jvm.Cond.code Lib.Math.max.name Lib.Math.max.code 2 (some .int) ∈ lw_tbl) (hd : decode cc pc = .ok (.invokestatic index, 3)) (hnx : nx = pc + 3) : e_Sn M pc (o_mmax nx) := by
  intro g hg F al st w c K hM h
  unfold o_mmax at h
  split at h
  · next y x r =>
    cases hbc : (Nat.blt 0 F.2.1 && Nat.ble 21 F.2.2.1 && Nat.ble (e_stw r) 8) with
    | false => rw [hbc, cond_false] at h; cases h
    | true =>
      rw [hbc, cond_true] at h
      obtain ⟨g1, g3⟩ := (Bool.and_eq_true _ _).mp hbc
      obtain ⟨g1, g2⟩ := (Bool.and_eq_true _ _).mp g1
      replace g1 : 0 < F.2.1 := Nat.le_of_ble_eq_true g1
      replace g2 := Nat.le_of_ble_eq_true g2
      replace g3 := Nat.le_of_ble_eq_true g3
      have key : ∃ v, g F nx al (v :: r) w c K = true ∧ v = .inl (if x < y then y else x) := by
        cases hb2 : Nat.blt x y with
        | true =>
          rw [hb2, cond_true] at h
          exact ⟨_, h, by rw [if_pos (show x < y from Nat.le_of_ble_eq_true hb2)]⟩
        | false =>
          rw [hb2, cond_false] at h
          exact ⟨_, h, by rw [if_neg (fun q => by rw [show Nat.blt x y = true from Nat.ble_eq_true_of_le q] at hb2; cases hb2)]⟩
      obtain ⟨v, h, hv⟩ := key
      obtain ⟨z, w', c', hK, hok⟩ := hg _ _ _ _ _ _ _ h
      refine ⟨z, w', c', hK, e_stepM hok ?_⟩
      intro p l e R s m args below meth cd Q ad D tys base nL as0 k0 s0 hC hf hl hcc hss hW
      obtain ⟨hx, hb⟩ := e_cc hM hq hC
      intro as ws H locs ls ys hS
      obtain ⟨h1, h2, h3⟩ := hS
      obtain ⟨y1, ys, rfl, hr1, h8⟩ := e_st_cons h2
      obtain ⟨x1, ys, rfl, hr2, h9⟩ := e_st_cons h8
      obtain ⟨i1, rfl⟩ : y < 4294967296 ∧ y1 = .int (e_i y) := hr1
      obtain ⟨i2, rfl⟩ : x < 4294967296 ∧ x1 = .int (e_i x) := hr2
      subst hnx
      have hsz : ls.size = cd.maxLocals := h1.2.choose_spec.1.1.trans (by obtain ⟨-, -, -, -, -, -, -, q9, -, -, r3, -⟩ := hC; exact r3.symm)
      refine va_mmax hx hb hsz.symm (e_own hM ho hC) (e_wd hC hl1 rfl) (e_wd hC hl2 rfl) (e_wd hC hl3 rfl) (e_wd hC hl4 rfl) (by omega) (by rw [e_stw_t h9]; omega) hcc hss hd ?_
      refine hW as ws H locs ls _ ⟨h1, ⟨?_, h9⟩, h3⟩
      subst hv
      have hi : (e_i x < e_i y) ↔ x < y := by
        rw [Int32.lt_iff_toInt_lt, e_i_int (by assumption), e_i_int (by assumption)]
        omega
      by_cases hlt : x < y
      · rw [if_pos hlt, if_pos (hi.mpr hlt)]
        exact ⟨i1, rfl⟩
      · rw [if_neg hlt, if_neg (fun q => hlt (hi.mp q))]
        exact ⟨i2, rfl⟩
  · cases h
theorem s_mmin {nx index : Nat} {own : String} (hq : (e_ml[M]?).map (·.2.1) = some cc) (ho : (e_ml[M]?).map (·.1.cls) = some own) (hl1 : Jvm.Cond.methodLink own index Lib.Math.min.name ∈ lw_tbl) (hl2 : Jvm.Cond.static Lib.Math.min.name ∈ lw_tbl) (hl3 : Jvm.Cond.initialized "java/lang/Math" ∈ lw_tbl) (hl4 : Jvm.Cond.code Lib.Math.min.name Lib.Math.min.code 2 (some .int) ∈ lw_tbl) (hd : decode cc pc = .ok (.invokestatic index, 3)) (hnx : nx = pc + 3) : e_Sn M pc (o_mmin nx) := by
  intro g hg F al st w c K hM h
  unfold o_mmin at h
  split at h
  · next y x r =>
    cases hbc : (Nat.blt 0 F.2.1 && Nat.ble 21 F.2.2.1 && Nat.ble (e_stw r) 8) with
    | false => rw [hbc, cond_false] at h; cases h
    | true =>
      rw [hbc, cond_true] at h
      obtain ⟨g1, g3⟩ := (Bool.and_eq_true _ _).mp hbc
      obtain ⟨g1, g2⟩ := (Bool.and_eq_true _ _).mp g1
      replace g1 : 0 < F.2.1 := Nat.le_of_ble_eq_true g1
      replace g2 := Nat.le_of_ble_eq_true g2
      replace g3 := Nat.le_of_ble_eq_true g3
      have key : ∃ v, g F nx al (v :: r) w c K = true ∧ v = .inl (if y < x then y else x) := by
        cases hb2 : Nat.blt y x with
        | true =>
          rw [hb2, cond_true] at h
          exact ⟨_, h, by rw [if_pos (show y < x from Nat.le_of_ble_eq_true hb2)]⟩
        | false =>
          rw [hb2, cond_false] at h
          exact ⟨_, h, by rw [if_neg (fun q => by rw [show Nat.blt y x = true from Nat.ble_eq_true_of_le q] at hb2; cases hb2)]⟩
      obtain ⟨v, h, hv⟩ := key
      obtain ⟨z, w', c', hK, hok⟩ := hg _ _ _ _ _ _ _ h
      refine ⟨z, w', c', hK, e_stepM hok ?_⟩
      intro p l e R s m args below meth cd Q ad D tys base nL as0 k0 s0 hC hf hl hcc hss hW
      obtain ⟨hx, hb⟩ := e_cc hM hq hC
      intro as ws H locs ls ys hS
      obtain ⟨h1, h2, h3⟩ := hS
      obtain ⟨y1, ys, rfl, hr1, h8⟩ := e_st_cons h2
      obtain ⟨x1, ys, rfl, hr2, h9⟩ := e_st_cons h8
      obtain ⟨i1, rfl⟩ : y < 4294967296 ∧ y1 = .int (e_i y) := hr1
      obtain ⟨i2, rfl⟩ : x < 4294967296 ∧ x1 = .int (e_i x) := hr2
      subst hnx
      have hsz : ls.size = cd.maxLocals := h1.2.choose_spec.1.1.trans (by obtain ⟨-, -, -, -, -, -, -, q9, -, -, r3, -⟩ := hC; exact r3.symm)
      refine va_mmin hx hb hsz.symm (e_own hM ho hC) (e_wd hC hl1 rfl) (e_wd hC hl2 rfl) (e_wd hC hl3 rfl) (e_wd hC hl4 rfl) (by omega) (by rw [e_stw_t h9]; omega) hcc hss hd ?_
      refine hW as ws H locs ls _ ⟨h1, ⟨?_, h9⟩, h3⟩
      subst hv
      have hi : (e_i y < e_i x) ↔ y < x := by
        rw [Int32.lt_iff_toInt_lt, e_i_int (by assumption), e_i_int (by assumption)]
        omega
      by_cases hlt : y < x
      · rw [if_pos hlt, if_pos (hi.mpr hlt)]
        exact ⟨i1, rfl⟩
      · rw [if_neg hlt, if_neg (fun q => hlt (hi.mp q))]
        exact ⟨i2, rfl⟩
  · cases h
end SN
