section SN
variable {M pc : Nat} {cc : ByteArray}
theorem s_ineg {nx : Nat} (hq : (e_ml[M]?).map (·.2.1) = some cc) (hd : decode cc pc = .ok (.ineg, 1)) (hnx : nx = pc + 1) : e_Sn M pc (o_ineg nx) := by
  intro g hg F al st w c K hM h
  unfold o_ineg at h
  split at h
  · next m9 r =>
    replace h := e_fo_t h
    replace h : g F nx al (.inl ((4294967296 - m9) % 4294967296) :: r) w c K = true := h
    obtain ⟨z, w', c', hK, hok⟩ := hg _ _ _ _ _ _ _ h
    refine ⟨z, w', c', hK, e_step hok ?_⟩
    intro p l e R s m args below meth cd Q ad D tys base nL as0 k0 s0 hC hW
    obtain ⟨hx, hb⟩ := e_cc hM hq hC
    refine e_u1 (fun as x hx9 => ?_) hW
    obtain ⟨h1, rfl⟩ := hx9
    exact ⟨.int (- e_i m9), ⟨Nat.mod_lt _ (by decide), by rw [n_neg h1]⟩, fun H locs cells slots ls ys k => by subst hnx; exact lv_ineg hx hb hd k⟩
  · cases h
theorem s_i2l {nx : Nat} (hq : (e_ml[M]?).map (·.2.1) = some cc) (hd : decode cc pc = .ok (.i2l, 1)) (hnx : nx = pc + 1) : e_Sn M pc (o_i2l nx) := by
  intro g hg F al st w c K hM h
  unfold o_i2l at h
  split at h
  · next m9 r =>
    replace h := e_fo_t h
    replace h : g F nx al (.inr (.inr (.inl (m9 + 9223372034707292160))) :: r) w c K = true := h
    obtain ⟨z, w', c', hK, hok⟩ := hg _ _ _ _ _ _ _ h
    refine ⟨z, w', c', hK, e_step hok ?_⟩
    intro p l e R s m args below meth cd Q ad D tys base nL as0 k0 s0 hC hW
    obtain ⟨hx, hb⟩ := e_cc hM hq hC
    refine e_u1 (fun as x hx9 => ?_) hW
    obtain ⟨h1, rfl⟩ := hx9
    exact ⟨.long (e_l (m9 + 9223372034707292160)), ⟨by omega, rfl⟩, fun H locs cells slots ls ys k => by subst hnx; exact lv_i2l hx hb hd (n_i2l h1) k⟩
  · next lo hi r =>
    replace h := e_fo_t (e_fo_t h)
    replace h : g F nx al (.inr (.inr (.inr (.inr (.inl (lo + 9223372034707292160, hi + 9223372034707292160))))) :: r) w c K = true := h
    obtain ⟨z, w', c', hK, hok⟩ := hg _ _ _ _ _ _ _ h
    refine ⟨z, w', c', hK, e_step hok ?_⟩
    intro p l e R s m args below meth cd Q ad D tys base nL as0 k0 s0 hC hW
    obtain ⟨hx, hb⟩ := e_cc hM hq hC
    refine e_u1 (fun as x hx9 => ?_) hW
    obtain ⟨k9, h1, h2, h3, rfl⟩ := hx9
    dsimp only at h1 h2
    exact ⟨.long (e_l (k9 + 9223372034707292160)), ⟨k9 + 9223372034707292160, by dsimp only; omega, by dsimp only; omega, by omega, rfl⟩, fun H locs cells slots ls ys k => by subst hnx; exact lv_i2l hx hb hd (n_i2l h3) k⟩
  · cases h
theorem s_l2i {nx : Nat} (hq : (e_ml[M]?).map (·.2.1) = some cc) (hd : decode cc pc = .ok (.l2i, 1)) (hnx : nx = pc + 1) : e_Sn M pc (o_l2i nx) := by
  intro g hg F al st w c K hM h
  unfold o_l2i at h
  split at h
  · next m9 r =>
    replace h := e_fo_t h
    replace h : g F nx al (.inl (e_u (e_uL m9 % 4294967296)) :: r) w c K = true := h
    obtain ⟨z, w', c', hK, hok⟩ := hg _ _ _ _ _ _ _ h
    refine ⟨z, w', c', hK, e_step hok ?_⟩
    intro p l e R s m args below meth cd Q ad D tys base nL as0 k0 s0 hC hW
    obtain ⟨hx, hb⟩ := e_cc hM hq hC
    refine e_u1 (fun as x hx9 => ?_) hW
    obtain ⟨h1, rfl⟩ := hx9
    exact ⟨.int (e_i (e_u (e_uL m9 % 4294967296))), ⟨e_u_lt _, rfl⟩, fun H locs cells slots ls ys k => by subst hnx; exact lv_l2i hx hb hd (n_l2i h1) k⟩
  · cases h
theorem s_ladd {nx : Nat} (hq : (e_ml[M]?).map (·.2.1) = some cc) (hd : decode cc pc = .ok (.ladd, 1)) (hnx : nx = pc + 1) : e_Sn M pc (o_ladd nx) := by
  intro g hg F al st w c K hM h
  unfold o_ladd at h
  split at h
  · next n m9 r =>
    replace h := e_fo_t h
    replace h : g F nx al (.inr (.inr (.inl ((m9 + n + 9223372036854775808) % 18446744073709551616))) :: r) w c K = true := h
    obtain ⟨z, w', c', hK, hok⟩ := hg _ _ _ _ _ _ _ h
    refine ⟨z, w', c', hK, e_step hok ?_⟩
    intro p l e R s m args below meth cd Q ad D tys base nL as0 k0 s0 hC hW
    obtain ⟨hx, hb⟩ := e_cc hM hq hC
    exact e_ladd hx hb hd hnx (v_2L (fun h1 h2 => ⟨n_ladd h1 h2, Nat.mod_lt _ (by decide)⟩)) hW
  · cases h
theorem s_lsub {nx : Nat} (hq : (e_ml[M]?).map (·.2.1) = some cc) (hd : decode cc pc = .ok (.lsub, 1)) (hnx : nx = pc + 1) : e_Sn M pc (o_lsub nx) := by
  intro g hg F al st w c K hM h
  unfold o_lsub at h
  split at h
  · next n m9 r =>
    replace h := e_fo_t h
    replace h : g F nx al (.inr (.inr (.inl ((m9 + 27670116110564327424 - n) % 18446744073709551616))) :: r) w c K = true := h
    obtain ⟨z, w', c', hK, hok⟩ := hg _ _ _ _ _ _ _ h
    refine ⟨z, w', c', hK, e_step hok ?_⟩
    intro p l e R s m args below meth cd Q ad D tys base nL as0 k0 s0 hC hW
    obtain ⟨hx, hb⟩ := e_cc hM hq hC
    exact e_lsub hx hb hd hnx (v_2L (fun h1 h2 => ⟨n_lsub h1 h2, Nat.mod_lt _ (by decide)⟩)) hW
  · cases h
theorem s_lmul {nx : Nat} (hq : (e_ml[M]?).map (·.2.1) = some cc) (hd : decode cc pc = .ok (.lmul, 1)) (hnx : nx = pc + 1) : e_Sn M pc (o_lmul nx) := by
  intro g hg F al st w c K hM h
  unfold o_lmul at h
  split at h
  · next n m9 r =>
    replace h := e_fo_t h
    replace h : g F nx al (.inr (.inr (.inl (e_uL (e_uL m9 * e_uL n % 18446744073709551616)))) :: r) w c K = true := h
    obtain ⟨z, w', c', hK, hok⟩ := hg _ _ _ _ _ _ _ h
    refine ⟨z, w', c', hK, e_step hok ?_⟩
    intro p l e R s m args below meth cd Q ad D tys base nL as0 k0 s0 hC hW
    obtain ⟨hx, hb⟩ := e_cc hM hq hC
    exact e_lmul hx hb hd hnx (v_2L (fun h1 h2 => ⟨n_lmul h1 h2, Nat.mod_lt _ (by decide)⟩)) hW
  · cases h
theorem s_ldiv {nx : Nat} (hq : (e_ml[M]?).map (·.2.1) = some cc) (hd : decode cc pc = .ok (.ldiv, 1)) (hnx : nx = pc + 1) : e_Sn M pc (o_ldiv nx) := by
  intro g hg F al st w c K hM h
  unfold o_ldiv at h
  split at h
  · next n m9 r =>
    cases hbc : (Nat.ble 9223372036854775808 m9 && Nat.blt 9223372036854775808 n) with
    | false => rw [hbc, cond_false] at h; cases h
    | true =>
      rw [hbc, cond_true] at h
      obtain ⟨g1, g2⟩ := (Bool.and_eq_true _ _).mp hbc
      replace g1 := Nat.le_of_ble_eq_true g1
      replace g2 : 9223372036854775808 < n := Nat.le_of_ble_eq_true g2
      replace h := e_fo_t h
      replace h : g F nx al (.inr (.inr (.inl ((m9 - 9223372036854775808) / (n - 9223372036854775808) + 9223372036854775808))) :: r) w c K = true := h
      obtain ⟨z, w', c', hK, hok⟩ := hg _ _ _ _ _ _ _ h
      refine ⟨z, w', c', hK, e_step hok ?_⟩
      intro p l e R s m args below meth cd Q ad D tys base nL as0 k0 s0 hC hW
      obtain ⟨hx, hb⟩ := e_cc hM hq hC
      exact e_ldiv hx hb hd hnx (fun as y hy => by obtain ⟨y1, y2⟩ := hy; cases y2; exact n_lne0 y1 g2) (v_2L (fun h1 h2 => ⟨n_ldiv h1 h2 g1 g2, (by have := Nat.div_le_self (m9 - 9223372036854775808) (n - 9223372036854775808); generalize (m9 - 9223372036854775808) / (n - 9223372036854775808) = q at *; omega)⟩)) hW
  · cases h
end SN
