section SN
variable {M pc : Nat} {cc : ByteArray}
theorem s_ishl {nx : Nat} (hq : (e_ml[M]?).map (·.2.1) = some cc) (hd : decode cc pc = .ok (.ishl, 1)) (hnx : nx = pc + 1) : e_Sn M pc (o_ishl nx) := by
  intro g hg F al st w c K hM h
  unfold o_ishl at h
  split at h
  · next n m9 r =>
    replace h := e_fo_t h
    replace h : g F nx al (.inl (e_u (e_u m9 * 2 ^ (e_u n % 32) % 4294967296)) :: r) w c K = true := h
    obtain ⟨z, w', c', hK, hok⟩ := hg _ _ _ _ _ _ _ h
    refine ⟨z, w', c', hK, e_step hok ?_⟩
    intro p l e R s m args below meth cd Q ad D tys base nL as0 k0 s0 hC hW
    obtain ⟨hx, hb⟩ := e_cc hM hq hC
    exact e_ishl hx hb hd hnx (v_2 (fun h1 h2 => ⟨n_shl h1 h2, e_u_lt _⟩)) hW
  · cases h
theorem s_ishr {nx : Nat} (hq : (e_ml[M]?).map (·.2.1) = some cc) (hd : decode cc pc = .ok (.ishr, 1)) (hnx : nx = pc + 1) : e_Sn M pc (o_ishr nx) := by
  intro g hg F al st w c K hM h
  unfold o_ishr at h
  split at h
  · next n m9 r =>
    cases hbc : (Nat.ble 2147483648 m9) with
    | false => rw [hbc, cond_false] at h; cases h
    | true =>
      rw [hbc, cond_true] at h
      replace hbc := Nat.le_of_ble_eq_true hbc
      replace h := e_fo_t h
      replace h : g F nx al (.inl ((m9 - 2147483648) / 2 ^ (e_u n % 32) + 2147483648) :: r) w c K = true := h
      obtain ⟨z, w', c', hK, hok⟩ := hg _ _ _ _ _ _ _ h
      refine ⟨z, w', c', hK, e_step hok ?_⟩
      intro p l e R s m args below meth cd Q ad D tys base nL as0 k0 s0 hC hW
      obtain ⟨hx, hb⟩ := e_cc hM hq hC
      exact e_ishr hx hb hd hnx (v_2 (fun h1 h2 => ⟨n_shr h1 h2 hbc, (by have := Nat.div_le_self (m9 - 2147483648) (2 ^ (e_u n % 32)); generalize (m9 - 2147483648) / 2 ^ (e_u n % 32) = q at *; omega)⟩)) hW
  · cases h
theorem s_iushr {nx : Nat} (hq : (e_ml[M]?).map (·.2.1) = some cc) (hd : decode cc pc = .ok (.iushr, 1)) (hnx : nx = pc + 1) : e_Sn M pc (o_iushr nx) := by
  intro g hg F al st w c K hM h
  unfold o_iushr at h
  split at h
  · next n m9 r =>
    replace h := e_fo_t h
    replace h : g F nx al (.inl (e_u (e_u m9 / 2 ^ (e_u n % 32))) :: r) w c K = true := h
    obtain ⟨z, w', c', hK, hok⟩ := hg _ _ _ _ _ _ _ h
    refine ⟨z, w', c', hK, e_step hok ?_⟩
    intro p l e R s m args below meth cd Q ad D tys base nL as0 k0 s0 hC hW
    obtain ⟨hx, hb⟩ := e_cc hM hq hC
    exact e_iushr hx hb hd hnx (v_2 (fun h1 h2 => ⟨n_ushr h1 h2, e_u_lt _⟩)) hW
  · next b m9 r _ =>
    split at h
    · next q hb' =>
      cases hbc : (Nat.beq m9 2147483648) with
      | false => rw [hbc, cond_false] at h; cases h
      | true =>
        rw [hbc, cond_true] at h
        have hm := Nat.eq_of_beq_eq_true hbc
        obtain ⟨z, w', c', hK, hok⟩ := hg _ _ _ _ _ _ _ h
        refine ⟨z, w', c', hK, e_step hok ?_⟩
        intro p l e R s m args below meth cd Q ad D tys base nL as0 k0 s0 hC hW
        obtain ⟨hx, hb⟩ := e_cc hM hq hC
        exact e_iushr hx hb hd hnx (v_2R (rfl : e_rg (.inl m9) = some (m9, m9)) hb' (fun as k n m1 m2 n1 n2 m3 n3 => by
          dsimp only at m1 m2 n1 n2 ⊢
          obtain rfl : k = 2147483648 := by omega
          refine ⟨by decide, ?_⟩
          rw [n_ushr m3 n3]
          have h5 : e_u 2147483648 = 0 := by decide
          have h6 : e_u 0 = 2147483648 := by decide
          rw [h5, Nat.zero_div, h6])) hW
    · cases h
  · cases h
end SN
