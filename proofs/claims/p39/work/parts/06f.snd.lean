section SN
variable {M pc : Nat} {cc : ByteArray}
theorem s_iload {n nx len : Nat} {i : Instr} (hq : (e_ml[M]?).map (·.2.1) = some cc) (hd : decode cc pc = .ok (i, len)) (hnx : nx = pc + len) (hi : i = .iload n ∧ len = 2 ∨ (∃ k : Fin 4, k.val = n ∧ i = .iload_n k ∧ len = 1)) : e_Sn M pc (o_load e_okI n nx) := by
  intro g hg F al st w c K hM h
  unfold o_load at h
  split at h
  · next v hv =>
    cases ho : e_okI v with
    | false => rw [ho] at h; cases h
    | true =>
      rw [ho] at h
      replace h : g F nx al (v :: st) w c K = true := h
      obtain ⟨z, w', c', hK, hok⟩ := hg _ _ _ _ _ _ _ h
      refine ⟨z, w', c', hK, e_step hok ?_⟩
      intro p l e R s m args below meth cd Q ad D tys base nL as0 k0 s0 hC hW
      obtain ⟨hx, hb⟩ := e_cc hM hq hC
      exact e_iload hx hb hd hnx hi hv ho hW
  · cases h
theorem s_lload {n nx len : Nat} {i : Instr} (hq : (e_ml[M]?).map (·.2.1) = some cc) (hd : decode cc pc = .ok (i, len)) (hnx : nx = pc + len) (hi : i = .lload n ∧ len = 2 ∨ (∃ k : Fin 4, k.val = n ∧ i = .lload_n k ∧ len = 1)) : e_Sn M pc (o_load e_okL n nx) := by
  intro g hg F al st w c K hM h
  unfold o_load at h
  split at h
  · next v hv =>
    cases ho : e_okL v with
    | false => rw [ho] at h; cases h
    | true =>
      rw [ho] at h
      replace h : g F nx al (v :: st) w c K = true := h
      obtain ⟨z, w', c', hK, hok⟩ := hg _ _ _ _ _ _ _ h
      refine ⟨z, w', c', hK, e_step hok ?_⟩
      intro p l e R s m args below meth cd Q ad D tys base nL as0 k0 s0 hC hW
      obtain ⟨hx, hb⟩ := e_cc hM hq hC
      exact e_lload hx hb hd hnx hi hv ho hW
  · cases h
theorem s_aload {n nx len : Nat} {i : Instr} (hq : (e_ml[M]?).map (·.2.1) = some cc) (hd : decode cc pc = .ok (i, len)) (hnx : nx = pc + len) (hi : i = .aload n ∧ len = 2 ∨ (∃ k : Fin 4, k.val = n ∧ i = .aload_n k ∧ len = 1)) : e_Sn M pc (o_load e_okR n nx) := by
  intro g hg F al st w c K hM h
  unfold o_load at h
  split at h
  · next v hv =>
    cases ho : e_okR v with
    | false => rw [ho] at h; cases h
    | true =>
      rw [ho] at h
      replace h : g F nx al (v :: st) w c K = true := h
      obtain ⟨z, w', c', hK, hok⟩ := hg _ _ _ _ _ _ _ h
      refine ⟨z, w', c', hK, e_step hok ?_⟩
      intro p l e R s m args below meth cd Q ad D tys base nL as0 k0 s0 hC hW
      obtain ⟨hx, hb⟩ := e_cc hM hq hC
      exact e_aload hx hb hd hnx hi hv ho hW
  · cases h
theorem s_istore {n nx len : Nat} {i : Instr} (hq : (e_ml[M]?).map (·.2.1) = some cc) (hd : decode cc pc = .ok (i, len)) (hnx : nx = pc + len) (hi : i = .istore n ∧ len = 2 ∨ (∃ k : Fin 4, k.val = n ∧ i = .istore_n k ∧ len = 1)) : e_Sn M pc (o_store e_okI n nx) := by
  intro g hg F al st w c K hM h
  unfold o_store at h
  split at h
  · next v r =>
    cases ho : e_okI v with
    | false => rw [ho] at h; cases h
    | true =>
      rw [ho] at h
      replace h : e_lst (some v) al n (fun ls' => g F nx ls' r w c K) = true := h
      obtain ⟨al', h, e1, e3, e2⟩ := e_lst_t h
      obtain ⟨z, w', c', hK, hok⟩ := hg _ _ _ _ _ _ _ h
      refine ⟨z, w', c', hK, e_step hok ?_⟩
      intro p l e R s m args below meth cd Q ad D tys base nL as0 k0 s0 hC hW
      obtain ⟨hx, hb⟩ := e_cc hM hq hC
      exact e_istore hx hb hd hnx hi ho e1 e3 e2 hW
  · cases h
theorem s_astore {n nx len : Nat} {i : Instr} (hq : (e_ml[M]?).map (·.2.1) = some cc) (hd : decode cc pc = .ok (i, len)) (hnx : nx = pc + len) (hi : i = .astore n ∧ len = 2 ∨ (∃ k : Fin 4, k.val = n ∧ i = .astore_n k ∧ len = 1)) : e_Sn M pc (o_store e_okR n nx) := by
  intro g hg F al st w c K hM h
  unfold o_store at h
  split at h
  · next v r =>
    cases ho : e_okR v with
    | false => rw [ho] at h; cases h
    | true =>
      rw [ho] at h
      replace h : e_lst (some v) al n (fun ls' => g F nx ls' r w c K) = true := h
      obtain ⟨al', h, e1, e3, e2⟩ := e_lst_t h
      obtain ⟨z, w', c', hK, hok⟩ := hg _ _ _ _ _ _ _ h
      refine ⟨z, w', c', hK, e_step hok ?_⟩
      intro p l e R s m args below meth cd Q ad D tys base nL as0 k0 s0 hC hW
      obtain ⟨hx, hb⟩ := e_cc hM hq hC
      exact e_astore hx hb hd hnx hi ho e1 e3 e2 hW
  · cases h
end SN
