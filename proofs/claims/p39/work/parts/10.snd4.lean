section SN
variable {M pc : Nat} {cc : ByteArray}
theorem e_lt_t {a b : e_V} {t f : Bool} (h : e_lt (e_rg a) (e_rg b) t f = true) : (t = true ∧ ∀ ad as x y, e_rel ad as a x → e_rel ad as b y → ∃ i j, x = .int i ∧ y = .int j ∧ i < j) ∨ (f = true ∧ ∀ ad as x y, e_rel ad as a x → e_rel ad as b y → ∃ i j, x = .int i ∧ y = .int j ∧ ¬ i < j) := by
  unfold e_lt at h
  split at h
  · next l1 h1 l2 h2 ha hb =>
    cases g1 : Nat.blt h1 l2 with
    | true =>
      rw [g1, cond_true] at h
      replace g1 : h1 < l2 := Nat.le_of_ble_eq_true g1
      refine Or.inl ⟨h, fun ad as x y hx hy => ?_⟩
      obtain ⟨i, i1, i2, i3, rfl⟩ := e_rel_rg hx ha
      obtain ⟨j, j1, j2, j3, rfl⟩ := e_rel_rg hy hb
      dsimp only at i1 i2 j1 j2
      exact ⟨_, _, rfl, rfl, (e_i_lt i3 j3).mpr (by omega)⟩
    | false =>
      rw [g1, cond_false] at h
      cases g2 : Nat.ble h2 l1 with
      | true =>
        rw [g2, cond_true] at h
        replace g2 := Nat.le_of_ble_eq_true g2
        refine Or.inr ⟨h, fun ad as x y hx hy => ?_⟩
        obtain ⟨i, i1, i2, i3, rfl⟩ := e_rel_rg hx ha
        obtain ⟨j, j1, j2, j3, rfl⟩ := e_rel_rg hy hb
        dsimp only at i1 i2 j1 j2
        exact ⟨_, _, rfl, rfl, fun q => by have := (e_i_lt i3 j3).mp q; omega⟩
      | false => rw [g2, cond_false] at h; cases h
  · cases h
theorem e_eq_t {a b : e_V} {t f : Bool} (h : e_eq (e_rg a) (e_rg b) t f = true) : (t = true ∧ ∀ ad as x y, e_rel ad as a x → e_rel ad as b y → ∃ i j, x = .int i ∧ y = .int j ∧ i = j) ∨ (f = true ∧ ∀ ad as x y, e_rel ad as a x → e_rel ad as b y → ∃ i j, x = .int i ∧ y = .int j ∧ ¬ i = j) := by
  unfold e_eq at h
  split at h
  · next l1 h1 l2 h2 ha hb =>
    cases g1 : (Nat.blt h1 l2 || Nat.blt h2 l1) with
    | true =>
      rw [g1, cond_true] at h
      have g2 : h1 < l2 ∨ h2 < l1 := by
        rcases (Bool.or_eq_true _ _).mp g1 with q | q
        · exact Or.inl (Nat.le_of_ble_eq_true q)
        · exact Or.inr (Nat.le_of_ble_eq_true q)
      refine Or.inr ⟨h, fun ad as x y hx hy => ?_⟩
      obtain ⟨i, i1, i2, i3, rfl⟩ := e_rel_rg hx ha
      obtain ⟨j, j1, j2, j3, rfl⟩ := e_rel_rg hy hb
      dsimp only at i1 i2 j1 j2
      exact ⟨_, _, rfl, rfl, fun q => by have := (e_i_inj i3 j3).mp q; omega⟩
    | false =>
      rw [g1, cond_false] at h
      cases g2 : (Nat.beq l1 h1 && Nat.beq l2 h2) with
      | true =>
        rw [g2, cond_true] at h
        obtain ⟨g3, g4⟩ := (Bool.and_eq_true _ _).mp g2
        replace g3 := Nat.eq_of_beq_eq_true g3
        replace g4 := Nat.eq_of_beq_eq_true g4
        have g5 := (Bool.or_eq_false_iff.mp g1).1
        have g6 := (Bool.or_eq_false_iff.mp g1).2
        have g7 : ¬ h1 < l2 := fun q => by rw [show Nat.blt h1 l2 = true from Nat.ble_eq_true_of_le q] at g5; cases g5
        have g8 : ¬ h2 < l1 := fun q => by rw [show Nat.blt h2 l1 = true from Nat.ble_eq_true_of_le q] at g6; cases g6
        refine Or.inl ⟨h, fun ad as x y hx hy => ?_⟩
        obtain ⟨i, i1, i2, i3, rfl⟩ := e_rel_rg hx ha
        obtain ⟨j, j1, j2, j3, rfl⟩ := e_rel_rg hy hb
        dsimp only at i1 i2 j1 j2
        exact ⟨_, _, rfl, rfl, (e_i_inj i3 j3).mpr (by omega)⟩
      | false => rw [g2, cond_false] at h; cases h
  · cases h
theorem e_z0 : e_z = e_rg (.inl 2147483648) := rfl
theorem e_zr {ad : Nat → Nat} {as : List Nat} : e_rel ad as (.inl 2147483648) (.int 0) := ⟨by decide, by rw [e_i0]⟩
theorem s_goto {nx : Nat} {off : Int} (hq : (e_ml[M]?).map (·.2.1) = some cc) (hd : decode cc pc = .ok (.goto off, 3)) (ht : (pc : Int) + off = (nx : Int)) : e_Sn M pc (o_goto nx) := by
  intro g hg F al st w c K hM h
  replace h : g F nx al st w c K = true := h
  obtain ⟨z, w', c', hK, hok⟩ := hg _ _ _ _ _ _ _ h
  refine ⟨z, w', c', hK, e_step hok ?_⟩
  intro p l e R s m args below meth cd Q ad D tys base nL as0 k0 s0 hC hW
  obtain ⟨hx, hb⟩ := e_cc hM hq hC
  exact e_pure (st' := st) (fun as ys h2 => ⟨ys, h2, fun H locs cells slots ls k => lv_goto hx hb hd ht k⟩) hW
theorem s_iflt {tg nx : Nat} {off : Int} (hq : (e_ml[M]?).map (·.2.1) = some cc) (hd : decode cc pc = .ok (.ifCond .lt off, 3)) (ht : (pc : Int) + off = (tg : Int)) (hnx : nx = pc + 3) : e_Sn M pc (o_iflt tg nx) := by
  intro g hg F al st w c K hM h
  unfold o_iflt at h
  split at h
  · next v r =>
    rw [e_z0] at h
    rcases e_lt_t (a := v) (b := .inl 2147483648) h with ⟨h, hv⟩ | ⟨h, hv⟩
    · obtain ⟨z, w', c', hK, hok⟩ := hg _ _ _ _ _ _ _ h
      refine ⟨z, w', c', hK, e_step hok ?_⟩
      intro p l e R s m args below meth cd Q ad D tys base nL as0 k0 s0 hC hW
      obtain ⟨hx, hb⟩ := e_cc hM hq hC
      exact e_pure (st' := r) (fun as ys h2 => by
        obtain ⟨x, y, rfl, hx9, h3⟩ := e_st_cons h2
        obtain ⟨i, j, rfl, hj, hlt⟩ := hv ad as x (.int 0) hx9 e_zr
        cases hj
        exact ⟨y, h3, fun H locs cells slots ls k => by exact lv_if_lt hx hb hd ht (fun _ => k) (fun q => absurd hlt q)⟩) hW
    · obtain ⟨z, w', c', hK, hok⟩ := hg _ _ _ _ _ _ _ h
      refine ⟨z, w', c', hK, e_step hok ?_⟩
      intro p l e R s m args below meth cd Q ad D tys base nL as0 k0 s0 hC hW
      obtain ⟨hx, hb⟩ := e_cc hM hq hC
      exact e_pure (st' := r) (fun as ys h2 => by
        obtain ⟨x, y, rfl, hx9, h3⟩ := e_st_cons h2
        obtain ⟨i, j, rfl, hj, hlt⟩ := hv ad as x (.int 0) hx9 e_zr
        cases hj
        exact ⟨y, h3, fun H locs cells slots ls k => by subst hnx; exact lv_if_lt hx hb hd ht (fun q => absurd q hlt) (fun _ => k)⟩) hW
  · cases h
theorem s_ifge {tg nx : Nat} {off : Int} (hq : (e_ml[M]?).map (·.2.1) = some cc) (hd : decode cc pc = .ok (.ifCond .ge off, 3)) (ht : (pc : Int) + off = (tg : Int)) (hnx : nx = pc + 3) : e_Sn M pc (o_iflt nx tg) := by
  intro g hg F al st w c K hM h
  unfold o_iflt at h
  split at h
  · next v r =>
    rw [e_z0] at h
    rcases e_lt_t (a := v) (b := .inl 2147483648) h with ⟨h, hv⟩ | ⟨h, hv⟩
    · obtain ⟨z, w', c', hK, hok⟩ := hg _ _ _ _ _ _ _ h
      refine ⟨z, w', c', hK, e_step hok ?_⟩
      intro p l e R s m args below meth cd Q ad D tys base nL as0 k0 s0 hC hW
      obtain ⟨hx, hb⟩ := e_cc hM hq hC
      exact e_pure (st' := r) (fun as ys h2 => by
        obtain ⟨x, y, rfl, hx9, h3⟩ := e_st_cons h2
        obtain ⟨i, j, rfl, hj, hlt⟩ := hv ad as x (.int 0) hx9 e_zr
        cases hj
        exact ⟨y, h3, fun H locs cells slots ls k => by subst hnx; exact lv_if_ge hx hb hd ht (fun q => absurd hlt (Int32.not_lt.mpr q)) (fun _ => k)⟩) hW
    · obtain ⟨z, w', c', hK, hok⟩ := hg _ _ _ _ _ _ _ h
      refine ⟨z, w', c', hK, e_step hok ?_⟩
      intro p l e R s m args below meth cd Q ad D tys base nL as0 k0 s0 hC hW
      obtain ⟨hx, hb⟩ := e_cc hM hq hC
      exact e_pure (st' := r) (fun as ys h2 => by
        obtain ⟨x, y, rfl, hx9, h3⟩ := e_st_cons h2
        obtain ⟨i, j, rfl, hj, hlt⟩ := hv ad as x (.int 0) hx9 e_zr
        cases hj
        exact ⟨y, h3, fun H locs cells slots ls k => by exact lv_if_ge hx hb hd ht (fun _ => k) (fun q => absurd (Int32.not_lt.mp hlt) q)⟩) hW
  · cases h
theorem s_ifgt {tg nx : Nat} {off : Int} (hq : (e_ml[M]?).map (·.2.1) = some cc) (hd : decode cc pc = .ok (.ifCond .gt off, 3)) (ht : (pc : Int) + off = (tg : Int)) (hnx : nx = pc + 3) : e_Sn M pc (o_ifgt tg nx) := by
  intro g hg F al st w c K hM h
  unfold o_ifgt at h
  split at h
  · next v r =>
    rw [e_z0] at h
    rcases e_lt_t (a := .inl 2147483648) (b := v) h with ⟨h, hv⟩ | ⟨h, hv⟩
    · obtain ⟨z, w', c', hK, hok⟩ := hg _ _ _ _ _ _ _ h
      refine ⟨z, w', c', hK, e_step hok ?_⟩
      intro p l e R s m args below meth cd Q ad D tys base nL as0 k0 s0 hC hW
      obtain ⟨hx, hb⟩ := e_cc hM hq hC
      exact e_pure (st' := r) (fun as ys h2 => by
        obtain ⟨x, y, rfl, hx9, h3⟩ := e_st_cons h2
        obtain ⟨j, i, hj, rfl, hlt⟩ := hv ad as (.int 0) x e_zr hx9
        cases hj
        exact ⟨y, h3, fun H locs cells slots ls k => by exact lv_if_gt hx hb hd ht (fun _ => k) (fun q => absurd hlt q)⟩) hW
    · obtain ⟨z, w', c', hK, hok⟩ := hg _ _ _ _ _ _ _ h
      refine ⟨z, w', c', hK, e_step hok ?_⟩
      intro p l e R s m args below meth cd Q ad D tys base nL as0 k0 s0 hC hW
      obtain ⟨hx, hb⟩ := e_cc hM hq hC
      exact e_pure (st' := r) (fun as ys h2 => by
        obtain ⟨x, y, rfl, hx9, h3⟩ := e_st_cons h2
        obtain ⟨j, i, hj, rfl, hlt⟩ := hv ad as (.int 0) x e_zr hx9
        cases hj
        exact ⟨y, h3, fun H locs cells slots ls k => by subst hnx; exact lv_if_gt hx hb hd ht (fun q => absurd q hlt) (fun _ => k)⟩) hW
  · cases h
theorem s_ifle {tg nx : Nat} {off : Int} (hq : (e_ml[M]?).map (·.2.1) = some cc) (hd : decode cc pc = .ok (.ifCond .le off, 3)) (ht : (pc : Int) + off = (tg : Int)) (hnx : nx = pc + 3) : e_Sn M pc (o_ifgt nx tg) := by
  intro g hg F al st w c K hM h
  unfold o_ifgt at h
  split at h
  · next v r =>
    rw [e_z0] at h
    rcases e_lt_t (a := .inl 2147483648) (b := v) h with ⟨h, hv⟩ | ⟨h, hv⟩
    · obtain ⟨z, w', c', hK, hok⟩ := hg _ _ _ _ _ _ _ h
      refine ⟨z, w', c', hK, e_step hok ?_⟩
      intro p l e R s m args below meth cd Q ad D tys base nL as0 k0 s0 hC hW
      obtain ⟨hx, hb⟩ := e_cc hM hq hC
      exact e_pure (st' := r) (fun as ys h2 => by
        obtain ⟨x, y, rfl, hx9, h3⟩ := e_st_cons h2
        obtain ⟨j, i, hj, rfl, hlt⟩ := hv ad as (.int 0) x e_zr hx9
        cases hj
        exact ⟨y, h3, fun H locs cells slots ls k => by subst hnx; exact lv_if_le hx hb hd ht (fun q => absurd hlt (Int32.not_lt.mpr q)) (fun _ => k)⟩) hW
    · obtain ⟨z, w', c', hK, hok⟩ := hg _ _ _ _ _ _ _ h
      refine ⟨z, w', c', hK, e_step hok ?_⟩
      intro p l e R s m args below meth cd Q ad D tys base nL as0 k0 s0 hC hW
      obtain ⟨hx, hb⟩ := e_cc hM hq hC
      exact e_pure (st' := r) (fun as ys h2 => by
        obtain ⟨x, y, rfl, hx9, h3⟩ := e_st_cons h2
        obtain ⟨j, i, hj, rfl, hlt⟩ := hv ad as (.int 0) x e_zr hx9
        cases hj
        exact ⟨y, h3, fun H locs cells slots ls k => by exact lv_if_le hx hb hd ht (fun _ => k) (fun q => absurd (Int32.not_lt.mp hlt) q)⟩) hW
  · cases h
theorem s_ifeq {tg nx : Nat} {off : Int} (hq : (e_ml[M]?).map (·.2.1) = some cc) (hd : decode cc pc = .ok (.ifCond .eq off, 3)) (ht : (pc : Int) + off = (tg : Int)) (hnx : nx = pc + 3) : e_Sn M pc (o_ifeq tg nx) := by
  intro g hg F al st w c K hM h
  unfold o_ifeq at h
  split at h
  · next v r =>
    rw [e_z0] at h
    rcases e_eq_t (a := v) (b := .inl 2147483648) h with ⟨h, hv⟩ | ⟨h, hv⟩
    · obtain ⟨z, w', c', hK, hok⟩ := hg _ _ _ _ _ _ _ h
      refine ⟨z, w', c', hK, e_step hok ?_⟩
      intro p l e R s m args below meth cd Q ad D tys base nL as0 k0 s0 hC hW
      obtain ⟨hx, hb⟩ := e_cc hM hq hC
      exact e_pure (st' := r) (fun as ys h2 => by
        obtain ⟨x, y, rfl, hx9, h3⟩ := e_st_cons h2
        obtain ⟨i, j, rfl, hj, hlt⟩ := hv ad as x (.int 0) hx9 e_zr
        cases hj
        exact ⟨y, h3, fun H locs cells slots ls k => by exact lv_if_eq hx hb hd ht (fun _ => k) (fun q => absurd hlt q)⟩) hW
    · obtain ⟨z, w', c', hK, hok⟩ := hg _ _ _ _ _ _ _ h
      refine ⟨z, w', c', hK, e_step hok ?_⟩
      intro p l e R s m args below meth cd Q ad D tys base nL as0 k0 s0 hC hW
      obtain ⟨hx, hb⟩ := e_cc hM hq hC
      exact e_pure (st' := r) (fun as ys h2 => by
        obtain ⟨x, y, rfl, hx9, h3⟩ := e_st_cons h2
        obtain ⟨i, j, rfl, hj, hlt⟩ := hv ad as x (.int 0) hx9 e_zr
        cases hj
        exact ⟨y, h3, fun H locs cells slots ls k => by subst hnx; exact lv_if_eq hx hb hd ht (fun q => absurd q hlt) (fun _ => k)⟩) hW
  · cases h
theorem s_ifne {tg nx : Nat} {off : Int} (hq : (e_ml[M]?).map (·.2.1) = some cc) (hd : decode cc pc = .ok (.ifCond .ne off, 3)) (ht : (pc : Int) + off = (tg : Int)) (hnx : nx = pc + 3) : e_Sn M pc (o_ifeq nx tg) := by
  intro g hg F al st w c K hM h
  unfold o_ifeq at h
  split at h
  · next v r =>
    rw [e_z0] at h
    rcases e_eq_t (a := v) (b := .inl 2147483648) h with ⟨h, hv⟩ | ⟨h, hv⟩
    · obtain ⟨z, w', c', hK, hok⟩ := hg _ _ _ _ _ _ _ h
      refine ⟨z, w', c', hK, e_step hok ?_⟩
      intro p l e R s m args below meth cd Q ad D tys base nL as0 k0 s0 hC hW
      obtain ⟨hx, hb⟩ := e_cc hM hq hC
      exact e_pure (st' := r) (fun as ys h2 => by
        obtain ⟨x, y, rfl, hx9, h3⟩ := e_st_cons h2
        obtain ⟨i, j, rfl, hj, hlt⟩ := hv ad as x (.int 0) hx9 e_zr
        cases hj
        exact ⟨y, h3, fun H locs cells slots ls k => by subst hnx; exact lv_if_ne hx hb hd ht (fun q => absurd hlt q) (fun _ => k)⟩) hW
    · obtain ⟨z, w', c', hK, hok⟩ := hg _ _ _ _ _ _ _ h
      refine ⟨z, w', c', hK, e_step hok ?_⟩
      intro p l e R s m args below meth cd Q ad D tys base nL as0 k0 s0 hC hW
      obtain ⟨hx, hb⟩ := e_cc hM hq hC
      exact e_pure (st' := r) (fun as ys h2 => by
        obtain ⟨x, y, rfl, hx9, h3⟩ := e_st_cons h2
        obtain ⟨i, j, rfl, hj, hlt⟩ := hv ad as x (.int 0) hx9 e_zr
        cases hj
        exact ⟨y, h3, fun H locs cells slots ls k => by exact lv_if_ne hx hb hd ht (fun _ => k) (fun q => absurd q hlt)⟩) hW
  · cases h
theorem s_clt {tg nx : Nat} {off : Int} (hq : (e_ml[M]?).map (·.2.1) = some cc) (hd : decode cc pc = .ok (.if_icmp .lt off, 3)) (ht : (pc : Int) + off = (tg : Int)) (hnx : nx = pc + 3) : e_Sn M pc (o_clt tg nx) := by
  intro g hg F al st w c K hM h
  unfold o_clt at h
  split at h
  · next b a r =>
    rcases e_lt_t h with ⟨h, hv⟩ | ⟨h, hv⟩
    · obtain ⟨z, w', c', hK, hok⟩ := hg _ _ _ _ _ _ _ h
      refine ⟨z, w', c', hK, e_step hok ?_⟩
      intro p l e R s m args below meth cd Q ad D tys base nL as0 k0 s0 hC hW
      obtain ⟨hx, hb⟩ := e_cc hM hq hC
      exact e_pure (st' := r) (fun as ys h2 => by
        obtain ⟨y, ys, rfl, hy9, h3⟩ := e_st_cons h2
        obtain ⟨x, ys, rfl, hx9, h4⟩ := e_st_cons h3
        obtain ⟨i, j, rfl, rfl, hlt⟩ := hv ad as x y hx9 hy9
        exact ⟨ys, h4, fun H locs cells slots ls k => by exact lv_icmp_lt hx hb hd ht (fun _ => k) (fun q => absurd hlt q)⟩) hW
    · obtain ⟨z, w', c', hK, hok⟩ := hg _ _ _ _ _ _ _ h
      refine ⟨z, w', c', hK, e_step hok ?_⟩
      intro p l e R s m args below meth cd Q ad D tys base nL as0 k0 s0 hC hW
      obtain ⟨hx, hb⟩ := e_cc hM hq hC
      exact e_pure (st' := r) (fun as ys h2 => by
        obtain ⟨y, ys, rfl, hy9, h3⟩ := e_st_cons h2
        obtain ⟨x, ys, rfl, hx9, h4⟩ := e_st_cons h3
        obtain ⟨i, j, rfl, rfl, hlt⟩ := hv ad as x y hx9 hy9
        exact ⟨ys, h4, fun H locs cells slots ls k => by subst hnx; exact lv_icmp_lt hx hb hd ht (fun q => absurd q hlt) (fun _ => k)⟩) hW
  · cases h
theorem s_cge {tg nx : Nat} {off : Int} (hq : (e_ml[M]?).map (·.2.1) = some cc) (hd : decode cc pc = .ok (.if_icmp .ge off, 3)) (ht : (pc : Int) + off = (tg : Int)) (hnx : nx = pc + 3) : e_Sn M pc (o_clt nx tg) := by
  intro g hg F al st w c K hM h
  unfold o_clt at h
  split at h
  · next b a r =>
    rcases e_lt_t h with ⟨h, hv⟩ | ⟨h, hv⟩
    · obtain ⟨z, w', c', hK, hok⟩ := hg _ _ _ _ _ _ _ h
      refine ⟨z, w', c', hK, e_step hok ?_⟩
      intro p l e R s m args below meth cd Q ad D tys base nL as0 k0 s0 hC hW
      obtain ⟨hx, hb⟩ := e_cc hM hq hC
      exact e_pure (st' := r) (fun as ys h2 => by
        obtain ⟨y, ys, rfl, hy9, h3⟩ := e_st_cons h2
        obtain ⟨x, ys, rfl, hx9, h4⟩ := e_st_cons h3
        obtain ⟨i, j, rfl, rfl, hlt⟩ := hv ad as x y hx9 hy9
        exact ⟨ys, h4, fun H locs cells slots ls k => by subst hnx; exact lv_icmp_ge hx hb hd ht (fun q => absurd hlt (Int32.not_lt.mpr q)) (fun _ => k)⟩) hW
    · obtain ⟨z, w', c', hK, hok⟩ := hg _ _ _ _ _ _ _ h
      refine ⟨z, w', c', hK, e_step hok ?_⟩
      intro p l e R s m args below meth cd Q ad D tys base nL as0 k0 s0 hC hW
      obtain ⟨hx, hb⟩ := e_cc hM hq hC
      exact e_pure (st' := r) (fun as ys h2 => by
        obtain ⟨y, ys, rfl, hy9, h3⟩ := e_st_cons h2
        obtain ⟨x, ys, rfl, hx9, h4⟩ := e_st_cons h3
        obtain ⟨i, j, rfl, rfl, hlt⟩ := hv ad as x y hx9 hy9
        exact ⟨ys, h4, fun H locs cells slots ls k => by exact lv_icmp_ge hx hb hd ht (fun _ => k) (fun q => absurd (Int32.not_lt.mp hlt) q)⟩) hW
  · cases h
theorem s_cgt {tg nx : Nat} {off : Int} (hq : (e_ml[M]?).map (·.2.1) = some cc) (hd : decode cc pc = .ok (.if_icmp .gt off, 3)) (ht : (pc : Int) + off = (tg : Int)) (hnx : nx = pc + 3) : e_Sn M pc (o_cgt tg nx) := by
  intro g hg F al st w c K hM h
  unfold o_cgt at h
  split at h
  · next b a r =>
    rcases e_lt_t h with ⟨h, hv⟩ | ⟨h, hv⟩
    · obtain ⟨z, w', c', hK, hok⟩ := hg _ _ _ _ _ _ _ h
      refine ⟨z, w', c', hK, e_step hok ?_⟩
      intro p l e R s m args below meth cd Q ad D tys base nL as0 k0 s0 hC hW
      obtain ⟨hx, hb⟩ := e_cc hM hq hC
      exact e_pure (st' := r) (fun as ys h2 => by
        obtain ⟨y, ys, rfl, hy9, h3⟩ := e_st_cons h2
        obtain ⟨x, ys, rfl, hx9, h4⟩ := e_st_cons h3
        obtain ⟨j, i, rfl, rfl, hlt⟩ := hv ad as y x hy9 hx9
        exact ⟨ys, h4, fun H locs cells slots ls k => by exact lv_icmp_gt hx hb hd ht (fun _ => k) (fun q => absurd hlt q)⟩) hW
    · obtain ⟨z, w', c', hK, hok⟩ := hg _ _ _ _ _ _ _ h
      refine ⟨z, w', c', hK, e_step hok ?_⟩
      intro p l e R s m args below meth cd Q ad D tys base nL as0 k0 s0 hC hW
      obtain ⟨hx, hb⟩ := e_cc hM hq hC
      exact e_pure (st' := r) (fun as ys h2 => by
        obtain ⟨y, ys, rfl, hy9, h3⟩ := e_st_cons h2
        obtain ⟨x, ys, rfl, hx9, h4⟩ := e_st_cons h3
        obtain ⟨j, i, rfl, rfl, hlt⟩ := hv ad as y x hy9 hx9
        exact ⟨ys, h4, fun H locs cells slots ls k => by subst hnx; exact lv_icmp_gt hx hb hd ht (fun q => absurd q hlt) (fun _ => k)⟩) hW
  · cases h
theorem s_cle {tg nx : Nat} {off : Int} (hq : (e_ml[M]?).map (·.2.1) = some cc) (hd : decode cc pc = .ok (.if_icmp .le off, 3)) (ht : (pc : Int) + off = (tg : Int)) (hnx : nx = pc + 3) : e_Sn M pc (o_cgt nx tg) := by
  intro g hg F al st w c K hM h
  unfold o_cgt at h
  split at h
  · next b a r =>
    rcases e_lt_t h with ⟨h, hv⟩ | ⟨h, hv⟩
    · obtain ⟨z, w', c', hK, hok⟩ := hg _ _ _ _ _ _ _ h
      refine ⟨z, w', c', hK, e_step hok ?_⟩
      intro p l e R s m args below meth cd Q ad D tys base nL as0 k0 s0 hC hW
      obtain ⟨hx, hb⟩ := e_cc hM hq hC
      exact e_pure (st' := r) (fun as ys h2 => by
        obtain ⟨y, ys, rfl, hy9, h3⟩ := e_st_cons h2
        obtain ⟨x, ys, rfl, hx9, h4⟩ := e_st_cons h3
        obtain ⟨j, i, rfl, rfl, hlt⟩ := hv ad as y x hy9 hx9
        exact ⟨ys, h4, fun H locs cells slots ls k => by subst hnx; exact lv_icmp_le hx hb hd ht (fun q => absurd hlt (Int32.not_lt.mpr q)) (fun _ => k)⟩) hW
    · obtain ⟨z, w', c', hK, hok⟩ := hg _ _ _ _ _ _ _ h
      refine ⟨z, w', c', hK, e_step hok ?_⟩
      intro p l e R s m args below meth cd Q ad D tys base nL as0 k0 s0 hC hW
      obtain ⟨hx, hb⟩ := e_cc hM hq hC
      exact e_pure (st' := r) (fun as ys h2 => by
        obtain ⟨y, ys, rfl, hy9, h3⟩ := e_st_cons h2
        obtain ⟨x, ys, rfl, hx9, h4⟩ := e_st_cons h3
        obtain ⟨j, i, rfl, rfl, hlt⟩ := hv ad as y x hy9 hx9
        exact ⟨ys, h4, fun H locs cells slots ls k => by exact lv_icmp_le hx hb hd ht (fun _ => k) (fun q => absurd (Int32.not_lt.mp hlt) q)⟩) hW
  · cases h
theorem s_ceq {tg nx : Nat} {off : Int} (hq : (e_ml[M]?).map (·.2.1) = some cc) (hd : decode cc pc = .ok (.if_icmp .eq off, 3)) (ht : (pc : Int) + off = (tg : Int)) (hnx : nx = pc + 3) : e_Sn M pc (o_ceq tg nx) := by
  intro g hg F al st w c K hM h
  unfold o_ceq at h
  split at h
  · next b a r =>
    rcases e_eq_t h with ⟨h, hv⟩ | ⟨h, hv⟩
    · obtain ⟨z, w', c', hK, hok⟩ := hg _ _ _ _ _ _ _ h
      refine ⟨z, w', c', hK, e_step hok ?_⟩
      intro p l e R s m args below meth cd Q ad D tys base nL as0 k0 s0 hC hW
      obtain ⟨hx, hb⟩ := e_cc hM hq hC
      exact e_pure (st' := r) (fun as ys h2 => by
        obtain ⟨y, ys, rfl, hy9, h3⟩ := e_st_cons h2
        obtain ⟨x, ys, rfl, hx9, h4⟩ := e_st_cons h3
        obtain ⟨i, j, rfl, rfl, hlt⟩ := hv ad as x y hx9 hy9
        exact ⟨ys, h4, fun H locs cells slots ls k => by exact lv_icmp_eq hx hb hd ht (fun _ => k) (fun q => absurd hlt q)⟩) hW
    · obtain ⟨z, w', c', hK, hok⟩ := hg _ _ _ _ _ _ _ h
      refine ⟨z, w', c', hK, e_step hok ?_⟩
      intro p l e R s m args below meth cd Q ad D tys base nL as0 k0 s0 hC hW
      obtain ⟨hx, hb⟩ := e_cc hM hq hC
      exact e_pure (st' := r) (fun as ys h2 => by
        obtain ⟨y, ys, rfl, hy9, h3⟩ := e_st_cons h2
        obtain ⟨x, ys, rfl, hx9, h4⟩ := e_st_cons h3
        obtain ⟨i, j, rfl, rfl, hlt⟩ := hv ad as x y hx9 hy9
        exact ⟨ys, h4, fun H locs cells slots ls k => by subst hnx; exact lv_icmp_eq hx hb hd ht (fun q => absurd q hlt) (fun _ => k)⟩) hW
  · cases h
theorem s_cne {tg nx : Nat} {off : Int} (hq : (e_ml[M]?).map (·.2.1) = some cc) (hd : decode cc pc = .ok (.if_icmp .ne off, 3)) (ht : (pc : Int) + off = (tg : Int)) (hnx : nx = pc + 3) : e_Sn M pc (o_ceq nx tg) := by
  intro g hg F al st w c K hM h
  unfold o_ceq at h
  split at h
  · next b a r =>
    rcases e_eq_t h with ⟨h, hv⟩ | ⟨h, hv⟩
    · obtain ⟨z, w', c', hK, hok⟩ := hg _ _ _ _ _ _ _ h
      refine ⟨z, w', c', hK, e_step hok ?_⟩
      intro p l e R s m args below meth cd Q ad D tys base nL as0 k0 s0 hC hW
      obtain ⟨hx, hb⟩ := e_cc hM hq hC
      exact e_pure (st' := r) (fun as ys h2 => by
        obtain ⟨y, ys, rfl, hy9, h3⟩ := e_st_cons h2
        obtain ⟨x, ys, rfl, hx9, h4⟩ := e_st_cons h3
        obtain ⟨i, j, rfl, rfl, hlt⟩ := hv ad as x y hx9 hy9
        exact ⟨ys, h4, fun H locs cells slots ls k => by subst hnx; exact lv_icmp_ne hx hb hd ht (fun q => absurd hlt q) (fun _ => k)⟩) hW
    · obtain ⟨z, w', c', hK, hok⟩ := hg _ _ _ _ _ _ _ h
      refine ⟨z, w', c', hK, e_step hok ?_⟩
      intro p l e R s m args below meth cd Q ad D tys base nL as0 k0 s0 hC hW
      obtain ⟨hx, hb⟩ := e_cc hM hq hC
      exact e_pure (st' := r) (fun as ys h2 => by
        obtain ⟨y, ys, rfl, hy9, h3⟩ := e_st_cons h2
        obtain ⟨x, ys, rfl, hx9, h4⟩ := e_st_cons h3
        obtain ⟨i, j, rfl, rfl, hlt⟩ := hv ad as x y hx9 hy9
        exact ⟨ys, h4, fun H locs cells slots ls k => by exact lv_icmp_ne hx hb hd ht (fun _ => k) (fun q => absurd q hlt)⟩) hW
  · cases h
theorem s_ifnull {tg nx : Nat} {off : Int} (hq : (e_ml[M]?).map (·.2.1) = some cc) (hd : decode cc pc = .ok (.ifnull off, 3)) (ht : (pc : Int) + off = (tg : Int)) (hnx : nx = pc + 3) : e_Sn M pc (o_null tg nx) := by
  intro g hg F al st w c K hM h
  unfold o_null at h
  split at h
  · next i r =>
    obtain ⟨z, w', c', hK, hok⟩ := hg _ _ _ _ _ _ _ h
    refine ⟨z, w', c', hK, e_step hok ?_⟩
    intro p l e R s m args below meth cd Q ad D tys base nL as0 k0 s0 hC hW
    obtain ⟨hx, hb⟩ := e_cc hM hq hC
    exact e_pure (st' := r) (fun as ys h2 => by
      obtain ⟨x, y, rfl, ⟨a, -, rfl⟩, h3⟩ := e_st_cons h2
      exact ⟨y, h3, fun H locs cells slots ls k => by subst hnx; exact lv_ifnull hx hb hd k⟩) hW
  · next r =>
    obtain ⟨z, w', c', hK, hok⟩ := hg _ _ _ _ _ _ _ h
    refine ⟨z, w', c', hK, e_step hok ?_⟩
    intro p l e R s m args below meth cd Q ad D tys base nL as0 k0 s0 hC hW
    obtain ⟨hx, hb⟩ := e_cc hM hq hC
    exact e_pure (st' := r) (fun as ys h2 => by
      obtain ⟨x, y, rfl, hx9, h3⟩ := e_st_cons h2
      cases (show x = .null from hx9)
      exact ⟨y, h3, fun H locs cells slots ls k => by exact lv_ifnullN hx hb hd ht k⟩) hW
  · cases h
theorem s_ifnonnull {tg nx : Nat} {off : Int} (hq : (e_ml[M]?).map (·.2.1) = some cc) (hd : decode cc pc = .ok (.ifnonnull off, 3)) (ht : (pc : Int) + off = (tg : Int)) (hnx : nx = pc + 3) : e_Sn M pc (o_null nx tg) := by
  intro g hg F al st w c K hM h
  unfold o_null at h
  split at h
  · next i r =>
    obtain ⟨z, w', c', hK, hok⟩ := hg _ _ _ _ _ _ _ h
    refine ⟨z, w', c', hK, e_step hok ?_⟩
    intro p l e R s m args below meth cd Q ad D tys base nL as0 k0 s0 hC hW
    obtain ⟨hx, hb⟩ := e_cc hM hq hC
    exact e_pure (st' := r) (fun as ys h2 => by
      obtain ⟨x, y, rfl, ⟨a, -, rfl⟩, h3⟩ := e_st_cons h2
      exact ⟨y, h3, fun H locs cells slots ls k => by exact lv_ifnonnull hx hb hd ht k⟩) hW
  · next r =>
    obtain ⟨z, w', c', hK, hok⟩ := hg _ _ _ _ _ _ _ h
    refine ⟨z, w', c', hK, e_step hok ?_⟩
    intro p l e R s m args below meth cd Q ad D tys base nL as0 k0 s0 hC hW
    obtain ⟨hx, hb⟩ := e_cc hM hq hC
    exact e_pure (st' := r) (fun as ys h2 => by
      obtain ⟨x, y, rfl, hx9, h3⟩ := e_st_cons h2
      cases (show x = .null from hx9)
      exact ⟨y, h3, fun H locs cells slots ls k => by subst hnx; exact lv_ifnonnullN hx hb hd k⟩) hW
  · cases h
theorem s_acmpeq {tg nx : Nat} {off : Int} (hq : (e_ml[M]?).map (·.2.1) = some cc) (hd : decode cc pc = .ok (.if_acmp .eq off, 3)) (ht : (pc : Int) + off = (tg : Int)) (hnx : nx = pc + 3) : e_Sn M pc (o_acmp tg nx) := by
  intro g hg F al st w c K hM h
  unfold o_acmp at h
  split at h
  · next b a r =>
    cases hbc : Nat.beq a b with
    | false => rw [hbc, cond_false] at h; cases h
    | true =>
      rw [hbc, cond_true] at h
      cases Nat.eq_of_beq_eq_true hbc
      obtain ⟨z, w', c', hK, hok⟩ := hg _ _ _ _ _ _ _ h
      refine ⟨z, w', c', hK, e_step hok ?_⟩
      intro p l e R s m args below meth cd Q ad D tys base nL as0 k0 s0 hC hW
      obtain ⟨hx, hb⟩ := e_cc hM hq hC
      exact e_pure (st' := r) (fun as ys h2 => by
        obtain ⟨y, ys, rfl, hy9, h3⟩ := e_st_cons h2
        obtain ⟨x, ys, rfl, hx9, h4⟩ := e_st_cons h3
        cases (show x = .ref (ad b) from hx9)
        cases (show y = .ref (ad b) from hy9)
        exact ⟨ys, h4, fun H locs cells slots ls k => by subst hnx; exact lv_acmp_eq (rx := some (ad b)) (ry := some (ad b)) hx hb hd ht (fun _ => k) (fun q => absurd rfl q)⟩) hW
  · cases h
theorem s_acmpne {tg nx : Nat} {off : Int} (hq : (e_ml[M]?).map (·.2.1) = some cc) (hd : decode cc pc = .ok (.if_acmp .ne off, 3)) (ht : (pc : Int) + off = (tg : Int)) (hnx : nx = pc + 3) : e_Sn M pc (o_acmp nx tg) := by
  intro g hg F al st w c K hM h
  unfold o_acmp at h
  split at h
  · next b a r =>
    cases hbc : Nat.beq a b with
    | false => rw [hbc, cond_false] at h; cases h
    | true =>
      rw [hbc, cond_true] at h
      cases Nat.eq_of_beq_eq_true hbc
      obtain ⟨z, w', c', hK, hok⟩ := hg _ _ _ _ _ _ _ h
      refine ⟨z, w', c', hK, e_step hok ?_⟩
      intro p l e R s m args below meth cd Q ad D tys base nL as0 k0 s0 hC hW
      obtain ⟨hx, hb⟩ := e_cc hM hq hC
      exact e_pure (st' := r) (fun as ys h2 => by
        obtain ⟨y, ys, rfl, hy9, h3⟩ := e_st_cons h2
        obtain ⟨x, ys, rfl, hx9, h4⟩ := e_st_cons h3
        cases (show x = .ref (ad b) from hx9)
        cases (show y = .ref (ad b) from hy9)
        exact ⟨ys, h4, fun H locs cells slots ls k => by subst hnx; exact lv_acmp_ne (rx := some (ad b)) (ry := some (ad b)) hx hb hd ht (fun q => absurd rfl q) (fun _ => k)⟩) hW
  · cases h
theorem e_tgt_t {ts : List Nat} : ∀ {n i t : Nat}, e_tgt ts i n = some t → ∀ j, i ≤ j → j ≤ i + n → ts[j]? = some t
  | 0, i, t, h, j, h1, h2 => by
    obtain rfl : i = j := by omega
    rw [← e_nth_eq]; exact h
  | n + 1, i, t, h, j, h1, h2 => by
    unfold e_tgt at h
    split at h
    · next a b ha hb =>
      cases hbc : Nat.beq a b with
      | false => rw [hbc, cond_false] at h; cases h
      | true =>
        rw [hbc, cond_true] at h
        cases h
        by_cases hj : j = i + n + 1
        · subst hj
          rw [← e_nth_eq, ha, Nat.eq_of_beq_eq_true hbc]
        · exact e_tgt_t hb j h1 (by omega)
    · cases h
theorem s_switch {lo d len : Nat} {ts : List Nat} {dflt low hi : Int} {offs : Array Int} (hq : (e_ml[M]?).map (·.2.1) = some cc) (hd : decode cc pc = .ok (.tableswitch dflt low hi offs, len)) (hlo : (lo : Int) = low + 2147483648) (hhi : hi = low + ts.length - 1) (hdf : (pc : Int) + dflt = (d : Int)) (hts : offs.toList.map (fun o => (pc : Int) + o) = ts.map (fun t : Nat => (t : Int))) : e_Sn M pc (o_switch lo ts d) := by
  intro g hg F al st w c K hM h
  unfold o_switch at h
  split at h
  · next a r =>
    split at h
    · next l1 h1 ha =>
      cases g1 : Nat.blt h1 lo with
      | true =>
        rw [g1, cond_true] at h
        replace g1 : h1 < lo := Nat.le_of_ble_eq_true g1
        obtain ⟨z, w', c', hK, hok⟩ := hg _ _ _ _ _ _ _ h
        refine ⟨z, w', c', hK, e_step hok ?_⟩
        intro p l e R s m args below meth cd Q ad D tys base nL as0 k0 s0 hC hW
        obtain ⟨hx, hb⟩ := e_cc hM hq hC
        exact e_pure (st' := r) (fun as ys h2 => by
          obtain ⟨x, y, rfl, hx9, h3⟩ := e_st_cons h2
          obtain ⟨i, i1, i2, i3, rfl⟩ := e_rel_rg hx9 ha
          dsimp only at i1 i2
          exact ⟨y, h3, fun H locs cells slots ls k => lv_tableOut hx hb hd (Or.inl (by rw [e_i_int i3]; omega)) hdf k⟩) hW
      | false =>
        rw [g1, cond_false] at h
        cases g2 : Nat.ble (lo + ts.length) l1 with
        | true =>
          rw [g2, cond_true] at h
          replace g2 := Nat.le_of_ble_eq_true g2
          obtain ⟨z, w', c', hK, hok⟩ := hg _ _ _ _ _ _ _ h
          refine ⟨z, w', c', hK, e_step hok ?_⟩
          intro p l e R s m args below meth cd Q ad D tys base nL as0 k0 s0 hC hW
          obtain ⟨hx, hb⟩ := e_cc hM hq hC
          exact e_pure (st' := r) (fun as ys h2 => by
            obtain ⟨x, y, rfl, hx9, h3⟩ := e_st_cons h2
            obtain ⟨i, i1, i2, i3, rfl⟩ := e_rel_rg hx9 ha
            dsimp only at i1 i2
            exact ⟨y, h3, fun H locs cells slots ls k => lv_tableOut hx hb hd (Or.inr (by rw [e_i_int i3]; omega)) hdf k⟩) hW
        | false =>
          rw [g2, cond_false] at h
          cases g3 : (Nat.ble lo l1 && Nat.blt h1 (lo + ts.length)) with
          | false => rw [g3, cond_false] at h; cases h
          | true =>
            rw [g3, cond_true] at h
            obtain ⟨g4, g5⟩ := (Bool.and_eq_true _ _).mp g3
            replace g4 := Nat.le_of_ble_eq_true g4
            replace g5 : h1 < lo + ts.length := Nat.le_of_ble_eq_true g5
            split at h
            · next t ht =>
              obtain ⟨z, w', c', hK, hok⟩ := hg _ _ _ _ _ _ _ h
              refine ⟨z, w', c', hK, e_step hok ?_⟩
              intro p l e R s m args below meth cd Q ad D tys base nL as0 k0 s0 hC hW
              obtain ⟨hx, hb⟩ := e_cc hM hq hC
              exact e_pure (st' := r) (fun as ys h2 => by
                obtain ⟨x, y, rfl, hx9, h3⟩ := e_st_cons h2
                obtain ⟨i, i1, i2, i3, rfl⟩ := e_rel_rg hx9 ha
                dsimp only at i1 i2
                refine ⟨y, h3, fun H locs cells slots ls k => ?_⟩
                have hj : ((e_i i).toInt - low).toNat = i - lo := by rw [e_i_int i3]; omega
                have ht2 := e_tgt_t ht (i - lo) (by omega) (by omega)
                have h8 : (offs.toList.map (fun o => (pc : Int) + o))[i - lo]? = some (t : Int) := by rw [hts, List.getElem?_map, ht2]; rfl
                rw [List.getElem?_map] at h8
                cases h10 : offs.toList[i - lo]? with
                | none => rw [h10] at h8; cases h8
                | some off =>
                  rw [h10] at h8
                  have h11 : (pc : Int) + off = (t : Int) := Option.some.inj h8
                  exact lv_tableIn hx hb hd (by rw [e_i_int i3]; omega) (by rw [e_i_int i3]; omega) (by rw [hj, ← Array.getElem?_toList]; exact h10) h11 k) hW
            · cases h
    · cases h
  · cases h
theorem s_iinc {n d nx : Nat} {zz : Int} (hq : (e_ml[M]?).map (·.2.1) = some cc) (hd : decode cc pc = .ok (.iinc n zz, 3)) (hnx : nx = pc + 3) (hz : (d : Int) = zz ∨ (d : Int) = zz + 4294967296) (hz2 : -32768 ≤ zz ∧ zz ≤ 32767) : e_Sn M pc (o_iinc n d nx) := by
  intro g hg F al st w c K hM h
  unfold o_iinc at h
  split at h
  · next m9 hv =>
    replace h := e_fo_t h
    obtain ⟨al', h, e1, e3, e2⟩ := e_lst_t h
    obtain ⟨z, w', c', hK, hok⟩ := hg _ _ _ _ _ _ _ h
    refine ⟨z, w', c', hK, e_step hok ?_⟩
    intro p l e R s m args below meth cd Q ad D tys base nL as0 k0 s0 hC hW
    obtain ⟨hx, hb⟩ := e_cc hM hq hC
    intro as ws H locs ls ys hS
    obtain ⟨⟨hl, lv, hlv, h3⟩, h4⟩ := hS
    rw [e_nth_eq] at hv
    obtain ⟨x, hx1, hx2, rfl⟩ := h3 n _ hv
    obtain ⟨i, hi⟩ := List.getElem?_of_mem hx1
    have h5 : e_i m9 + Int32.ofInt zz = e_i ((m9 + d) % 4294967296) := by
      apply e_i_eq (Nat.mod_lt _ (by decide))
      rw [Int32.toInt_add, e_i_int hx2, Int32.toInt_ofInt, show Int32.size = 4294967296 from rfl, Int.bmod_def, Int.bmod_def]
      split <;> split <;> omega
    subst hnx
    exact lv_iinc hx hb hd hlv hi h5 (by omega) rfl fun ls' hls' => hW as ws H locs ls' ys ⟨e_lo_store (v := .inl ((m9 + d) % 4294967296)) (ls := ls) hl ⟨Nat.mod_lt _ (by decide), rfl⟩ h3 e1 e2 hls' rfl, h4⟩
  · cases h
theorem s_lstore {n nx len : Nat} {i : Instr} (hq : (e_ml[M]?).map (·.2.1) = some cc) (hd : decode cc pc = .ok (i, len)) (hnx : nx = pc + len) (hi : i = .lstore n ∧ len = 2 ∨ (∃ k : Fin 4, k.val = n ∧ i = .lstore_n k ∧ len = 1)) : e_Sn M pc (o_storeL n nx) := by
  intro g hg F al st w c K hM h
  unfold o_storeL at h
  split at h
  · next v r =>
    cases ho : e_okL v with
    | false => rw [ho, cond_false] at h; cases h
    | true =>
      rw [ho, cond_true] at h
      obtain ⟨a1, h, f1, f3, f2⟩ := e_lst_t h
      obtain ⟨al', h, e1, e3, e2⟩ := e_lst_t h
      obtain ⟨z, w', c', hK, hok⟩ := hg _ _ _ _ _ _ _ h
      refine ⟨z, w', c', hK, e_step hok ?_⟩
      intro p l e R s m args below meth cd Q ad D tys base nL as0 k0 s0 hC hW
      obtain ⟨hx, hb⟩ := e_cc hM hq hC
      intro as ws H locs ls ys hS
      obtain ⟨⟨hl, lv, hlv, h3⟩, h2, h4⟩ := hS
      obtain ⟨x, ys, rfl, hr, h5⟩ := e_st_cons h2
      obtain ⟨y, rfl⟩ := e_rel_L hr ho
      have key : ∀ ls', lv_has ls' nL ((n, Value.long y) :: lv.filter (fun q => !(q.1 == n) && (!(q.1 == n + 1) && !(q.1 + 1 == n && q.2.category == 2)))) → e_lo ad as al' ls' nL := by
        intro ls' hls'
        refine ⟨by omega, _, hls', fun j u hj => ?_⟩
        rcases e2 j u hj with ⟨rfl, e⟩ | ⟨hne, t, ht, g1, g2⟩
        · cases e
          exact ⟨_, List.mem_cons_self, hr⟩
        · rcases f2 j t ht with ⟨rfl, e⟩ | ⟨hne2, t2, ht2, g3, g4⟩
          · cases e
          · have e9 : t2 = t := g3 (by omega)
            subst e9
            obtain ⟨y2, hy2, hry⟩ := h3 j t2 ht2
            by_cases hj1 : j + 1 = n
            · obtain ⟨rfl, hc⟩ := e_rel_1 hry (g2 hj1)
              exact ⟨y2, List.mem_cons_of_mem _ (List.mem_filter.mpr ⟨hy2, by simp [hne, hne2, hc]⟩), hry⟩
            · rw [← g1 hj1]
              exact ⟨y2, List.mem_cons_of_mem _ (List.mem_filter.mpr ⟨hy2, by simp [hne, hne2, hj1]⟩), hry⟩
      subst hnx
      rcases hi with ⟨rfl, rfl⟩ | ⟨k, hk, rfl, rfl⟩
      · exact lv_lstore hx hb hd hlv (by omega) rfl fun ls' hls' => hW as ws H locs ls' ys ⟨key ls' hls', h5, h4⟩
      · exact lv_lstore_n hx hb hd hk hlv (by omega) rfl fun ls' hls' => hW as ws H locs ls' ys ⟨key ls' hls', h5, h4⟩
  · cases h
theorem s_gets {nx k index : Nat} {own C f d : String} (hq : (e_ml[M]?).map (·.2.1) = some cc) (ho : (e_ml[M]?).map (·.1.cls) = some own) (hk : Jvm.Cond.fieldLink own index C f d ∈ lw_tbl) (hv : (C, f, d, k) ∈ e_sv) (hd : decode cc pc = .ok (.getstatic index, 3)) (hnx : nx = pc + 3) : e_Sn M pc (o_push (e_B k) nx) := by
  intro g hg F al st w c K hM h
  replace h : g F nx al (e_B k :: st) w c K = true := h
  obtain ⟨z, w', c', hK, hok⟩ := hg _ _ _ _ _ _ _ h
  refine ⟨z, w', c', hK, e_step hok ?_⟩
  intro p l e R s m args below meth cd Q ad D tys base nL as0 k0 s0 hC hW
  obtain ⟨hx, hb⟩ := e_cc hM hq hC
  intro as ws H locs ls ys hS
  obtain ⟨h1, h2, h3, h4, h5, h6, h7⟩ := hS
  subst hnx
  have hsf := hC.2.2.2.2.2.2.1.2.1 (C, f, d, k) hv
  exact va_gets (A := e_A0 base) hx hb hsf h6 (e_own hM ho hC) (e_wd hC hk rfl) (fun _ h => h) hd (hW as ws H locs ls (.ref (ad k) :: ys) ⟨h1, ⟨rfl, h2⟩, h3, h4, h5, h6, h7⟩)
end SN
