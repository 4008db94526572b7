section SN
variable {M pc : Nat} {cc : ByteArray}
theorem s_iconst {nx z : Nat} {n : Int} (hq : (e_ml[M]?).map (·.2.1) = some cc) (hd : decode cc pc = .ok (.iconst n, 1)) (hnx : nx = pc + 1) (hz : Int32.ofInt n = e_i z ∧ z < 4294967296) : e_Sn M pc (o_push (.inl z) nx) := by
  intro g hg F al st w c K hM h
  replace h : g F nx al (.inl z :: st) w c K = true := h
  obtain ⟨z, w', c', hK, hok⟩ := hg _ _ _ _ _ _ _ h
  refine ⟨z, w', c', hK, e_step hok ?_⟩
  intro p l e R s m args below meth cd Q ad D tys base nL as0 k0 s0 hC hW
  obtain ⟨hx, hb⟩ := e_cc hM hq hC
  exact e_iconst hx hb hd hnx hz hW
theorem s_bipush {nx z : Nat} {n : Int} (hq : (e_ml[M]?).map (·.2.1) = some cc) (hd : decode cc pc = .ok (.bipush n, 2)) (hnx : nx = pc + 2) (hz : (Int8.ofInt n).toInt32 = e_i z ∧ z < 4294967296) : e_Sn M pc (o_push (.inl z) nx) := by
  intro g hg F al st w c K hM h
  replace h : g F nx al (.inl z :: st) w c K = true := h
  obtain ⟨z, w', c', hK, hok⟩ := hg _ _ _ _ _ _ _ h
  refine ⟨z, w', c', hK, e_step hok ?_⟩
  intro p l e R s m args below meth cd Q ad D tys base nL as0 k0 s0 hC hW
  obtain ⟨hx, hb⟩ := e_cc hM hq hC
  exact e_bipush hx hb hd hnx hz hW
theorem s_sipush {nx z : Nat} {n : Int} (hq : (e_ml[M]?).map (·.2.1) = some cc) (hd : decode cc pc = .ok (.sipush n, 3)) (hnx : nx = pc + 3) (hz : (Int16.ofInt n).toInt32 = e_i z ∧ z < 4294967296) : e_Sn M pc (o_push (.inl z) nx) := by
  intro g hg F al st w c K hM h
  replace h : g F nx al (.inl z :: st) w c K = true := h
  obtain ⟨z, w', c', hK, hok⟩ := hg _ _ _ _ _ _ _ h
  refine ⟨z, w', c', hK, e_step hok ?_⟩
  intro p l e R s m args below meth cd Q ad D tys base nL as0 k0 s0 hC hW
  obtain ⟨hx, hb⟩ := e_cc hM hq hC
  exact e_sipush hx hb hd hnx hz hW
theorem s_lconst {nx z : Nat} {n : Fin 2} (hq : (e_ml[M]?).map (·.2.1) = some cc) (hd : decode cc pc = .ok (.lconst n, 1)) (hnx : nx = pc + 1) (hz : Int64.ofNat (n : Nat) = e_l z ∧ z < 18446744073709551616) : e_Sn M pc (o_push (e_L z) nx) := by
  intro g hg F al st w c K hM h
  replace h : g F nx al (e_L z :: st) w c K = true := h
  obtain ⟨z, w', c', hK, hok⟩ := hg _ _ _ _ _ _ _ h
  refine ⟨z, w', c', hK, e_step hok ?_⟩
  intro p l e R s m args below meth cd Q ad D tys base nL as0 k0 s0 hC hW
  obtain ⟨hx, hb⟩ := e_cc hM hq hC
  exact e_lconst hx hb hd hnx hz hW
theorem s_ldc2 {nx z index : Nat} {own : String} {v : Int64} (hq : (e_ml[M]?).map (·.2.1) = some cc) (ho : (e_ml[M]?).map (·.1.cls) = some own) (hk : Jvm.Cond.constantLong own index v ∈ lw_tbl) (hd : decode cc pc = .ok (.ldc2_w index, 3)) (hnx : nx = pc + 3) (hz : v = e_l z ∧ z < 18446744073709551616) : e_Sn M pc (o_push (e_L z) nx) := by
  intro g hg F al st w c K hM h
  replace h : g F nx al (e_L z :: st) w c K = true := h
  obtain ⟨z, w', c', hK, hok⟩ := hg _ _ _ _ _ _ _ h
  refine ⟨z, w', c', hK, e_step hok ?_⟩
  intro p l e R s m args below meth cd Q ad D tys base nL as0 k0 s0 hC hW
  obtain ⟨hx, hb⟩ := e_cc hM hq hC
  exact e_ldc2 hx hb (e_own hM ho hC) (e_wd hC hk rfl) hd hnx hz hW
theorem s_ldc {nx z index : Nat} {own : String} {v : Int32} (hq : (e_ml[M]?).map (·.2.1) = some cc) (ho : (e_ml[M]?).map (·.1.cls) = some own) (hk : Jvm.Cond.constant own index v ∈ lw_tbl) (hd : decode cc pc = .ok (.ldc index, 2)) (hnx : nx = pc + 2) (hz : v = e_i z ∧ z < 4294967296) : e_Sn M pc (o_push (e_I z) nx) := by
  intro g hg F al st w c K hM h
  replace h : g F nx al (e_I z :: st) w c K = true := h
  obtain ⟨z, w', c', hK, hok⟩ := hg _ _ _ _ _ _ _ h
  refine ⟨z, w', c', hK, e_step hok ?_⟩
  intro p l e R s m args below meth cd Q ad D tys base nL as0 k0 s0 hC hW
  obtain ⟨hx, hb⟩ := e_cc hM hq hC
  exact e_ldc hx hb (e_own hM ho hC) (e_wd hC hk rfl) hd hnx hz hW
theorem s_null {nx : Nat} (hq : (e_ml[M]?).map (·.2.1) = some cc) (hd : decode cc pc = .ok (.aconst_null, 1)) (hnx : nx = pc + 1) : e_Sn M pc (o_push e_N nx) := by
  intro g hg F al st w c K hM h
  replace h : g F nx al (e_N :: st) w c K = true := h
  obtain ⟨z, w', c', hK, hok⟩ := hg _ _ _ _ _ _ _ h
  refine ⟨z, w', c', hK, e_step hok ?_⟩
  intro p l e R s m args below meth cd Q ad D tys base nL as0 k0 s0 hC hW
  obtain ⟨hx, hb⟩ := e_cc hM hq hC
  exact e_null hx hb hd hnx hW
theorem s_pop {nx : Nat} (hq : (e_ml[M]?).map (·.2.1) = some cc) (hd : decode cc pc = .ok (.pop, 1)) (hnx : nx = pc + 1) : e_Sn M pc (o_pop nx) := by
  intro g hg F al st w c K hM h
  unfold o_pop at h
  split at h
  · next v r =>
    cases hbc : e_is1 v with
    | false => rw [hbc, cond_false] at h; cases h
    | true =>
      rw [hbc, cond_true] at h
      replace h : g F nx al r w c K = true := h
      obtain ⟨z, w', c', hK, hok⟩ := hg _ _ _ _ _ _ _ h
      refine ⟨z, w', c', hK, e_step hok ?_⟩
      intro p l e R s m args below meth cd Q ad D tys base nL as0 k0 s0 hC hW
      obtain ⟨hx, hb⟩ := e_cc hM hq hC
      exact e_pop hx hb hd hnx hbc hW
  · cases h
theorem s_dup {nx : Nat} (hq : (e_ml[M]?).map (·.2.1) = some cc) (hd : decode cc pc = .ok (.dup, 1)) (hnx : nx = pc + 1) : e_Sn M pc (o_dup nx) := by
  intro g hg F al st w c K hM h
  unfold o_dup at h
  split at h
  · next v r =>
    cases hbc : e_is1 v with
    | false => rw [hbc, cond_false] at h; cases h
    | true =>
      rw [hbc, cond_true] at h
      replace h : g F nx al (v :: v :: r) w c K = true := h
      obtain ⟨z, w', c', hK, hok⟩ := hg _ _ _ _ _ _ _ h
      refine ⟨z, w', c', hK, e_step hok ?_⟩
      intro p l e R s m args below meth cd Q ad D tys base nL as0 k0 s0 hC hW
      obtain ⟨hx, hb⟩ := e_cc hM hq hC
      exact e_dup hx hb hd hnx hbc hW
  · cases h
theorem s_dup_x1 {nx : Nat} (hq : (e_ml[M]?).map (·.2.1) = some cc) (hd : decode cc pc = .ok (.dup_x1, 1)) (hnx : nx = pc + 1) : e_Sn M pc (o_dup_x1 nx) := by
  intro g hg F al st w c K hM h
  unfold o_dup_x1 at h
  split at h
  · next v u r =>
    cases hbc : (e_is1 v && e_is1 u) with
    | false => rw [hbc, cond_false] at h; cases h
    | true =>
      rw [hbc, cond_true] at h
      replace h : g F nx al (v :: u :: v :: r) w c K = true := h
      obtain ⟨hb1, hb2⟩ := (Bool.and_eq_true _ _).mp hbc
      obtain ⟨z, w', c', hK, hok⟩ := hg _ _ _ _ _ _ _ h
      refine ⟨z, w', c', hK, e_step hok ?_⟩
      intro p l e R s m args below meth cd Q ad D tys base nL as0 k0 s0 hC hW
      obtain ⟨hx, hb⟩ := e_cc hM hq hC
      exact e_dup_x1 hx hb hd hnx hb1 hb2 hW
  · cases h
theorem s_dup2 {nx : Nat} (hq : (e_ml[M]?).map (·.2.1) = some cc) (hd : decode cc pc = .ok (.dup2, 1)) (hnx : nx = pc + 1) : e_Sn M pc (o_dup2 nx) := by
  intro g hg F al st w c K hM h
  unfold o_dup2 at h
  split at h
  · next v u r =>
    cases hbc : (e_is1 v && e_is1 u) with
    | false => rw [hbc, cond_false] at h; cases h
    | true =>
      rw [hbc, cond_true] at h
      replace h : g F nx al (v :: u :: v :: u :: r) w c K = true := h
      obtain ⟨hb1, hb2⟩ := (Bool.and_eq_true _ _).mp hbc
      obtain ⟨z, w', c', hK, hok⟩ := hg _ _ _ _ _ _ _ h
      refine ⟨z, w', c', hK, e_step hok ?_⟩
      intro p l e R s m args below meth cd Q ad D tys base nL as0 k0 s0 hC hW
      obtain ⟨hx, hb⟩ := e_cc hM hq hC
      exact e_dup2 hx hb hd hnx hb1 hb2 hW
  · cases h
theorem v_2 {ad : Nat → Nat} {m n z : Nat} {g : Int32 → Int32 → Int32} (hz : m < 4294967296 → n < 4294967296 → g (e_i m) (e_i n) = e_i z ∧ z < 4294967296) : ∀ as x y, e_rel ad as (.inl m) x → e_rel ad as (.inl n) y → ∃ x1 y1, x = .int x1 ∧ y = .int y1 ∧ e_rel ad as (.inl z) (.int (g x1 y1)) := by
  rintro as x y ⟨h1, rfl⟩ ⟨h2, rfl⟩
  obtain ⟨h3, h4⟩ := hz h1 h2
  exact ⟨_, _, rfl, rfl, h4, by rw [h3]⟩
theorem v_2L {ad : Nat → Nat} {m n z : Nat} {g : Int64 → Int64 → Int64} (hz : m < 18446744073709551616 → n < 18446744073709551616 → g (e_l m) (e_l n) = e_l z ∧ z < 18446744073709551616) : ∀ as x y, e_rel ad as (e_L m) x → e_rel ad as (e_L n) y → ∃ x1 y1, x = .long x1 ∧ y = .long y1 ∧ e_rel ad as (e_L z) (.long (g x1 y1)) := by
  rintro as x y ⟨h1, rfl⟩ ⟨h2, rfl⟩
  obtain ⟨h3, h4⟩ := hz h1 h2
  exact ⟨_, _, rfl, rfl, h4, by rw [h3]⟩
/-- ints by ranges -/
theorem v_2R {ad : Nat → Nat} {a b v : e_V} {q1 q2 : Nat × Nat} {g : Int32 → Int32 → Int32} (ha : e_rg a = some q1) (hb : e_rg b = some q2) (hz : ∀ as m n, q1.1 ≤ m → m ≤ q1.2 → q2.1 ≤ n → n ≤ q2.2 → m < 4294967296 → n < 4294967296 → e_rel ad as v (.int (g (e_i m) (e_i n)))) : ∀ as x y, e_rel ad as a x → e_rel ad as b y → ∃ x1 y1, x = .int x1 ∧ y = .int y1 ∧ e_rel ad as v (.int (g x1 y1)) := by
  intro as x y h1 h2
  obtain ⟨m, m1, m2, m3, rfl⟩ := e_rel_rg h1 ha
  obtain ⟨n, n1, n2, n3, rfl⟩ := e_rel_rg h2 hb
  exact ⟨_, _, rfl, rfl, hz as m n m1 m2 n1 n2 m3 n3⟩
theorem e_mk_t {l h : Nat} {k : e_V → Bool} (hk : e_mk l h k = true) : ∃ v, k v = true ∧ ∀ ad as m, l ≤ m → m ≤ h → m < 4294967296 → e_rel ad as v (.int (e_i m)) := by
  unfold e_mk at hk
  have h1 := e_fo_t (e_fo_t hk)
  cases hb : Nat.beq l h with
  | true =>
    rw [hb] at h1
    refine ⟨_, h1, fun ad as m m1 m2 m3 => ?_⟩
    have := Nat.eq_of_beq_eq_true hb
    obtain rfl : l = m := by omega
    exact ⟨m3, rfl⟩
  | false =>
    rw [hb] at h1
    exact ⟨_, h1, fun ad as m m1 m2 m3 => ⟨m, m1, m2, m3, rfl⟩⟩
theorem s_iadd {nx : Nat} (hq : (e_ml[M]?).map (·.2.1) = some cc) (hd : decode cc pc = .ok (.iadd, 1)) (hnx : nx = pc + 1) : e_Sn M pc (o_iadd nx) := by
  intro g hg F al st w c K hM h
  unfold o_iadd at h
  split at h
  · next n m9 r =>
    replace h := e_fo_t h
    replace h : g F nx al (.inl ((m9 + n + 2147483648) % 4294967296) :: r) w c K = true := h
    obtain ⟨z, w', c', hK, hok⟩ := hg _ _ _ _ _ _ _ h
    refine ⟨z, w', c', hK, e_step hok ?_⟩
    intro p l e R s m args below meth cd Q ad D tys base nL as0 k0 s0 hC hW
    obtain ⟨hx, hb⟩ := e_cc hM hq hC
    exact e_iadd hx hb hd hnx (v_2 (fun h1 h2 => ⟨n_add h1 h2, Nat.mod_lt _ (by decide)⟩)) hW
  · next b a r _ =>
    split at h
    · next l1 h1 l2 h2 ha hb' =>
      cases hbc : (Nat.ble 2147483648 (l1 + l2) && Nat.blt (h1 + h2) 6442450944) with
      | false => rw [hbc, cond_false] at h; cases h
      | true =>
        rw [hbc, cond_true] at h
        obtain ⟨g1, g2⟩ := (Bool.and_eq_true _ _).mp hbc
        replace g1 := Nat.le_of_ble_eq_true g1
        replace g2 : h1 + h2 < 6442450944 := Nat.le_of_ble_eq_true g2
        obtain ⟨v, h, hv⟩ := e_mk_t h
        obtain ⟨z, w', c', hK, hok⟩ := hg _ _ _ _ _ _ _ h
        refine ⟨z, w', c', hK, e_step hok ?_⟩
        intro p l e R s m args below meth cd Q ad D tys base nL as0 k0 s0 hC hW
        obtain ⟨hx, hb⟩ := e_cc hM hq hC
        exact e_iadd hx hb hd hnx (v_2R ha hb' (fun as m n m1 m2 n1 n2 m3 n3 => by
          dsimp only at m1 m2 n1 n2 ⊢
          rw [n_addR m3 n3 (by omega) (by omega)]
          exact hv ad as _ (by omega) (by omega) (by omega))) hW
    · cases h
  · cases h
theorem s_isub {nx : Nat} (hq : (e_ml[M]?).map (·.2.1) = some cc) (hd : decode cc pc = .ok (.isub, 1)) (hnx : nx = pc + 1) : e_Sn M pc (o_isub nx) := by
  intro g hg F al st w c K hM h
  unfold o_isub at h
  split at h
  · next n m9 r =>
    replace h := e_fo_t h
    replace h : g F nx al (.inl ((m9 + 6442450944 - n) % 4294967296) :: r) w c K = true := h
    obtain ⟨z, w', c', hK, hok⟩ := hg _ _ _ _ _ _ _ h
    refine ⟨z, w', c', hK, e_step hok ?_⟩
    intro p l e R s m args below meth cd Q ad D tys base nL as0 k0 s0 hC hW
    obtain ⟨hx, hb⟩ := e_cc hM hq hC
    exact e_isub hx hb hd hnx (v_2 (fun h1 h2 => ⟨n_sub h1 h2, Nat.mod_lt _ (by decide)⟩)) hW
  · next n a r _ =>
    split at h
    · next l1 h1 ha =>
      cases hbc : (Nat.ble n (l1 + 2147483648) && Nat.blt (h1 + 2147483648 - n) 4294967296) with
      | false => rw [hbc, cond_false] at h; cases h
      | true =>
        rw [hbc, cond_true] at h
        obtain ⟨g1, g2⟩ := (Bool.and_eq_true _ _).mp hbc
        replace g1 := Nat.le_of_ble_eq_true g1
        replace g2 : h1 + 2147483648 - n < 4294967296 := Nat.le_of_ble_eq_true g2
        obtain ⟨v, h, hv⟩ := e_mk_t h
        obtain ⟨z, w', c', hK, hok⟩ := hg _ _ _ _ _ _ _ h
        refine ⟨z, w', c', hK, e_step hok ?_⟩
        intro p l e R s m args below meth cd Q ad D tys base nL as0 k0 s0 hC hW
        obtain ⟨hx, hb⟩ := e_cc hM hq hC
        exact e_isub hx hb hd hnx (v_2R ha (rfl : e_rg (.inl n) = some (n, n)) (fun as m k m1 m2 n1 n2 m3 n3 => by
          dsimp only at m1 m2 n1 n2 ⊢
          obtain rfl : n = k := by omega
          rw [n_subR m3 n3 (by omega) (by omega)]
          exact hv ad as _ (by omega) (by omega) (by omega))) hW
    · cases h
  · cases h
theorem s_iand {nx : Nat} (hq : (e_ml[M]?).map (·.2.1) = some cc) (hd : decode cc pc = .ok (.iand, 1)) (hnx : nx = pc + 1) : e_Sn M pc (o_bin Nat.land nx) := by
  intro g hg F al st w c K hM h
  unfold o_bin at h
  split at h
  · next n m9 r =>
    replace h := e_fo_t h
    replace h : g F nx al (.inl (e_u (Nat.land (e_u m9) (e_u n) % 4294967296)) :: r) w c K = true := h
    obtain ⟨z, w', c', hK, hok⟩ := hg _ _ _ _ _ _ _ h
    refine ⟨z, w', c', hK, e_step hok ?_⟩
    intro p l e R s m args below meth cd Q ad D tys base nL as0 k0 s0 hC hW
    obtain ⟨hx, hb⟩ := e_cc hM hq hC
    exact e_iand hx hb hd hnx (v_2 (fun h1 h2 => ⟨n_and h1 h2, e_u_lt _⟩)) hW
  · cases h
theorem s_ior {nx : Nat} (hq : (e_ml[M]?).map (·.2.1) = some cc) (hd : decode cc pc = .ok (.ior, 1)) (hnx : nx = pc + 1) : e_Sn M pc (o_bin Nat.lor nx) := by
  intro g hg F al st w c K hM h
  unfold o_bin at h
  split at h
  · next n m9 r =>
    replace h := e_fo_t h
    replace h : g F nx al (.inl (e_u (Nat.lor (e_u m9) (e_u n) % 4294967296)) :: r) w c K = true := h
    obtain ⟨z, w', c', hK, hok⟩ := hg _ _ _ _ _ _ _ h
    refine ⟨z, w', c', hK, e_step hok ?_⟩
    intro p l e R s m args below meth cd Q ad D tys base nL as0 k0 s0 hC hW
    obtain ⟨hx, hb⟩ := e_cc hM hq hC
    exact e_ior hx hb hd hnx (v_2 (fun h1 h2 => ⟨n_or h1 h2, e_u_lt _⟩)) hW
  · cases h
theorem s_ixor {nx : Nat} (hq : (e_ml[M]?).map (·.2.1) = some cc) (hd : decode cc pc = .ok (.ixor, 1)) (hnx : nx = pc + 1) : e_Sn M pc (o_bin Nat.xor nx) := by
  intro g hg F al st w c K hM h
  unfold o_bin at h
  split at h
  · next n m9 r =>
    replace h := e_fo_t h
    replace h : g F nx al (.inl (e_u (Nat.xor (e_u m9) (e_u n) % 4294967296)) :: r) w c K = true := h
    obtain ⟨z, w', c', hK, hok⟩ := hg _ _ _ _ _ _ _ h
    refine ⟨z, w', c', hK, e_step hok ?_⟩
    intro p l e R s m args below meth cd Q ad D tys base nL as0 k0 s0 hC hW
    obtain ⟨hx, hb⟩ := e_cc hM hq hC
    exact e_ixor hx hb hd hnx (v_2 (fun h1 h2 => ⟨n_xor h1 h2, e_u_lt _⟩)) hW
  · cases h
theorem e_mulR_t {l h n : Nat} {k : e_V → Bool} (hk : e_mulR l h n k = true) : ∃ v, k v = true ∧ 2147483648 ≤ n ∧ ∀ ad as m, l ≤ m → m ≤ h → m < 4294967296 → n < 4294967296 → e_rel ad as v (.int (e_i m * e_i n)) := by
  unfold e_mulR at hk
  cases hbc : (Nat.ble 2147483648 n && Nat.ble (2147483648 * (n - 2147483648)) (l * (n - 2147483648) + 2147483648) && Nat.blt (h * (n - 2147483648) + 2147483648 - 2147483648 * (n - 2147483648)) 4294967296) with
  | false => rw [hbc, cond_false] at hk; cases hk
  | true =>
    rw [hbc, cond_true] at hk
    obtain ⟨g0, g2⟩ := (Bool.and_eq_true _ _).mp hbc
    obtain ⟨g0, g1⟩ := (Bool.and_eq_true _ _).mp g0
    replace g0 := Nat.le_of_ble_eq_true g0
    replace g1 := Nat.le_of_ble_eq_true g1
    replace g2 : h * (n - 2147483648) + 2147483648 - 2147483648 * (n - 2147483648) < 4294967296 := Nat.le_of_ble_eq_true g2
    obtain ⟨v, hv, hr⟩ := e_mk_t hk
    refine ⟨v, hv, g0, fun ad as m m1 m2 m3 n3 => ?_⟩
    obtain ⟨k, k1, k2, k3, k4⟩ := n_mulR m3 m1 m2 n3 g0 g1 g2
    rw [k4]
    exact hr ad as k k1 k2 k3
theorem s_imul {nx : Nat} (hq : (e_ml[M]?).map (·.2.1) = some cc) (hd : decode cc pc = .ok (.imul, 1)) (hnx : nx = pc + 1) : e_Sn M pc (o_imul nx) := by
  intro g hg F al st w c K hM h
  unfold o_imul at h
  split at h
  · next n m9 r =>
    replace h := e_fo_t h
    replace h : g F nx al (.inl (e_u (e_u m9 * e_u n % 4294967296)) :: r) w c K = true := h
    obtain ⟨z, w', c', hK, hok⟩ := hg _ _ _ _ _ _ _ h
    refine ⟨z, w', c', hK, e_step hok ?_⟩
    intro p l e R s m args below meth cd Q ad D tys base nL as0 k0 s0 hC hW
    obtain ⟨hx, hb⟩ := e_cc hM hq hC
    exact e_imul hx hb hd hnx (v_2 (fun h1 h2 => ⟨n_mul h1 h2, e_u_lt _⟩)) hW
  · next n a r _ =>
    split at h
    · next l1 h1 ha =>
      obtain ⟨v, h, -, hv⟩ := e_mulR_t h
      obtain ⟨z, w', c', hK, hok⟩ := hg _ _ _ _ _ _ _ h
      refine ⟨z, w', c', hK, e_step hok ?_⟩
      intro p l e R s m args below meth cd Q ad D tys base nL as0 k0 s0 hC hW
      obtain ⟨hx, hb⟩ := e_cc hM hq hC
      exact e_imul hx hb hd hnx (v_2R ha (rfl : e_rg (.inl n) = some (n, n)) (fun as m k m1 m2 n1 n2 m3 n3 => by
        dsimp only at m1 m2 n1 n2 ⊢
        obtain rfl : n = k := by omega
        exact hv ad as _ m1 m2 m3 n3)) hW
    · cases h
  · next b m9 r _ =>
    split at h
    · next l1 h1 hb' =>
      obtain ⟨v, h, -, hv⟩ := e_mulR_t h
      obtain ⟨z, w', c', hK, hok⟩ := hg _ _ _ _ _ _ _ h
      refine ⟨z, w', c', hK, e_step hok ?_⟩
      intro p l e R s m args below meth cd Q ad D tys base nL as0 k0 s0 hC hW
      obtain ⟨hx, hb⟩ := e_cc hM hq hC
      exact e_imul hx hb hd hnx (v_2R (rfl : e_rg (.inl m9) = some (m9, m9)) hb' (fun as k n m1 m2 n1 n2 m3 n3 => by
        dsimp only at m1 m2 n1 n2 ⊢
        obtain rfl : m9 = k := by omega
        rw [Int32.mul_comm]
        exact hv ad as _ n1 n2 n3 m3)) hW
    · cases h
  · cases h
theorem s_idiv {nx : Nat} (hq : (e_ml[M]?).map (·.2.1) = some cc) (hd : decode cc pc = .ok (.idiv, 1)) (hnx : nx = pc + 1) : e_Sn M pc (o_idiv nx) := by
  intro g hg F al st w c K hM h
  unfold o_idiv at h
  split at h
  · next n m9 r =>
    cases hbc : (Nat.ble 2147483648 m9 && Nat.blt 2147483648 n) with
    | false => rw [hbc, cond_false] at h; cases h
    | true =>
      rw [hbc, cond_true] at h
      obtain ⟨g1, g2⟩ := (Bool.and_eq_true _ _).mp hbc
      replace g1 := Nat.le_of_ble_eq_true g1
      replace g2 : 2147483648 < n := Nat.le_of_ble_eq_true g2
      replace h := e_fo_t h
      replace h : g F nx al (.inl ((m9 - 2147483648) / (n - 2147483648) + 2147483648) :: r) w c K = true := h
      obtain ⟨z, w', c', hK, hok⟩ := hg _ _ _ _ _ _ _ h
      refine ⟨z, w', c', hK, e_step hok ?_⟩
      intro p l e R s m args below meth cd Q ad D tys base nL as0 k0 s0 hC hW
      obtain ⟨hx, hb⟩ := e_cc hM hq hC
      exact e_idiv hx hb hd hnx (fun as y hy => by obtain ⟨y1, y2⟩ := hy; cases y2; exact n_ne0 y1 g2) (v_2 (fun h1 h2 => ⟨n_div h1 h2 g1 g2, (by have := Nat.div_le_self (m9 - 2147483648) (n - 2147483648); generalize (m9 - 2147483648) / (n - 2147483648) = q at *; omega)⟩)) hW
  · cases h
theorem s_irem {nx : Nat} (hq : (e_ml[M]?).map (·.2.1) = some cc) (hd : decode cc pc = .ok (.irem, 1)) (hnx : nx = pc + 1) : e_Sn M pc (o_irem nx) := by
  intro g hg F al st w c K hM h
  unfold o_irem at h
  split at h
  · next n m9 r =>
    cases hbc : (Nat.ble 2147483648 m9 && Nat.blt 2147483648 n) with
    | false => rw [hbc, cond_false] at h; cases h
    | true =>
      rw [hbc, cond_true] at h
      obtain ⟨g1, g2⟩ := (Bool.and_eq_true _ _).mp hbc
      replace g1 := Nat.le_of_ble_eq_true g1
      replace g2 : 2147483648 < n := Nat.le_of_ble_eq_true g2
      replace h := e_fo_t h
      replace h : g F nx al (.inl ((m9 - 2147483648) % (n - 2147483648) + 2147483648) :: r) w c K = true := h
      obtain ⟨z, w', c', hK, hok⟩ := hg _ _ _ _ _ _ _ h
      refine ⟨z, w', c', hK, e_step hok ?_⟩
      intro p l e R s m args below meth cd Q ad D tys base nL as0 k0 s0 hC hW
      obtain ⟨hx, hb⟩ := e_cc hM hq hC
      exact e_irem hx hb hd hnx (fun as y hy => by obtain ⟨y1, y2⟩ := hy; cases y2; exact n_ne0 y1 g2) (v_2 (fun h1 h2 => ⟨n_rem h1 h2 g1 g2, (by have := Nat.mod_lt (m9 - 2147483648) (show n - 2147483648 > 0 by omega); generalize (m9 - 2147483648) % (n - 2147483648) = q at *; omega)⟩)) hW
  · cases h
end SN
