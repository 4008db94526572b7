section SN
variable {M pc : Nat} {cc : ByteArray}
theorem e_kt_at {D : va_G} {tys : List (ClassId × FieldType)} {s : State} (hK : e_Kx D tys s) {t : Nat} {cA : ClassId} {ty : FieldType} (h : tys[t]? = some (cA, ty)) : e_kt[t]? = some ty := by
  rw [← hK.2.1, List.getElem?_map, h]; rfl
theorem e_in {m n : Nat} (hm : m < 4294967296) (h : 2147483648 ≤ m) (hn : m - 2147483648 < n) : vp_in (e_i m) n := by
  intro q
  rcases q with q | q
  · exact e_i_neg hm h q
  · rw [e_i_cl hm h] at q; omega
/-- a cell of an array that isn't ours -/
theorem e_for {F : e_F} {nL base : Nat} {p : Program} {l : Launch} {s : State} {m : MethodId} {args : Array Value} {meth : Method} {cd : Code} {ad : Nat → Nat} {D : va_G} {tys : List (ClassId × FieldType)} (hC : e_Cx F p l s m args meth cd ad D tys base nL) {k : Nat} (hk : k ≤ e_fcs.length) {H : Heap} {locs : List Loc} (hS : va_S (e_A0 base) s.heap H locs) :
    ∃ (ty : FieldType) (f : Nat → Value) (cell : Cell), (k < 3 → ty = .int) ∧ H[ad k]? = some cell ∧ s.isArrayOf cell ty ∧ cell.vm ≠ .unknown ∧ e_rlen (e_fc e_fcs F k) ≤ cell.slots.size ∧ cell.slots.size.toInt32 = Int32.ofNat (e_rlen (e_fc e_fcs F k)) ∧ (∀ j, j < e_rlen (e_fc e_fcs F k) → cell.slots[j]? = some (f j)) ∧ ∀ (j : Nat) (v : e_V), e_rat (e_fc e_fcs F k) j = some v → e_rel ad [] v (f j) := by
  obtain ⟨-, -, -, -, -, -, hsf, -⟩ := hC
  obtain ⟨ty, f, h1, ⟨cell, g1, g2, g3, g4, g5, g6, g7⟩, h3⟩ := hsf.1 k hk
  refine ⟨ty, f, cell, h1, ?_, g2, g3, g4, g5, g6, h3⟩
  rw [hS.2.1 (ad k) (Array.getElem?_eq_some_iff.mp g1).1 g7]
  exact g1
theorem s_alen {nx : Nat} (hq : (e_ml[M]?).map (·.2.1) = some cc) (hd : decode cc pc = .ok (.arraylength, 1)) (hnx : nx = pc + 1) : e_Sn M pc (o_alen e_fcs nx) := by
  intro g hg F al st w c K hM h
  unfold o_alen at h
  split at h
  · next k r =>
    replace h := e_fo_t h
    cases hbc : (Nat.ble k e_fcs.length && Nat.blt (e_rlen (e_fc e_fcs F k) + 2147483648) 4294967296) with
    | false => rw [hbc, cond_false] at h; cases h
    | true =>
      rw [hbc, cond_true] at h
      obtain ⟨g1, g2⟩ := (Bool.and_eq_true _ _).mp hbc
      replace g1 := Nat.le_of_ble_eq_true g1
      replace g2 : e_rlen (e_fc e_fcs F k) + 2147483648 < 4294967296 := Nat.le_of_ble_eq_true g2
      obtain ⟨z, w', c', hK, hok⟩ := hg _ _ _ _ _ _ _ h
      refine ⟨z, w', c', hK, e_step hok ?_⟩
      intro p l e R s m args below meth cd Q ad D tys base nL as0 k0 s0 hC hW
      obtain ⟨hx, hb⟩ := e_cc hM hq hC
      intro as ws H locs ls ys hS
      obtain ⟨h1, h2, h3, h4, h5, h6, h7⟩ := hS
      obtain ⟨x, ys, rfl, hr, h8⟩ := e_st_cons h2
      cases (show x = .ref (ad k) from hr)
      obtain ⟨ty, f, cell, f1, f2, f3, f4, f5, f6, f7, f8⟩ := e_for hC g1 h6
      subst hnx
      have e9 : Int32.ofNat (e_rlen (e_fc e_fcs F k)) = e_i (e_rlen (e_fc e_fcs F k) + 2147483648) := by
        rw [e_i_nn g2 (by omega), Nat.add_sub_cancel]; rfl
      exact W.alen (n := e_i (e_rlen (e_fc e_fcs F k) + 2147483648)) hx hb f2 f3 (by rw [f6, e9]) rfl rfl hd (hW as ws H locs ls (.int (e_i (e_rlen (e_fc e_fcs F k) + 2147483648)) :: ys) ⟨h1, ⟨⟨g2, rfl⟩, h8⟩, h3, h4, h5, h6, h7⟩)
  · next q r =>
    split at h
    · next t rs hc =>
      replace h := e_fo_t h
      obtain ⟨z, w', c', hK, hok⟩ := hg _ _ _ _ _ _ _ h
      refine ⟨z, w', c', hK, e_step hok ?_⟩
      intro p l e R s m args below meth cd Q ad D tys base nL as0 k0 s0 hC hW
      obtain ⟨hx, hb⟩ := e_cc hM hq hC
      intro as ws H locs ls ys hS
      obtain ⟨h1, h2, h3, h4, h5, h6, h7⟩ := hS
      obtain ⟨x, ys, rfl, hr, h8⟩ := e_st_cons h2
      obtain ⟨a, ha, rfl⟩ := e_ref hr
      obtain ⟨e', he, hent⟩ := e_wk_at h3 ha
      rw [hc] at hent
      cases e' with
      | inr z => exact hent.elim
      | inl o =>
        obtain ⟨cA, n, f⟩ := o
        obtain ⟨⟨ty, hty⟩, hn, hn2, harr⟩ := hent
        subst hnx
        have e9 : Int32.ofNat n = e_i (e_rlen rs + 2147483648) := by
          rw [e_i_nn (by omega) (by omega), Nat.add_sub_cancel, hn]; rfl
        exact va_alen hx hb hC.2.2.2.2.1.1 h4 q t he hty e9 hd (hW as ws H locs ls (.int (e_i (e_rlen rs + 2147483648)) :: ys) ⟨h1, ⟨⟨by omega, rfl⟩, h8⟩, h3, h4, h5, h6, h7⟩)
    · cases h
  · cases h
theorem s_ialdO {nx : Nat} (hq : (e_ml[M]?).map (·.2.1) = some cc) (hd : decode cc pc = .ok (.iaload, 1)) (hnx : nx = pc + 1) : e_Sn M pc (o_aldO 0 nx) := by
  intro g hg F al st w c K hM h
  unfold o_aldO at h
  split at h
  · next i q r =>
    split at h
    · next l1 h1 t rs hi hc =>
      cases hbc : (Nat.beq t 0 && Nat.ble 2147483648 l1 && Nat.ble l1 h1) with
      | false => rw [hbc, cond_false] at h; cases h
      | true =>
        rw [hbc, cond_true] at h
        obtain ⟨g0, g2⟩ := (Bool.and_eq_true _ _).mp hbc
        obtain ⟨g0, g1⟩ := (Bool.and_eq_true _ _).mp g0
        replace g0 := Nat.eq_of_beq_eq_true g0
        replace g1 := Nat.le_of_ble_eq_true g1
        replace g2 := Nat.le_of_ble_eq_true g2
        subst g0
        split at h
        · next v hv =>
          obtain ⟨z, w', c', hK, hok⟩ := hg _ _ _ _ _ _ _ h
          refine ⟨z, w', c', hK, e_step hok ?_⟩
          intro p l e R s m args below meth cd Q ad D tys base nL as0 k0 s0 hC hW
          obtain ⟨hx, hb⟩ := e_cc hM hq hC
          intro as ws H locs ls ys hS
          obtain ⟨h1, h2, h3, h4, h5, h6, h7⟩ := hS
          obtain ⟨y0, ys, rfl, hr0, h80⟩ := e_st_cons h2
          obtain ⟨x, ys, rfl, hr, h8⟩ := e_st_cons h80
          obtain ⟨a, ha, rfl⟩ := e_ref hr
          obtain ⟨i9, i1, i2, i3, rfl⟩ := e_rel_rg hr0 hi
          dsimp only at i1 i2
          obtain ⟨e', he, hent⟩ := e_wk_at h3 ha
          rw [hc] at hent
          cases e' with
          | inr z => exact hent.elim
          | inl o =>
            obtain ⟨cA, n, f⟩ := o
            obtain ⟨⟨ty, hty⟩, hn, hn2, harr⟩ := hent
            have hk := e_kt_at hC.2.2.2.2.1 hty
            obtain rfl : ty = .int := (Option.some.inj hk).symm
            rcases f with f | f
            · skip
              have hrel : e_rel ad as v (.int (f (i9 - 2147483648))) := harr _ _ (e_rget_t hv (by omega) (i9 - 2147483648) (by omega) (by omega)).1
              obtain ⟨j1, j2⟩ := e_rget_t hv (by omega) (i9 - 2147483648) (by omega) (by omega)
              subst hnx
              exact va_iald hx hb hC.2.2.2.2.1.1 h4 q _ he hty (e_in i3 (by omega) (by omega)) hd (by rw [e_i_cl i3 (by omega)]; exact hW as ws H locs ls (.int (f (i9 - 2147483648)) :: ys) ⟨h1, ⟨hrel, h8⟩, h3, h4, h5, h6, h7⟩)
            · exact harr.elim
        · cases h
    · cases h
  · cases h
theorem s_iald {nx : Nat} (hq : (e_ml[M]?).map (·.2.1) = some cc) (hd : decode cc pc = .ok (.iaload, 1)) (hnx : nx = pc + 1) : e_Sn M pc (o_ald e_fcs nx) := by
  intro g hg F al st w c K hM h
  unfold o_ald at h
  split at h
  · next i k r =>
    split at h
    · next l1 h1 hi =>
      cases hbc : (Nat.ble k e_fcs.length && Nat.ble 2147483648 l1 && Nat.ble l1 h1) with
      | false => rw [hbc, cond_false] at h; cases h
      | true =>
        rw [hbc, cond_true] at h
        obtain ⟨g0, g2⟩ := (Bool.and_eq_true _ _).mp hbc
        obtain ⟨g0, g1⟩ := (Bool.and_eq_true _ _).mp g0
        replace g0 := Nat.le_of_ble_eq_true g0
        replace g1 := Nat.le_of_ble_eq_true g1
        replace g2 := Nat.le_of_ble_eq_true g2
        split at h
        · next v hv =>
          cases ho9 : (e_okI v && Nat.blt k 3) with
          | false => rw [ho9, cond_false] at h; cases h
          | true =>
            rw [ho9, cond_true] at h
            obtain ⟨ho9, hk3⟩ := (Bool.and_eq_true _ _).mp ho9
            replace hk3 : k < 3 := Nat.le_of_ble_eq_true hk3
            obtain ⟨z, w', c', hK, hok⟩ := hg _ _ _ _ _ _ _ h
            refine ⟨z, w', c', hK, e_step hok ?_⟩
            intro p l e R s m args below meth cd Q ad D tys base nL as0 k0 s0 hC hW
            obtain ⟨hx, hb⟩ := e_cc hM hq hC
            intro as ws H locs ls ys hS
            obtain ⟨h1, h2, h3, h4, h5, h6, h7⟩ := hS
            obtain ⟨y0, ys, rfl, hr0, h80⟩ := e_st_cons h2
            obtain ⟨x, ys, rfl, hr, h8⟩ := e_st_cons h80
            cases (show x = .ref (ad k) from hr)
            obtain ⟨i9, i1, i2, i3, rfl⟩ := e_rel_rg hr0 hi
            dsimp only at i1 i2
            obtain ⟨ty, f, cell, f1, f2, f3, f4, f5, f6, f7, f8⟩ := e_for hC g0 h6
            obtain ⟨j1, j2⟩ := e_rget_t hv (by omega) (i9 - 2147483648) (by omega) (by omega)
            have hrel := f8 _ _ j1
            have hrel2 : e_rel ad as v (f (i9 - 2147483648)) := e_rel_mono hrel ⟨as, rfl⟩
            subst hnx
            have hidx := e_in i3 (by omega) j2
            obtain ⟨zz, hzz⟩ := e_rel_I hrel ho9
            cases f1 (by omega)
            exact W.iald (v := f (i9 - 2147483648)) hx hb f2 f3 f4 (by intro q; rcases q with q | q; exact hidx (Or.inl q); exact hidx (Or.inr (by omega))) (by rw [e_i_cl i3 (by omega)]; exact f7 _ j2) rfl rfl hd (hW as ws H locs ls (f (i9 - 2147483648) :: ys) ⟨h1, ⟨hrel2, h8⟩, h3, h4, h5, h6, h7⟩)
        · cases h
    · cases h
  · exact s_ialdO hq hd hnx g hg F al _ w c K hM h
theorem s_zald {nx : Nat} (hq : (e_ml[M]?).map (·.2.1) = some cc) (hd : decode cc pc = .ok (.baload, 1)) (hnx : nx = pc + 1) : e_Sn M pc (o_aldO 1 nx) := by
  intro g hg F al st w c K hM h
  unfold o_aldO at h
  split at h
  · next i q r =>
    split at h
    · next l1 h1 t rs hi hc =>
      cases hbc : (Nat.beq t 1 && Nat.ble 2147483648 l1 && Nat.ble l1 h1) with
      | false => rw [hbc, cond_false] at h; cases h
      | true =>
        rw [hbc, cond_true] at h
        obtain ⟨g0, g2⟩ := (Bool.and_eq_true _ _).mp hbc
        obtain ⟨g0, g1⟩ := (Bool.and_eq_true _ _).mp g0
        replace g0 := Nat.eq_of_beq_eq_true g0
        replace g1 := Nat.le_of_ble_eq_true g1
        replace g2 := Nat.le_of_ble_eq_true g2
        subst g0
        split at h
        · next v hv =>
          obtain ⟨z, w', c', hK, hok⟩ := hg _ _ _ _ _ _ _ h
          refine ⟨z, w', c', hK, e_step hok ?_⟩
          intro p l e R s m args below meth cd Q ad D tys base nL as0 k0 s0 hC hW
          obtain ⟨hx, hb⟩ := e_cc hM hq hC
          intro as ws H locs ls ys hS
          obtain ⟨h1, h2, h3, h4, h5, h6, h7⟩ := hS
          obtain ⟨y0, ys, rfl, hr0, h80⟩ := e_st_cons h2
          obtain ⟨x, ys, rfl, hr, h8⟩ := e_st_cons h80
          obtain ⟨a, ha, rfl⟩ := e_ref hr
          obtain ⟨i9, i1, i2, i3, rfl⟩ := e_rel_rg hr0 hi
          dsimp only at i1 i2
          obtain ⟨e', he, hent⟩ := e_wk_at h3 ha
          rw [hc] at hent
          cases e' with
          | inr z => exact hent.elim
          | inl o =>
            obtain ⟨cA, n, f⟩ := o
            obtain ⟨⟨ty, hty⟩, hn, hn2, harr⟩ := hent
            have hk := e_kt_at hC.2.2.2.2.1 hty
            obtain rfl : ty = .boolean := (Option.some.inj hk).symm
            rcases f with f | f
            · skip
              have hrel : e_rel ad as v (.int (f (i9 - 2147483648))) := harr _ _ (e_rget_t hv (by omega) (i9 - 2147483648) (by omega) (by omega)).1
              obtain ⟨j1, j2⟩ := e_rget_t hv (by omega) (i9 - 2147483648) (by omega) (by omega)
              subst hnx
              exact va_zald hx hb hC.2.2.2.2.1.1 h4 q _ he hty (e_in i3 (by omega) (by omega)) hd (by rw [e_i_cl i3 (by omega)]; exact hW as ws H locs ls (.int (f (i9 - 2147483648)) :: ys) ⟨h1, ⟨hrel, h8⟩, h3, h4, h5, h6, h7⟩)
            · exact harr.elim
        · cases h
    · cases h
  · cases h
theorem s_lald {nx : Nat} (hq : (e_ml[M]?).map (·.2.1) = some cc) (hd : decode cc pc = .ok (.laload, 1)) (hnx : nx = pc + 1) : e_Sn M pc (o_aldO 2 nx) := by
  intro g hg F al st w c K hM h
  unfold o_aldO at h
  split at h
  · next i q r =>
    split at h
    · next l1 h1 t rs hi hc =>
      cases hbc : (Nat.beq t 2 && Nat.ble 2147483648 l1 && Nat.ble l1 h1) with
      | false => rw [hbc, cond_false] at h; cases h
      | true =>
        rw [hbc, cond_true] at h
        obtain ⟨g0, g2⟩ := (Bool.and_eq_true _ _).mp hbc
        obtain ⟨g0, g1⟩ := (Bool.and_eq_true _ _).mp g0
        replace g0 := Nat.eq_of_beq_eq_true g0
        replace g1 := Nat.le_of_ble_eq_true g1
        replace g2 := Nat.le_of_ble_eq_true g2
        subst g0
        split at h
        · next v hv =>
          obtain ⟨z, w', c', hK, hok⟩ := hg _ _ _ _ _ _ _ h
          refine ⟨z, w', c', hK, e_step hok ?_⟩
          intro p l e R s m args below meth cd Q ad D tys base nL as0 k0 s0 hC hW
          obtain ⟨hx, hb⟩ := e_cc hM hq hC
          intro as ws H locs ls ys hS
          obtain ⟨h1, h2, h3, h4, h5, h6, h7⟩ := hS
          obtain ⟨y0, ys, rfl, hr0, h80⟩ := e_st_cons h2
          obtain ⟨x, ys, rfl, hr, h8⟩ := e_st_cons h80
          obtain ⟨a, ha, rfl⟩ := e_ref hr
          obtain ⟨i9, i1, i2, i3, rfl⟩ := e_rel_rg hr0 hi
          dsimp only at i1 i2
          obtain ⟨e', he, hent⟩ := e_wk_at h3 ha
          rw [hc] at hent
          cases e' with
          | inr z => exact hent.elim
          | inl o =>
            obtain ⟨cA, n, f⟩ := o
            obtain ⟨⟨ty, hty⟩, hn, hn2, harr⟩ := hent
            have hk := e_kt_at hC.2.2.2.2.1 hty
            obtain rfl : ty = .long := (Option.some.inj hk).symm
            rcases f with f | f | f
            · exact harr.elim
            · skip
              have hrel : e_rel ad as v (.long (f (i9 - 2147483648))) := harr _ _ (e_rget_t hv (by omega) (i9 - 2147483648) (by omega) (by omega)).1
              obtain ⟨j1, j2⟩ := e_rget_t hv (by omega) (i9 - 2147483648) (by omega) (by omega)
              subst hnx
              exact va_lald hx hb hC.2.2.2.2.1.1 h4 q _ he hty (e_in i3 (by omega) (by omega)) hd (by rw [e_i_cl i3 (by omega)]; exact hW as ws H locs ls (.long (f (i9 - 2147483648)) :: ys) ⟨h1, ⟨hrel, h8⟩, h3, h4, h5, h6, h7⟩)
            · exact harr.elim
        · cases h
    · cases h
  · cases h
theorem s_aald {nx : Nat} {tc : Nat} {E : String} (hkt : e_kt[tc + 3]? = some (.object E)) (hq : (e_ml[M]?).map (·.2.1) = some cc) (hd : decode cc pc = .ok (.aaload, 1)) (hnx : nx = pc + 1) : e_Sn M pc (o_aldO (tc + 3) nx) := by
  intro g hg F al st w c K hM h
  unfold o_aldO at h
  split at h
  · next i q r =>
    split at h
    · next l1 h1 t rs hi hc =>
      cases hbc : (Nat.beq t (tc + 3) && Nat.ble 2147483648 l1 && Nat.ble l1 h1) with
      | false => rw [hbc, cond_false] at h; cases h
      | true =>
        rw [hbc, cond_true] at h
        obtain ⟨g0, g2⟩ := (Bool.and_eq_true _ _).mp hbc
        obtain ⟨g0, g1⟩ := (Bool.and_eq_true _ _).mp g0
        replace g0 := Nat.eq_of_beq_eq_true g0
        replace g1 := Nat.le_of_ble_eq_true g1
        replace g2 := Nat.le_of_ble_eq_true g2
        subst g0
        split at h
        · next v hv =>
          obtain ⟨z, w', c', hK, hok⟩ := hg _ _ _ _ _ _ _ h
          refine ⟨z, w', c', hK, e_step hok ?_⟩
          intro p l e R s m args below meth cd Q ad D tys base nL as0 k0 s0 hC hW
          obtain ⟨hx, hb⟩ := e_cc hM hq hC
          intro as ws H locs ls ys hS
          obtain ⟨h1, h2, h3, h4, h5, h6, h7⟩ := hS
          obtain ⟨y0, ys, rfl, hr0, h80⟩ := e_st_cons h2
          obtain ⟨x, ys, rfl, hr, h8⟩ := e_st_cons h80
          obtain ⟨a, ha, rfl⟩ := e_ref hr
          obtain ⟨i9, i1, i2, i3, rfl⟩ := e_rel_rg hr0 hi
          dsimp only at i1 i2
          obtain ⟨e', he, hent⟩ := e_wk_at h3 ha
          rw [hc] at hent
          cases e' with
          | inr z => exact hent.elim
          | inl o =>
            obtain ⟨cA, n, f⟩ := o
            obtain ⟨⟨ty, hty⟩, hn, hn2, harr⟩ := hent
            have hk := e_kt_at hC.2.2.2.2.1 hty
            obtain rfl : ty = .object E := Option.some.inj (hk.symm.trans hkt)
            rcases f with f | f | f | f | f
            · exact harr.elim
            · exact harr.elim
            · exact harr.elim
            · exact harr.elim
            · skip
              have hrel : e_rel ad as v (va_rf (f (i9 - 2147483648))) := harr _ _ (e_rget_t hv (by omega) (i9 - 2147483648) (by omega) (by omega)).1
              obtain ⟨j1, j2⟩ := e_rget_t hv (by omega) (i9 - 2147483648) (by omega) (by omega)
              subst hnx
              exact va_aldq hx hb hC.2.2.2.2.1.1 h4 q _ he hty (e_in i3 (by omega) (by omega)) hd (by rw [e_i_cl i3 (by omega)]; exact hW as ws H locs ls (va_rf (f (i9 - 2147483648)) :: ys) ⟨h1, ⟨hrel, h8⟩, h3, h4, h5, h6, h7⟩)
        · cases h
    · cases h
  · cases h
end SN
