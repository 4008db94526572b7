section SN
variable {M pc : Nat} {cc : ByteArray}
/-- a field of a class of ours, by the place of the class and of the field -/
noncomputable def e_fok (own ref : String) (index ci k : Nat) (C : String) (T : u_T) (N : Nat) : Prop := e_cl[ci]? = some (C, T, N) ∧ k < N ∧ (∀ w ∈ u_ws C T N, w ∈ lw_tbl) ∧ Jvm.Cond.fieldLink own index ref (T k).2.1 (T k).2.2.1 ∈ lw_tbl ∧ ((T k).1 = ref ∨ Jvm.Cond.sameField ref (T k).1 (T k).2.1 (T k).2.2.1 ∈ lw_tbl)
theorem e_sm {F : e_F} {nL base : Nat} {p : Program} {l : Launch} {s : State} {m : MethodId} {args : Array Value} {meth : Method} {cd : Code} {ad : Nat → Nat} {D : va_G} {tys : List (ClassId × FieldType)} (hC : e_Cx F p l s m args meth cd ad D tys base nL) {own ref : String} {index ci k : Nat} {C : String} {T : u_T} {N : Nat} (hf : e_fok own ref index ci k C T N) : ∀ x, s.fieldFound? (T k).1 (T k).2.1 (T k).2.2.1 = some x → s.fieldFound? ref (T k).2.1 (T k).2.2.1 = some x := by
  intro x hx
  rcases hf.2.2.2.2 with h | h
  · rw [← h]; exact hx
  · exact u_same (e_wd hC h rfl) x hx
/-- two values that are related to the same reference of ours -/
theorem e_ref {ad : Nat → Nat} {as : List Nat} {i : Nat} {x : Value} (h : e_rel ad as (.inr (.inl (some i))) x) : ∃ a, as[i]? = some a ∧ x = .ref a := h
theorem s_getf {nx index ci k : Nat} {own ref C : String} {T : u_T} {N : Nat} (hq : (e_ml[M]?).map (·.2.1) = some cc) (ho : (e_ml[M]?).map (·.1.cls) = some own) (hf : e_fok own ref index ci k C T N) (hd : decode cc pc = .ok (.getfield index, 3)) (hnx : nx = pc + 3) : e_Sn M pc (o_getf (e_f1 ci k) nx) := by
  intro g hg F al st w c K hM h
  unfold o_getf at h
  split at h
  · next q r =>
      split at h
      · next cj fs hc =>
        split at h
        · next i hi =>
          split at h
          · next v hv =>
            have e1 : cj = ci ∧ i = k := by
              unfold e_f1 at hi
              cases hb9 : Nat.beq cj ci with
              | false => rw [hb9, cond_false] at hi; cases hi
              | true => rw [hb9, cond_true] at hi; exact ⟨Nat.eq_of_beq_eq_true hb9, (Option.some.inj hi).symm⟩
            obtain ⟨rfl, rfl⟩ := e1
            obtain ⟨z, w', c', hK, hok⟩ := hg _ _ _ _ _ _ _ h
            refine ⟨z, w', c', hK, e_step hok ?_⟩
            intro p l e R s m args below meth cd Q ad D tys base nL as0 k0 s0 hC hW
            obtain ⟨hx, hb⟩ := e_cc hM hq hC
            intro as ws H locs ls ys hS
            obtain ⟨h1, h2, h3, h4, h5, h6, h7⟩ := hS
            obtain ⟨x, ys, rfl, hr, h8⟩ := e_st_cons h2
            obtain ⟨a, ha, rfl⟩ := e_ref hr
            obtain ⟨e', he, hent⟩ := e_wk_at h3 ha
            rw [hc] at hent
            cases e' with
            | inl z => exact hent.elim
            | inr o =>
              obtain ⟨cj2, vs⟩ := o
              obtain ⟨rfl, hlen, hvs⟩ := hent
              rw [e_nth_eq] at hv
              obtain ⟨y, hy, hry⟩ := hvs i v hv
              subst hnx
              exact va_get (own := own) (Ts := e_ws) hx hb hC.2.2.2.1 (e_uws hf.2.2.1) (e_own hM ho hC) hC.2.2.2.2.1.1 h4 q he hf.1 i hf.2.1 (e_wd hC hf.2.2.2.1 rfl) (e_sm hC hf) hy hd (hW as ws H locs ls (y :: ys) ⟨h1, ⟨hry, h8⟩, h3, h4, h5, h6, h7⟩)
          · cases h
        · cases h
      · cases h
  · cases h
/-- what a field of a type takes -/
noncomputable def e_oks (ty : FieldType) (ok : e_V → Bool) : Prop := ∀ (ad : Nat → Nat) (as : List Nat) (v : e_V) (x : Value), ok v = true → e_rel ad as v x → narrow ty x = x ∧ fits ty x = true
theorem e_oksI : e_oks .int e_okI := fun ad as v x h hr => by obtain ⟨z, rfl⟩ := e_rel_I hr h; exact ⟨rfl, rfl⟩
theorem e_oksL : e_oks .long e_okL := fun ad as v x h hr => by obtain ⟨z, rfl⟩ := e_rel_L hr h; exact ⟨rfl, rfl⟩
theorem e_oksR {C : String} : e_oks (.object C) e_okR := fun ad as v x h hr => by rcases e_rel_R hr h with rfl | ⟨z, rfl⟩ <;> exact ⟨rfl, rfl⟩
theorem e_oksA {t : FieldType} : e_oks (.array t) e_okR := fun ad as v x h hr => by rcases e_rel_R hr h with rfl | ⟨z, rfl⟩ <;> exact ⟨rfl, rfl⟩
theorem e_okZ_t {ad : Nat → Nat} {as : List Nat} {v : e_V} {x : Value} (h : e_okZ v = true) (hr : e_rel ad as v x) : x = .int 0 ∨ x = .int 1 := by
  unfold e_okZ at h
  split at h
  · next l1 h1 hq =>
    obtain ⟨g1, g2⟩ := (Bool.and_eq_true _ _).mp h
    replace g1 := Nat.le_of_ble_eq_true g1
    replace g2 := Nat.le_of_ble_eq_true g2
    obtain ⟨m, m1, m2, m3, rfl⟩ := e_rel_rg hr hq
    dsimp only at m1 m2
    have e0 : e_i 2147483648 = 0 := e_i0
    have e1 : e_i 2147483649 = 1 := by decide
    by_cases hm : m = 2147483648
    · left; rw [hm, e0]
    · right; rw [show m = 2147483649 by omega, e1]
  · cases h
theorem e_oksZ : e_oks .boolean e_okZ := fun ad as v x h hr => by
  rcases e_okZ_t h hr with rfl | rfl
  · exact ⟨by decide, by decide⟩
  · exact ⟨by decide, by decide⟩
theorem s_putf {nx index ci k : Nat} {own ref C : String} {T : u_T} {N : Nat} {ty0 : Nat → FieldType} {ok : e_V → Bool} (hq : (e_ml[M]?).map (·.2.1) = some cc) (ho : (e_ml[M]?).map (·.1.cls) = some own) (hf : e_fok own ref index ci k C T N) (hty : ∀ k, k < N → parseFieldDescriptor (T k).2.2.1 = some (ty0 k)) (hnm : ∀ a, a < N → ∀ b, b < N → a ≠ b → (T a).2.1 ≠ (T b).2.1) (hok9 : e_oks (ty0 k) ok)
    (hfin : (T k).2.2.2 = false ∨ ((T k).2.2.2 = true ∧ (T k).1 = own ∧ (e_ml[M]?).map (·.1.name) = some "<init>")) (hd : decode cc pc = .ok (.putfield index, 3)) (hnx : nx = pc + 3) : e_Sn M pc (o_putf (e_f1 ci k) ok nx) := by
  intro g hg F al st w c K hM h
  unfold o_putf at h
  split at h
  · next v q r =>
    cases hbc : (ok v && Nat.blt q 8192) with
    | false => rw [hbc, cond_false] at h; cases h
    | true =>
      rw [hbc, cond_true] at h
      obtain ⟨hokv, hq512⟩ := (Bool.and_eq_true _ _).mp hbc
      replace hq512 : q < 2 ^ 13 := Nat.le_of_ble_eq_true hq512
      split at h
      · next cj fs hc =>
        split at h
        · next i hi =>
          have e1 : cj = ci ∧ i = k := by
            unfold e_f1 at hi
            cases hb9 : Nat.beq cj ci with
            | false => rw [hb9, cond_false] at hi; cases hi
            | true => rw [hb9, cond_true] at hi; exact ⟨Nat.eq_of_beq_eq_true hb9, (Option.some.inj hi).symm⟩
          obtain ⟨rfl, rfl⟩ := e1
          obtain ⟨hlt, h⟩ := e_rep_t h
          obtain ⟨w1, h, hw1⟩ := e_tput_t 13 w q _ hq512 h
          obtain ⟨z, w', c', hK, hok⟩ := hg _ _ _ _ _ _ _ h
          refine ⟨z, w', c', hK, e_step hok ?_⟩
          intro p l e R s m args below meth cd Q ad D tys base nL as0 k0 s0 hC hW
          obtain ⟨hx, hb⟩ := e_cc hM hq hC
          intro as ws H locs ls ys hS
          obtain ⟨h1, h2, h3, h4, h5, h6, h7⟩ := hS
          obtain ⟨x0, ys, rfl, hr0, h80⟩ := e_st_cons h2
          obtain ⟨x, ys, rfl, hr, h8⟩ := e_st_cons h80
          obtain ⟨a, ha, rfl⟩ := e_ref hr
          obtain ⟨e', he, hent⟩ := e_wk_at h3 ha
          rw [hc] at hent
          cases e' with
          | inl z => exact hent.elim
          | inr o =>
            obtain ⟨cj2, vs⟩ := o
            obtain ⟨rfl, hlen, hvs⟩ := hent
            subst hnx
            obtain ⟨hn1, hn2⟩ := hok9 ad as v x0 hokv hr0
            have hent2 : e_ent ad as tys (.inl (cj, fs.set i v)) (.inr (cj, vs.set i x0)) := by
              refine ⟨rfl, by simp [hlen], fun j u hj => ?_⟩
              rw [List.getElem?_set] at hj ⊢
              by_cases hij : i = j
              · subst hij
                rw [if_pos rfl, if_pos hlt] at hj
                cases hj
                rw [if_pos rfl, if_pos (by omega)]
                exact ⟨x0, rfl, hr0⟩
              · rw [if_neg hij] at hj ⊢
                exact hvs j u hj
            have hnext : ∀ (H1 : Heap) (locs1 : List Loc), va_P D e_cl (ws.set q (a, .inr (cj, vs.set i x0))) H1 → va_D (e_A0 base) (ws.set q (a, .inr (cj, vs.set i x0))) → va_S (e_A0 base) s.heap H1 locs1 → W p l e R s m args below meth cd H1 locs1 (c.2.1 - k0) (c.2.2 - s0) Q (F0 m (pc + 3) ls ys) := fun H1 locs1 i1 i2 i3 => hW as _ H1 locs1 ls ys ⟨h1, h8, e_wk_set h3 he hw1 hent2, i1, i2, i3, h7⟩
            rcases hfin with hfin | ⟨hfin, hdecl, hin⟩
            · exact va_put (own := own) (Ts := e_ws) (D := D) (cl := e_cl) (ty := ty0 i) hx hb hC.2.2.2.1 (e_uws hf.2.2.1) ty0 hty hnm (e_own hM ho hC) hC.2.2.2.2.1.1 h4 h5 h6 q he hf.1 i hf.2.1 (e_wd hC hf.2.2.2.1 rfl) (e_sm hC hf) hfin (hty i hf.2.1) hn1 hn2 (by omega) hd hnext
            · have hin2 : meth.name = "<init>" := by
                obtain ⟨-, -, -, -, -, -, -, q9, g1, g2, g3, g4, g5, g6, g7⟩ := hC
                rw [hM] at g1
                rw [g1] at hin
                rw [g7.1]
                exact Option.some.inj hin
              exact va_putF (own := own) (Ts := e_ws) (D := D) (cl := e_cl) (ty := ty0 i) hx hb hC.2.2.2.1 (e_uws hf.2.2.1) ty0 hty hnm (e_own hM ho hC) hC.2.2.2.2.1.1 h4 h5 h6 q he hf.1 i hf.2.1 (e_wd hC hf.2.2.2.1 rfl) (e_sm hC hf) hfin hin2 hdecl (hty i hf.2.1) hn1 hn2 (by omega) hd hnext
        · cases h
      · cases h
  · cases h
end SN
