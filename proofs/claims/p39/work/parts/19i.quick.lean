section RQ
noncomputable def rq_getO (old : Option e_O) : e_O := fun g F al st w c K => match al, st with
  | [some (.inr (.inl (some t))), some (.inl m)], [] => (match rq_la w t with
    | some (a, n) => (match rq_gv w a n m with
      | some v => bif e_okR v && (Nat.ble 2 F.2.1 && Nat.ble 60 F.2.2.1) then K (.inl (some v)) w c else r_old old g F al st w c K
      | none => r_old old g F al st w c K)
    | none => r_old old g F al st w c K)
  | _, _ => r_old old g F al st w c K
theorem rq_getT {old : Option e_O} (h : ∀ o, old = some o → e_Sn 110 0 o) : e_Sn 110 0 (rq_getO old) := by
  intro g hg F al st w c K hM hk
  have ho := r_oldT h g hg F al st w c K hM
  unfold rq_getO at hk
  split at hk
  · next t m =>
    split at hk
    · next a n ha =>
      split at hk
      · next v hv =>
        cases hc : (e_okR v && (Nat.ble 2 F.2.1 && Nat.ble 60 F.2.2.1)) with
        | false => rw [hc, cond_false] at hk; exact ho hk
        | true =>
          rw [hc, cond_true] at hk
          obtain ⟨k1, hc⟩ := (Bool.and_eq_true _ _).mp hc
          obtain ⟨k2, k3⟩ := (Bool.and_eq_true _ _).mp hc
          obtain ⟨F1, fr, lo, bx⟩ := F
          have hM1 : F1 = 110 := hM
          subst hM1
          obtain ⟨fs, g1, g2, g3⟩ := rq_la_t ha
          obtain ⟨rs, g4, g5, g6, g7⟩ := rq_gv_t hv
          exact ⟨_, w, c, hk, rq_gOk (Nat.le_of_ble_eq_true k2) (Nat.le_of_ble_eq_true k3) g1 g2 g3 g4 g5 g6 g7 k1⟩
      · exact ho hk
    · exact ho hk
  · exact ho hk
noncomputable def rq_ls (x : e_C) : Option Nat := match x with
  | .inl (ci, _ :: (.inr (.inl (some t))) :: _) => bif Nat.beq ci 16 then some t else none
  | _ => none
theorem rq_ls_t {x : e_C} {t : Nat} (h : rq_ls x = some t) : ∃ gs, x = .inl (16, gs) ∧ e_nth gs 1 = some (e_R t) := by
  unfold rq_ls at h
  split at h
  · next ci y b l =>
    cases hb : Nat.beq ci 16 with
    | true =>
      rw [hb, cond_true] at h
      cases h
      obtain rfl := Nat.eq_of_beq_eq_true hb
      exact ⟨_, rfl, rfl⟩
    | false => rw [hb, cond_false] at h; cases h
  · cases h
noncomputable def rq_lw (w : e_W) (s : Nat) : Option Nat := bif Nat.ble s 8191 then rq_ls (f_tg w s) else none
theorem rq_lw_t {w : e_W} {s t : Nat} (h : rq_lw w s = some t) : ∃ gs, e_tget 13 w s = .inl (16, gs) ∧ e_nth gs 1 = some (e_R t) := by
  unfold rq_lw at h
  cases hb : Nat.ble s 8191 with
  | true => rw [hb, cond_true, f_tg_eq hb] at h; exact rq_ls_t h
  | false => rw [hb, cond_false] at h; cases h
noncomputable def rq_rf (v : Option e_V) : Option Nat := match v with
  | some (.inr (.inl (some q))) => some q
  | _ => none
theorem rq_rf_t {v : Option e_V} {q : Nat} (h : rq_rf v = some q) : v = some (e_R q) := by
  unfold rq_rf at h
  split at h
  · cases h; rfl
  · cases h
end RQ
