section RQ
noncomputable def rq_topO (old : Option e_O) : e_O := fun g F al st w c K => match al, st with
  | [some (.inr (.inl (some s)))], [] => (match rq_lw w s with
    | some t => (match rq_la w t with
      | some (a, n) => e_fo ((n + 6442450944 - 2147483649) % 4294967296) (fun m => match rq_rf (rq_gv w a n m) with
        | some q => bif Nat.ble q 8191 && (Nat.beq (e_cod (f_tg w q)) 15 && (Nat.ble 3 F.2.1 && Nat.ble 100 F.2.2.1)) then K (.inl (some (e_R q))) w c else r_old old g F al st w c K
        | none => r_old old g F al st w c K)
      | none => r_old old g F al st w c K)
    | none => r_old old g F al st w c K)
  | _, _ => r_old old g F al st w c K
theorem rq_topT {old : Option e_O} (h : ∀ o, old = some o → e_Sn 98 0 o) : e_Sn 98 0 (rq_topO old) := by
  intro g hg F al st w c K hM hk
  have ho := r_oldT h g hg F al st w c K hM
  unfold rq_topO at hk
  split at hk
  · next s =>
    split at hk
    · next t ht =>
      split at hk
      · next a n ha =>
        rw [r_fo] at hk
        generalize hm : (n + 6442450944 - 2147483649) % 4294967296 = m at hk
        split at hk
        · next q hv =>
          cases hc : (Nat.ble q 8191 && (Nat.beq (e_cod (f_tg w q)) 15 && (Nat.ble 3 F.2.1 && Nat.ble 100 F.2.2.1))) with
          | false => rw [hc, cond_false] at hk; exact ho hk
          | true =>
            rw [hc, cond_true] at hk
            obtain ⟨k0, hc⟩ := (Bool.and_eq_true _ _).mp hc
            obtain ⟨k1, hc⟩ := (Bool.and_eq_true _ _).mp hc
            obtain ⟨k2, k3⟩ := (Bool.and_eq_true _ _).mp hc
            rw [f_tg_eq k0] at k1
            obtain ⟨F1, fr, lo, bx⟩ := F
            have hM1 : F1 = 98 := hM
            subst hM1
            obtain ⟨gs, q1, q2⟩ := rq_lw_t ht
            obtain ⟨fs, g1, g2, g3⟩ := rq_la_t ha
            obtain ⟨rs, g4, g5, g6, g7⟩ := rq_gv_t (rq_rf_t hv)
            exact ⟨_, w, c, hk, rq_tOk (Nat.le_of_ble_eq_true k2) (Nat.le_of_ble_eq_true k3) q1 q2 g1 g2 g3 hm g4 g5 g6 g7 (Nat.eq_of_beq_eq_true k1)⟩
        · exact ho hk
      · exact ho hk
    · exact ho hk
  · exact ho hk
noncomputable def rq_f0 (ci : Nat) (x : e_C) : Option Nat := match x with
  | .inl (cj, (.inr (.inl (some t))) :: _) => bif Nat.beq cj ci then some t else none
  | _ => none
theorem rq_f0_t {ci : Nat} {x : e_C} {t : Nat} (h : rq_f0 ci x = some t) : ∃ gs, x = .inl (ci, gs) ∧ e_nth gs 0 = some (e_R t) := by
  unfold rq_f0 at h
  split at h
  · next cj b l =>
    cases hb : Nat.beq cj ci with
    | true =>
      rw [hb, cond_true] at h
      cases h
      obtain rfl := Nat.eq_of_beq_eq_true hb
      exact ⟨_, rfl, rfl⟩
    | false => rw [hb, cond_false] at h; cases h
  · cases h
noncomputable def rq_fw (ci : Nat) (w : e_W) (s : Nat) : Option Nat := bif Nat.ble s 8191 then rq_f0 ci (f_tg w s) else none
theorem rq_fw_t {ci : Nat} {w : e_W} {s t : Nat} (h : rq_fw ci w s = some t) : ∃ gs, e_tget 13 w s = .inl (ci, gs) ∧ e_nth gs 0 = some (e_R t) := by
  unfold rq_fw at h
  cases hb : Nat.ble s 8191 with
  | true => rw [hb, cond_true, f_tg_eq hb] at h; exact rq_f0_t h
  | false => rw [hb, cond_false] at h; cases h
end RQ
