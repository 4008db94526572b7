/-- System.arraycopy of no element, among arrays of ints -/
noncomputable def o_copy0 (nx : Nat) : e_O := fun g F ls st w c K => match st with
  | .inl n :: .inl dp :: .inr (.inl (some q1)) :: .inl sp :: .inr (.inl (some q0)) :: r =>
    bif Nat.beq n 2147483648 && Nat.beq dp 2147483648 && Nat.beq sp 2147483648 && Nat.beq (e_cod (e_tget 13 w q0)) 100 && Nat.beq (e_cod (e_tget 13 w q1)) 100 && Nat.blt 0 F.2.1 && Nat.ble 4000 F.2.2.1 && Nat.ble (e_stw r) 8 then g F nx ls r w c K else false
  | _ => false
section SN
variable {M pc : Nat} {cc : ByteArray}
theorem e_int_of {ad : Nat → Nat} {as : List Nat} {tys : List (ClassId × FieldType)} {x : e_C} {e' : va_E} (hent : e_ent ad as tys x e') (h : e_cod x = 100) (hcl : ∀ ci fs, x = .inl (ci, fs) → ci < 100) : ∃ cA n f, e' = .inl (cA, n, .inl f) ∧ (∃ ty, tys[0]? = some (cA, ty)) := by
  cases x with
  | inl o1 =>
    obtain ⟨ci, fs⟩ := o1
    have := hcl ci fs rfl
    have h2 : ci = 100 := h
    omega
  | inr o1 =>
    obtain ⟨t, rs⟩ := o1
    have h2 : 100 + t = 100 := h
    obtain rfl : t = 0 := by omega
    cases e' with
    | inr z => exact hent.elim
    | inl o2 =>
      obtain ⟨cA, n, f⟩ := o2
      obtain ⟨hty, -, -, harr⟩ := hent
      rcases f with f | f
      · exact ⟨cA, n, f, rfl, hty⟩
      · exact harr.elim
theorem s_copy0 {nx index : Nat} {own : String} (hq : (e_ml[M]?).map (·.2.1) = some cc) (ho : (e_ml[M]?).map (·.1.cls) = some own) (hl1 : Jvm.Cond.methodLink own index arraycopyName ∈ lw_tbl) (hl2 : Jvm.Cond.native arraycopyName ∈ lw_tbl) (hl3 : Jvm.Cond.static arraycopyName ∈ lw_tbl) (hl4 : Jvm.Cond.initialized "java/lang/System" ∈ lw_tbl) (hd : decode cc pc = .ok (.invokestatic index, 3)) (hnx : nx = pc + 3) : e_Sn M pc (o_copy0 nx) := by
  intro g hg F al st w c K hM h
  unfold o_copy0 at h
  split at h
  · next n dp q1 sp q0 r =>
    cases hbc : (Nat.beq n 2147483648 && Nat.beq dp 2147483648 && Nat.beq sp 2147483648 && Nat.beq (e_cod (e_tget 13 w q0)) 100 && Nat.beq (e_cod (e_tget 13 w q1)) 100 && Nat.blt 0 F.2.1 && Nat.ble 4000 F.2.2.1 && Nat.ble (e_stw r) 8) with
    | false => rw [hbc, cond_false] at h; cases h
    | true =>
      rw [hbc, cond_true] at h
      obtain ⟨hbc, g8⟩ := (Bool.and_eq_true _ _).mp hbc
      obtain ⟨hbc, g7⟩ := (Bool.and_eq_true _ _).mp hbc
      obtain ⟨hbc, g6⟩ := (Bool.and_eq_true _ _).mp hbc
      obtain ⟨hbc, g5⟩ := (Bool.and_eq_true _ _).mp hbc
      obtain ⟨hbc, g4⟩ := (Bool.and_eq_true _ _).mp hbc
      obtain ⟨hbc, g3⟩ := (Bool.and_eq_true _ _).mp hbc
      obtain ⟨g1, g2⟩ := (Bool.and_eq_true _ _).mp hbc
      replace g1 := Nat.eq_of_beq_eq_true g1
      replace g2 := Nat.eq_of_beq_eq_true g2
      replace g3 := Nat.eq_of_beq_eq_true g3
      replace g4 := Nat.eq_of_beq_eq_true g4
      replace g5 := Nat.eq_of_beq_eq_true g5
      replace g6 : 0 < F.2.1 := Nat.le_of_ble_eq_true g6
      replace g7 := Nat.le_of_ble_eq_true g7
      replace g8 := Nat.le_of_ble_eq_true g8
      obtain ⟨z, w', c', hK, hok⟩ := hg _ _ _ _ _ _ _ h
      refine ⟨z, w', c', hK, e_stepR hok ?_⟩
      intro p l e R s m args below meth cd Q ad D tys base nL as0 k0 s0 hC hf hl hW
      obtain ⟨hx, hb⟩ := e_cc hM hq hC
      intro as ws H locs ls ys hS
      obtain ⟨h1, h2, h3, h4, h5, h6, h7⟩ := hS
      obtain ⟨x1, ys, rfl, hr1, j1⟩ := e_st_cons h2
      obtain ⟨x2, ys, rfl, hr2, j2⟩ := e_st_cons j1
      obtain ⟨x3, ys, rfl, hr3, j3⟩ := e_st_cons j2
      obtain ⟨x4, ys, rfl, hr4, j4⟩ := e_st_cons j3
      obtain ⟨x5, ys, rfl, hr5, j5⟩ := e_st_cons j4
      obtain ⟨-, rfl⟩ := hr1
      obtain ⟨-, rfl⟩ := hr2
      obtain ⟨-, rfl⟩ := hr4
      obtain ⟨a1, ha1, rfl⟩ := e_ref hr3
      obtain ⟨a0, ha0, rfl⟩ := e_ref hr5
      subst g1; subst g2; subst g3
      obtain ⟨e1, he1, hen1⟩ := e_wk_at h3 ha1
      obtain ⟨e0, he0, hen0⟩ := e_wk_at h3 ha0
      have hsmall : ∀ (q : Nat) (a : Nat) (e' : va_E), ws[q]? = some (a, e') → e_ent ad as tys (e_tget 13 w q) e' → ∀ ci fs, e_tget 13 w q = .inl (ci, fs) → ci < 100 := by
        intro q a e' hw he ci fs hx9
        rw [hx9] at he
        cases e' with
        | inl z => exact he.elim
        | inr o2 =>
          obtain ⟨cj, vs⟩ := o2
          obtain ⟨rfl, -, -⟩ := he
          obtain ⟨r9, q1, -⟩ := h4 q _ hw
          have := (List.getElem?_eq_some_iff.mp q1).1
          have h100 : e_cl.length ≤ 100 := by decide
          omega
      obtain ⟨c1, n1, f1, rfl, ty1, ht1⟩ := e_int_of hen1 g5 (hsmall q1 _ _ he1 hen1)
      obtain ⟨c0, n0, f0, rfl, ty0, ht0⟩ := e_int_of hen0 g4 (hsmall q0 _ _ he0 hen0)
      obtain rfl : ty0 = .int := (Option.some.inj (e_kt_at hC.2.2.2.2.1 ht0)).symm
      obtain rfl : ty1 = .int := (Option.some.inj (e_kt_at hC.2.2.2.2.1 ht1)).symm
      have hz : (e_i 2147483648).toNatClampNeg = 0 := by rw [e_i_cl (by decide) (by decide)]
      have hzn : ¬ e_i 2147483648 < 0 := e_i_neg (by decide) (by decide)
      subst hnx
      have hsz : cd.maxLocals = ls.size := (h1.2.choose_spec.1.1.trans (by obtain ⟨-, -, -, -, -, -, -, q9, -, -, r3, -⟩ := hC; exact r3.symm)).symm
      refine va_copyi hx hb hsz (e_own hM ho hC) (e_wd hC hl1 rfl) (e_wd hC hl2 rfl) (e_wd hC hl3 rfl) (e_wd hC hl4 rfl) hC.2.2.2.2.1.1 h4 h5 h6 q0 q1 0 0 he0 he1 ht0 ht1 rfl hzn hzn hzn (by rw [hz]; omega) (by rw [hz]; omega) (fun i hi => by rw [hz] at hi; omega) (by omega) ?_ hd (fun H1 locs1 p1 p2 p3 => ?_)
      · rw [e_stw_t j5]
        have hw9 : nativeFrameWords "java/lang/System" "arraycopy" 5 + 11 ≤ 3000 := by decide +kernel
        omega
      · have hcp : va_cpy f0 f1 (e_i 2147483648).toNatClampNeg (e_i 2147483648).toNatClampNeg (e_i 2147483648).toNatClampNeg = f1 := by
          funext k
          unfold va_cpy
          rw [hz, if_neg (by omega)]
        rw [hcp] at p1 p2
        have hset : ws.set q1 (a1, .inl (c1, n1, .inl f1)) = ws := by
          apply List.ext_getElem?
          intro j
          rw [List.getElem?_set]
          split
          · next hj =>
            subst hj
            split
            · rw [he1]
            · next hn => exact absurd (List.getElem?_eq_some_iff.mp he1).1 hn
          · rfl
        rw [hset] at p1 p2
        exact hW as ws H1 locs1 ls ys ⟨h1, j5, h3, p1, p2, p3, h7⟩
  · cases h
end SN
