section SN
variable {M pc : Nat} {cc : ByteArray}
theorem s_iast {nx : Nat} (hq : (e_ml[M]?).map (·.2.1) = some cc) (hd : decode cc pc = .ok (.iastore, 1)) (hnx : nx = pc + 1) : e_Sn M pc (o_ast 0 e_okI nx) := by
  intro g hg F al st w c K hM h
  unfold o_ast at h
  split at h
  · next v i q r =>
    cases hbc : (e_okI v && Nat.blt q 8192 && Nat.ble 2147483648 i) with
    | false => rw [hbc, cond_false] at h; cases h
    | true =>
      rw [hbc, cond_true] at h
      obtain ⟨g0, hi2⟩ := (Bool.and_eq_true _ _).mp hbc
      obtain ⟨hokv, hq512⟩ := (Bool.and_eq_true _ _).mp g0
      replace hi2 := Nat.le_of_ble_eq_true hi2
      replace hq512 : q < 2 ^ 13 := Nat.le_of_ble_eq_true hq512
      split at h
      · next t rs hc =>
        cases hbt : Nat.beq t 0 with
        | false => rw [hbt, cond_false] at h; cases h
        | true =>
          rw [hbt, cond_true] at h
          replace hbt := Nat.eq_of_beq_eq_true hbt
          subst hbt
          obtain ⟨rs', h, hlt, hlen, hrat⟩ := e_rset_t h
          obtain ⟨w1, h, hw1⟩ := e_tput_t 13 w q _ hq512 h
          obtain ⟨z, w', c', hK, hok⟩ := hg _ _ _ _ _ _ _ h
          refine ⟨z, w', c', hK, e_step hok ?_⟩
          intro p l e R s m args below meth cd Q ad D tys base nL as0 k0 s0 hC hW
          obtain ⟨hx, hb⟩ := e_cc hM hq hC
          intro as ws H locs ls ys hS
          obtain ⟨h1, h2, h3, h4, h5, h6, h7⟩ := hS
          obtain ⟨x0, ys, rfl, hr0, h80⟩ := e_st_cons h2
          obtain ⟨x1, ys, rfl, hr1, h81⟩ := e_st_cons h80
          obtain ⟨x, ys, rfl, hr, h8⟩ := e_st_cons h81
          obtain ⟨a, ha, rfl⟩ := e_ref hr
          obtain ⟨hi3, rfl⟩ := hr1
          obtain ⟨e', he, hent⟩ := e_wk_at h3 ha
          rw [hc] at hent
          cases e' with
          | inr z => exact hent.elim
          | inl o =>
            obtain ⟨cA, n, f⟩ := o
            obtain ⟨⟨ty, hty⟩, hn, hn2, harr⟩ := hent
            have hk := e_kt_at hC.2.2.2.2.1 hty
            obtain rfl : ty = .int := (Option.some.inj hk).symm
            subst hnx
            rcases f with f | f
            · skip
              obtain ⟨zz, rfl⟩ := e_rel_I hr0 hokv
              have hent2 : e_ent ad as tys (.inr (0, rs')) (.inl (cA, n, .inl (upd f (i - 2147483648) zz))) := ⟨⟨_, hty⟩, by omega, hn2, fun j u hj => by
                rw [hrat] at hj
                unfold upd
                by_cases hji : j = i - 2147483648
                · rw [if_pos hji] at hj; cases hj; rw [if_pos hji]; exact hr0
                · rw [if_neg hji] at hj; rw [if_neg hji]; exact harr j u hj⟩
              exact va_iast hx hb hC.2.2.2.2.1.1 h4 h5 h6 q _ he hty (e_in hi3 hi2 (by omega)) hd (fun H1 locs1 p1 p2 p3 => by
                rw [e_i_cl hi3 hi2] at p1 p2
                exact hW as _ H1 locs1 ls ys ⟨h1, h8, e_wk_set h3 he hw1 hent2, p1, p2, p3, h7⟩)
            · exact harr.elim
      · cases h
  · cases h
theorem s_zast {nx : Nat} (hq : (e_ml[M]?).map (·.2.1) = some cc) (hd : decode cc pc = .ok (.bastore, 1)) (hnx : nx = pc + 1) : e_Sn M pc (o_ast 1 e_okZ nx) := by
  intro g hg F al st w c K hM h
  unfold o_ast at h
  split at h
  · next v i q r =>
    cases hbc : (e_okZ v && Nat.blt q 8192 && Nat.ble 2147483648 i) with
    | false => rw [hbc, cond_false] at h; cases h
    | true =>
      rw [hbc, cond_true] at h
      obtain ⟨g0, hi2⟩ := (Bool.and_eq_true _ _).mp hbc
      obtain ⟨hokv, hq512⟩ := (Bool.and_eq_true _ _).mp g0
      replace hi2 := Nat.le_of_ble_eq_true hi2
      replace hq512 : q < 2 ^ 13 := Nat.le_of_ble_eq_true hq512
      split at h
      · next t rs hc =>
        cases hbt : Nat.beq t 1 with
        | false => rw [hbt, cond_false] at h; cases h
        | true =>
          rw [hbt, cond_true] at h
          replace hbt := Nat.eq_of_beq_eq_true hbt
          subst hbt
          obtain ⟨rs', h, hlt, hlen, hrat⟩ := e_rset_t h
          obtain ⟨w1, h, hw1⟩ := e_tput_t 13 w q _ hq512 h
          obtain ⟨z, w', c', hK, hok⟩ := hg _ _ _ _ _ _ _ h
          refine ⟨z, w', c', hK, e_step hok ?_⟩
          intro p l e R s m args below meth cd Q ad D tys base nL as0 k0 s0 hC hW
          obtain ⟨hx, hb⟩ := e_cc hM hq hC
          intro as ws H locs ls ys hS
          obtain ⟨h1, h2, h3, h4, h5, h6, h7⟩ := hS
          obtain ⟨x0, ys, rfl, hr0, h80⟩ := e_st_cons h2
          obtain ⟨x1, ys, rfl, hr1, h81⟩ := e_st_cons h80
          obtain ⟨x, ys, rfl, hr, h8⟩ := e_st_cons h81
          obtain ⟨a, ha, rfl⟩ := e_ref hr
          obtain ⟨hi3, rfl⟩ := hr1
          obtain ⟨e', he, hent⟩ := e_wk_at h3 ha
          rw [hc] at hent
          cases e' with
          | inr z => exact hent.elim
          | inl o =>
            obtain ⟨cA, n, f⟩ := o
            obtain ⟨⟨ty, hty⟩, hn, hn2, harr⟩ := hent
            have hk := e_kt_at hC.2.2.2.2.1 hty
            obtain rfl : ty = .boolean := (Option.some.inj hk).symm
            subst hnx
            rcases f with f | f
            · skip
              have hz9 : ∃ zz, x0 = .int zz ∧ vp_nar .boolean zz = zz := by
                rcases e_okZ_t hokv hr0 with rfl | rfl
                · exact ⟨_, rfl, by decide⟩
                · exact ⟨_, rfl, by decide⟩
              obtain ⟨zz, rfl, hnar⟩ := hz9
              have hent2 : e_ent ad as tys (.inr (1, rs')) (.inl (cA, n, .inl (upd f (i - 2147483648) zz))) := ⟨⟨_, hty⟩, by omega, hn2, fun j u hj => by
                rw [hrat] at hj
                unfold upd
                by_cases hji : j = i - 2147483648
                · rw [if_pos hji] at hj; cases hj; rw [if_pos hji]; exact hr0
                · rw [if_neg hji] at hj; rw [if_neg hji]; exact harr j u hj⟩
              exact va_zast hx hb hC.2.2.2.2.1.1 h4 h5 h6 q _ he hty (e_in hi3 hi2 (by omega)) hd (fun H1 locs1 p1 p2 p3 => by
                rw [e_i_cl hi3 hi2, hnar] at p1 p2
                exact hW as _ H1 locs1 ls ys ⟨h1, h8, e_wk_set h3 he hw1 hent2, p1, p2, p3, h7⟩)
            · exact harr.elim
      · cases h
  · cases h
theorem s_last {nx : Nat} (hq : (e_ml[M]?).map (·.2.1) = some cc) (hd : decode cc pc = .ok (.lastore, 1)) (hnx : nx = pc + 1) : e_Sn M pc (o_ast 2 e_okL nx) := by
  intro g hg F al st w c K hM h
  unfold o_ast at h
  split at h
  · next v i q r =>
    cases hbc : (e_okL v && Nat.blt q 8192 && Nat.ble 2147483648 i) with
    | false => rw [hbc, cond_false] at h; cases h
    | true =>
      rw [hbc, cond_true] at h
      obtain ⟨g0, hi2⟩ := (Bool.and_eq_true _ _).mp hbc
      obtain ⟨hokv, hq512⟩ := (Bool.and_eq_true _ _).mp g0
      replace hi2 := Nat.le_of_ble_eq_true hi2
      replace hq512 : q < 2 ^ 13 := Nat.le_of_ble_eq_true hq512
      split at h
      · next t rs hc =>
        cases hbt : Nat.beq t 2 with
        | false => rw [hbt, cond_false] at h; cases h
        | true =>
          rw [hbt, cond_true] at h
          replace hbt := Nat.eq_of_beq_eq_true hbt
          subst hbt
          obtain ⟨rs', h, hlt, hlen, hrat⟩ := e_rset_t h
          obtain ⟨w1, h, hw1⟩ := e_tput_t 13 w q _ hq512 h
          obtain ⟨z, w', c', hK, hok⟩ := hg _ _ _ _ _ _ _ h
          refine ⟨z, w', c', hK, e_step hok ?_⟩
          intro p l e R s m args below meth cd Q ad D tys base nL as0 k0 s0 hC hW
          obtain ⟨hx, hb⟩ := e_cc hM hq hC
          intro as ws H locs ls ys hS
          obtain ⟨h1, h2, h3, h4, h5, h6, h7⟩ := hS
          obtain ⟨x0, ys, rfl, hr0, h80⟩ := e_st_cons h2
          obtain ⟨x1, ys, rfl, hr1, h81⟩ := e_st_cons h80
          obtain ⟨x, ys, rfl, hr, h8⟩ := e_st_cons h81
          obtain ⟨a, ha, rfl⟩ := e_ref hr
          obtain ⟨hi3, rfl⟩ := hr1
          obtain ⟨e', he, hent⟩ := e_wk_at h3 ha
          rw [hc] at hent
          cases e' with
          | inr z => exact hent.elim
          | inl o =>
            obtain ⟨cA, n, f⟩ := o
            obtain ⟨⟨ty, hty⟩, hn, hn2, harr⟩ := hent
            have hk := e_kt_at hC.2.2.2.2.1 hty
            obtain rfl : ty = .long := (Option.some.inj hk).symm
            subst hnx
            rcases f with f | f | f
            · exact harr.elim
            · skip
              obtain ⟨zz, rfl⟩ := e_rel_L hr0 hokv
              have hent2 : e_ent ad as tys (.inr (2, rs')) (.inl (cA, n, .inr (.inl (vp_updL f (i - 2147483648) zz)))) := ⟨⟨_, hty⟩, by omega, hn2, fun j u hj => by
                rw [hrat] at hj
                unfold vp_updL
                by_cases hji : j = i - 2147483648
                · rw [if_pos hji] at hj; cases hj; rw [if_pos hji]; exact hr0
                · rw [if_neg hji] at hj; rw [if_neg hji]; exact harr j u hj⟩
              exact va_last hx hb hC.2.2.2.2.1.1 h4 h5 h6 q _ he hty (e_in hi3 hi2 (by omega)) hd (fun H1 locs1 p1 p2 p3 => by
                rw [e_i_cl hi3 hi2] at p1 p2
                exact hW as _ H1 locs1 ls ys ⟨h1, h8, e_wk_set h3 he hw1 hent2, p1, p2, p3, h7⟩)
            · exact harr.elim
      · cases h
  · cases h
/-- what may lie in an array of references to E -/
noncomputable def e_cnm (k : Nat) : Option String := bif Nat.blt k 100 then (e_cl[k]?).map (·.1) else (e_kt[k - 100]?).map (fun t => "[" ++ t.toString)
theorem s_aast {nx tc : Nat} {E : String} {okc : Nat → Bool} (hq : (e_ml[M]?).map (·.2.1) = some cc) (hkt : e_kt[tc + 3]? = some (.object E)) (hcl : e_cl.length ≤ 100) (hokc : ∀ k, okc k = true → ∃ C, e_cnm k = some C ∧ (C = E ∧ k < 100 ∨ Jvm.Cond.castable C E ∈ lw_tbl)) (hd : decode cc pc = .ok (.aastore, 1)) (hnx : nx = pc + 1) : e_Sn M pc (o_astR (tc + 3) okc nx) := by
  intro g hg F al st w c K hM h
  unfold o_astR at h
  split at h
  · next v i q r =>
    cases hbc : (e_okS okc w v && Nat.blt q 8192 && Nat.ble 2147483648 i) with
    | false => rw [hbc, cond_false] at h; cases h
    | true =>
      rw [hbc, cond_true] at h
      obtain ⟨g0, hi2⟩ := (Bool.and_eq_true _ _).mp hbc
      obtain ⟨hokv, hq512⟩ := (Bool.and_eq_true _ _).mp g0
      replace hi2 := Nat.le_of_ble_eq_true hi2
      replace hq512 : q < 2 ^ 13 := Nat.le_of_ble_eq_true hq512
      split at h
      · next t rs hc =>
        cases hbt : Nat.beq t (tc + 3) with
        | false => rw [hbt, cond_false] at h; cases h
        | true =>
          rw [hbt, cond_true] at h
          replace hbt := Nat.eq_of_beq_eq_true hbt
          subst hbt
          obtain ⟨rs', h, hlt, hlen, hrat⟩ := e_rset_t h
          obtain ⟨w1, h, hw1⟩ := e_tput_t 13 w q _ hq512 h
          obtain ⟨z, w', c', hK, hok⟩ := hg _ _ _ _ _ _ _ h
          refine ⟨z, w', c', hK, e_step hok ?_⟩
          intro p l e R s m args below meth cd Q ad D tys base nL as0 k0 s0 hC hW
          obtain ⟨hx, hb⟩ := e_cc hM hq hC
          intro as ws H locs ls ys hS
          obtain ⟨h1, h2, h3, h4, h5, h6, h7⟩ := hS
          obtain ⟨x0, ys, rfl, hr0, h80⟩ := e_st_cons h2
          obtain ⟨x1, ys, rfl, hr1, h81⟩ := e_st_cons h80
          obtain ⟨x, ys, rfl, hr, h8⟩ := e_st_cons h81
          obtain ⟨a, ha, rfl⟩ := e_ref hr
          obtain ⟨hi3, rfl⟩ := hr1
          obtain ⟨e', he, hent⟩ := e_wk_at h3 ha
          rw [hc] at hent
          cases e' with
          | inr z => exact hent.elim
          | inl o =>
            obtain ⟨cA, n, f⟩ := o
            obtain ⟨⟨ty, hty⟩, hn, hn2, harr⟩ := hent
            have hk := e_kt_at hC.2.2.2.2.1 hty
            obtain rfl : ty = .object E := Option.some.inj (hk.symm.trans hkt)
            subst hnx
            rcases f with f | f | f | f | f
            · exact harr.elim
            · exact harr.elim
            · exact harr.elim
            · exact harr.elim
            · skip
              have hent2 : ∀ y : Option Nat, e_rel ad as v (va_rf y) → e_ent ad as tys (.inr (tc + 3, rs')) (.inl (cA, n, .inr (.inr (.inr (.inr (va_up f (i - 2147483648) y)))))) := fun y hy => ⟨⟨_, hty⟩, by omega, hn2, fun j u hj => by
                rw [hrat] at hj
                unfold va_up
                by_cases hji : j = i - 2147483648
                · rw [if_pos hji] at hj; cases hj; rw [if_pos hji]; exact hy
                · rw [if_neg hji] at hj; rw [if_neg hji]; exact harr j u hj⟩
              unfold e_okS at hokv
              split at hokv
              · cases (show x0 = .null from hr0)
                exact va_astqN hx hb hC.2.2.2.2.1.1 h4 h5 h6 q _ he hty (e_in hi3 hi2 (by omega)) hd (fun H1 locs1 p1 p2 p3 => by
                  rw [e_i_cl hi3 hi2] at p1 p2
                  exact hW as _ H1 locs1 ls ys ⟨h1, h8, e_wk_set h3 he hw1 (hent2 none rfl), p1, p2, p3, h7⟩)
              · next j =>
                obtain ⟨b, hb9, rfl⟩ := e_ref hr0
                obtain ⟨e2, he2, hen2⟩ := e_wk_at h3 hb9
                have hany : va_Any E s H b := by
                  obtain ⟨C, hC1, hC2⟩ := hokc _ hokv
                  generalize e_tget 13 w j = xx at hen2 hokv hC1 hC2
                  cases xx with
                  | inl o1 =>
                    obtain ⟨ci, fs⟩ := o1
                    cases e2 with
                    | inl z => exact hen2.elim
                    | inr o2 =>
                      obtain ⟨cj, vs⟩ := o2
                      obtain ⟨rfl, -, -⟩ := hen2
                      obtain ⟨r9, q1, -⟩ := h4 j _ he2
                      have hlt9 : ci < 100 := by
                        have := (List.getElem?_eq_some_iff.mp q1).1
                        omega
                      have hCr : C = r9.1 := by
                        unfold e_cnm e_cod at hC1
                        rw [show Nat.blt ci 100 = true from Nat.ble_eq_true_of_le hlt9, cond_true, q1] at hC1
                        exact (Option.some.inj hC1).symm
                      refine va_rAny hC.2.2.2.2.1.1 h4 he2 q1 (fun comp c0 f1 f2 => ?_)
                      rcases hC2 with ⟨hCE, -⟩ | hC2
                      · rw [← hCr, hCE] at f2
                        cases f1.symm.trans f2
                        have hat := (hC.2.2.2.2.1.1.1 ci r9 q1).2
                        have hat2 := hat.1
                        rw [← hCr, hCE] at hat2
                        cases hat2.symm.trans f1
                        exact va_assign hat
                      · obtain ⟨a1, a2, a3, a4, a5⟩ := Cond.castable_spec (va_Nw.use (A := args) rfl (hC.2.2.2.2.1.2.2.1 _ (List.mem_filter.mpr ⟨hC2, rfl⟩)))
                        rw [← hCr] at f2
                        cases f2.symm.trans a3
                        cases f1.symm.trans a4
                        exact a5
                  | inr o1 =>
                    obtain ⟨t2, rs2⟩ := o1
                    cases e2 with
                    | inr z => exact hen2.elim
                    | inl o2 =>
                      obtain ⟨cB, nB, fB⟩ := o2
                      obtain ⟨⟨tyB, htyB⟩, -, -, -⟩ := hen2
                      have hkB := e_kt_at hC.2.2.2.2.1 htyB
                      have hCr : C = "[" ++ tyB.toString := by
                        unfold e_cnm e_cod at hC1
                        have hge : Nat.blt (100 + t2) 100 = false := by
                          cases hc9 : Nat.blt (100 + t2) 100 with
                          | false => rfl
                          | true => exact absurd (Nat.le_of_ble_eq_true hc9 : 100 + t2 < 100) (by omega)
                        rw [hge, cond_false, Nat.add_sub_cancel_left, hkB] at hC1
                        exact (Option.some.inj hC1).symm
                      rcases hC2 with ⟨-, hlt9⟩ | hC2
                      · unfold e_cod at hlt9; dsimp only at hlt9; omega
                      · obtain ⟨a1, a2, a3, a4, a5⟩ := Cond.castable_spec (va_Nw.use (A := args) rfl (hC.2.2.2.2.1.2.2.1 _ (List.mem_filter.mpr ⟨hC2, rfl⟩)))
                        have hRA := (hC.2.2.2.2.1.1.2 t2 _ htyB)
                        have hfc : s.vm.findClass ("[" ++ tyB.toString) = some cB := by
                          obtain ⟨-, hRA⟩ := hRA
                          unfold va_RA at hRA
                          cases tyB with
                          | object C9 => obtain ⟨_, _, _, _, _, q9⟩ := hRA; exact q9
                          | _ => exact hRA
                        rw [hCr] at a3
                        cases hfc.symm.trans a3
                        obtain ⟨kC, hkC, -⟩ := Vm.findClass_spec hfc
                        have hcell := h4 j _ he2
                        have hce : ∃ cellV : Cell, H[b]? = some cellV ∧ cellV.vm.isStatics = false ∧ cellV.cls = cB := by
                          unfold va_at at hcell
                          dsimp only at hcell
                          refine ⟨_, hcell, ?_, ?_⟩
                          · unfold vp_cell; split <;> rfl
                          · unfold vp_cell; split <;> rfl
                        obtain ⟨cellV, v1, v2, v3⟩ := hce
                        exact ⟨cellV, v1, v2, ⟨kC, by rw [v3]; exact hkC⟩, fun comp f1 => by cases f1.symm.trans a4; rw [v3]; exact a5⟩
                exact va_astqM hx hb hC.2.2.2.2.1.1 h4 h5 h6 q _ he hty hany (e_in hi3 hi2 (by omega)) hd (fun H1 locs1 p1 p2 p3 => by
                  rw [e_i_cl hi3 hi2] at p1 p2
                  exact hW as _ H1 locs1 ls ys ⟨h1, h8, e_wk_set h3 he hw1 (hent2 (some b) ⟨b, hb9, rfl⟩), p1, p2, p3, h7⟩)
              · cases hokv
      · cases h
  · cases h
theorem e_stepN {F : e_F} {pc nx : Nat} {al al' : e_A} {st st' : List e_V} {w w1 w' : e_W} {c c1 c' : e_Q} {z : e_Z} (hok : e_Ok F nx al' st' w1 c1 z w' c') (g1 : c.1 ≤ c1.1) (g2 : c.2.1 ≤ c1.2.1) (g3 : c.2.2 ≤ c1.2.2)
    (hrow : ∀ (p : Program) (l : Launch) (e : Env) (R : Room) (s : State) (m : MethodId) (args : Array Value) (below : List Frame) (meth : Method) (cd : Code) (Q : State → Prop) (ad : Nat → Nat) (D : va_G) (tys : List (ClassId × FieldType)) (base nL : Nat) (as0 : List Nat) (k0 s0 : Nat), e_Cx F p l s m args meth cd ad D tys base nL → k0 ≤ c.2.1 → s0 ≤ c.2.2 → c1.2.1 - k0 ≤ R.cells → c1.2.2 - s0 ≤ R.slots → e_wg p l e R s m args below meth cd Q ad D tys base nL as0 k0 s0 nx al' st' w1 c1 → e_wg p l e R s m args below meth cd Q ad D tys base nL as0 k0 s0 pc al st w c) : e_Ok F pc al st w c z w' c' := by
  obtain ⟨h1, h2, h3, h4⟩ := hok
  refine ⟨Nat.le_trans g1 h1, Nat.le_trans g2 h2, Nat.le_trans g3 h3, ?_⟩
  intro p l e R s m args below meth cd Q ad D tys base nL as0 k0 s0 hC hf hl hk hs hc hsl hE
  exact hrow p l e R s m args below meth cd Q ad D tys base nL as0 k0 s0 hC hk hs (by omega) (by omega) (h4 p l e R s m args below meth cd Q ad D tys base nL as0 k0 s0 hC hf hl (by omega) (by omega) hc hsl hE)
theorem e_push_t {x : e_C} {n : Nat} {w : e_W} {c : e_Q} {k : e_W → e_Q → Bool} (h : e_push x n w c k = true) : ∃ w1, k w1 (c.1 + 1, c.2.1 + 1, c.2.2 + n) = true ∧ c.1 < 8192 ∧ ∀ j, j < 2 ^ 13 → e_tget 13 w1 j = if j = c.1 then x else e_tget 13 w j := by
  obtain ⟨q, cc, ss⟩ := c
  unfold e_push at h
  dsimp only at h
  cases hb : Nat.blt q 8192 with
  | false => rw [hb, cond_false] at h; cases h
  | true =>
    rw [hb, cond_true] at h
    replace hb : q < 8192 := Nat.le_of_ble_eq_true hb
    obtain ⟨w1, h, hw⟩ := e_tput_t 13 w q _ hb h
    exact ⟨w1, e_fo_t (e_fo_t (e_fo_t h)), hb, hw⟩
theorem s_new {nx index ci N : Nat} {own C : String} {T : u_T} {ty0 : Nat → FieldType} {fs : List e_V} {fv : List Value} (hq : (e_ml[M]?).map (·.2.1) = some cc) (ho : (e_ml[M]?).map (·.1.cls) = some own) (hcl : e_cl[ci]? = some (C, T, N)) (hin : ∀ w ∈ u_ws C T N, w ∈ lw_tbl) (hty : ∀ k, k < N → parseFieldDescriptor (T k).2.2.1 = some (ty0 k)) (hl1 : Jvm.Cond.classLink own index C ∈ lw_tbl) (hl2 : Jvm.Cond.instantiable C N ∈ lw_tbl) (hl3 : Jvm.Cond.initialized C ∈ lw_tbl)
    (hfv : ∀ j, j < N → defaultValue (ty0 j) = vp_V fv j) (hlen : fs.length = fv.length) (hrel : ∀ (ad : Nat → Nat) (as : List Nat) (k : Nat) (v : e_V), fs[k]? = some v → ∃ y, fv[k]? = some y ∧ e_rel ad as v y) (hd : decode cc pc = .ok (.new index, 3)) (hnx : nx = pc + 3) : e_Sn M pc (o_new ci N fs nx) := by
  intro g hg F al st w c K hM h
  unfold o_new at h
  obtain ⟨w1, h, hn, hw1⟩ := e_push_t h
  obtain ⟨z, w', c', hK, hok⟩ := hg _ _ _ _ _ _ _ h
  refine ⟨z, w', c', hK, e_stepN hok (by dsimp only; omega) (by dsimp only; omega) (by dsimp only; omega) ?_⟩
  intro p l e R s m args below meth cd Q ad D tys base nL as0 k0 s0 hC hk0 hs0 hc hsl hW
  obtain ⟨hx, hb⟩ := e_cc hM hq hC
  intro as ws H locs ls ys hS
  obtain ⟨h1, h2, h3, h4, h5, h6, h7⟩ := hS
  dsimp only at hc hsl hW
  subst hnx
  refine va_new (own := own) (Ts := e_ws) (D := D) (cl := e_cl) (ci := ci) hx hb hC.2.2.2.1 (e_uws hin) ty0 hty (e_own hM ho hC) (e_wd hC hl1 rfl) (e_wd hC hl2 rfl) (e_wd hC hl3 rfl) hC.2.2.2.2.1.1 h4 h5 h6 (fun q hq => Nat.le_trans hC.2.2.2.2.2.1 hq) hcl hfv (by omega) (by omega) hd (fun q H1 p1 p2 p3 => ?_)
  have hq : as.length = c.1 := by rw [← h3.1, List.length_map, h3.2.1]
  have hmono : as <+: as ++ [q] := ⟨[q], rfl⟩
  have hfin := hW (as ++ [q]) _ H1 locs ls (.ref q :: ys) ⟨e_lo_mono h1 hmono, ⟨⟨q, by rw [List.getElem?_append_right (by omega), hq, Nat.sub_self]; rfl, rfl⟩, e_st_mono hmono h2⟩, e_wk_push h3 hn hw1 (show e_ent ad (as ++ [q]) tys (.inl (ci, fs)) (.inr (ci, fv)) from ⟨rfl, hlen, hrel ad _⟩), p1, p2, p3, List.IsPrefix.trans h7 hmono⟩
  dsimp only at hfin
  rw [Nat.sub_add_comm hk0, Nat.sub_add_comm hs0] at hfin
  exact hfin
theorem s_newI {nx : Nat} (ha : Jvm.Cond.arrayClass .int ∈ lw_tbl) (hq : (e_ml[M]?).map (·.2.1) = some cc) (hd : decode cc pc = .ok (.newarray .int, 2)) (hnx : nx = pc + 2) : e_Sn M pc (o_newa 0 (e_I 2147483648) nx) := by
  intro g hg F al st w c K hM h
  unfold o_newa at h
  split at h
  · next m9 r =>
    cases hbc : (Nat.ble 2147483648 m9 && Nat.ble m9 2214592512) with
    | false => rw [hbc, cond_false] at h; cases h
    | true =>
      rw [hbc, cond_true] at h
      obtain ⟨g1, g2⟩ := (Bool.and_eq_true _ _).mp hbc
      replace g1 := Nat.le_of_ble_eq_true g1
      replace g2 := Nat.le_of_ble_eq_true g2
      have key : ∃ rs w1, e_rlen rs = m9 - 2147483648 ∧ (∀ j v, e_rat rs j = some v → v = (e_I 2147483648)) ∧ g F nx al (.inr (.inl (some c.1)) :: r) w1 (c.1 + 1, c.2.1 + 1, c.2.2 + (m9 - 2147483648)) K = true ∧ c.1 < 8192 ∧ ∀ j, j < 2 ^ 13 → e_tget 13 w1 j = if j = c.1 then .inr (0, rs) else e_tget 13 w j := by
        generalize hN : m9 - 2147483648 = N at h
        cases N with
        | zero =>
          obtain ⟨w1, h, hn, hw1⟩ := e_push_t h
          exact ⟨[], w1, rfl, (fun j v hv => by cases hv), h, hn, hw1⟩
        | succ N =>
          obtain ⟨w1, h, hn, hw1⟩ := e_push_t h
          refine ⟨[(N + 1, (e_I 2147483648))], w1, rfl, fun j v hv => ?_, h, hn, hw1⟩
          rw [e_rat_cons] at hv
          split at hv
          · exact (Option.some.inj hv).symm
          · cases hv
      obtain ⟨rs, w1, hrl, hrv, h, hn, hw1⟩ := key
      obtain ⟨z, w', c', hK, hok⟩ := hg _ _ _ _ _ _ _ h
      refine ⟨z, w', c', hK, e_stepN hok (by dsimp only; omega) (by dsimp only; omega) (by dsimp only; omega) ?_⟩
      intro p l e R s m args below meth cd Q ad D tys base nL as0 k0 s0 hC hk0 hs0 hc hsl hW
      obtain ⟨hx, hb⟩ := e_cc hM hq hC
      intro as ws H locs ls ys hS
      obtain ⟨h1, h2, h3, h4, h5, h6, h7⟩ := hS
      obtain ⟨x0, ys, rfl, ⟨hm3, rfl⟩, h8⟩ := e_st_cons h2
      dsimp only at hc hsl hW
      subst hnx
      have hq : as.length = c.1 := by rw [← h3.1, List.length_map, h3.2.1]
      obtain ⟨N, hN⟩ : ∃ N, N = m9 - 2147483648 := ⟨_, rfl⟩
      rw [← hN] at hsl
      refine va_newa (atype := .int) (a0 := (N, .inl (fun _ => 0))) hx hb (e_wd hC ha rfl) rfl hC.2.2.2.2.1.1 h4 h5 h6 (fun q hq => Nat.le_trans hC.2.2.2.2.2.1 hq) (fun cA => rfl) (e_i_neg hm3 g1) (by rw [e_i_cl hm3 g1, hN]) (by show N * 4 ≤ 536870912; omega) (by omega) (by omega) hd (fun q cA H1 pK p1 p2 p3 => ?_)
      have hmono : as <+: as ++ [q] := ⟨[q], rfl⟩
      have hcA : ∃ ty, tys[0]? = some (cA, ty) := by
        cases hz : tys[0]? with
        | none =>
          have h9 := hC.2.2.2.2.1.2.1
          have h10 : (tys.map (·.2))[0]? = some .int := by rw [h9]; exact rfl
          rw [List.getElem?_map, hz] at h10
          cases h10
        | some z =>
          obtain ⟨cB, tyB⟩ := z
          have h10 : tyB = .int := Option.some.inj ((e_kt_at hC.2.2.2.2.1 hz).symm.trans (rfl))
          subst h10
          have r1 := (hC.2.2.2.2.1.1.2 _ _ hz).2
          have r2 := (pK.2 tys.length (cA, .int) (by rw [List.getElem?_append_right (Nat.le_refl _), Nat.sub_self]; rfl)).2
          unfold va_RA at r1 r2
          cases r1.symm.trans r2
          exact ⟨_, rfl⟩
      have hfin := hW (as ++ [q]) _ H1 locs ls (.ref q :: ys) ⟨e_lo_mono h1 hmono, ⟨⟨q, by rw [List.getElem?_append_right (by omega), hq, Nat.sub_self]; rfl, rfl⟩, e_st_mono hmono h8⟩, e_wk_push h3 hn hw1 (show e_ent ad (as ++ [q]) tys (.inr (0, rs)) (.inl (cA, N, .inl (fun _ => 0))) from ⟨hcA, by omega, by omega, fun j v hv => by rw [hrv j v hv]; exact ⟨by decide, by rw [e_i0]⟩⟩), p1, p2, p3, List.IsPrefix.trans h7 hmono⟩
      dsimp only at hfin
      rw [← hN, Nat.sub_add_comm hk0, Nat.sub_add_comm hs0] at hfin
      exact hfin
  · cases h
theorem s_newZ {nx : Nat} (ha : Jvm.Cond.arrayClass .boolean ∈ lw_tbl) (hq : (e_ml[M]?).map (·.2.1) = some cc) (hd : decode cc pc = .ok (.newarray .boolean, 2)) (hnx : nx = pc + 2) : e_Sn M pc (o_newa 1 (e_I 2147483648) nx) := by
  intro g hg F al st w c K hM h
  unfold o_newa at h
  split at h
  · next m9 r =>
    cases hbc : (Nat.ble 2147483648 m9 && Nat.ble m9 2214592512) with
    | false => rw [hbc, cond_false] at h; cases h
    | true =>
      rw [hbc, cond_true] at h
      obtain ⟨g1, g2⟩ := (Bool.and_eq_true _ _).mp hbc
      replace g1 := Nat.le_of_ble_eq_true g1
      replace g2 := Nat.le_of_ble_eq_true g2
      have key : ∃ rs w1, e_rlen rs = m9 - 2147483648 ∧ (∀ j v, e_rat rs j = some v → v = (e_I 2147483648)) ∧ g F nx al (.inr (.inl (some c.1)) :: r) w1 (c.1 + 1, c.2.1 + 1, c.2.2 + (m9 - 2147483648)) K = true ∧ c.1 < 8192 ∧ ∀ j, j < 2 ^ 13 → e_tget 13 w1 j = if j = c.1 then .inr (1, rs) else e_tget 13 w j := by
        generalize hN : m9 - 2147483648 = N at h
        cases N with
        | zero =>
          obtain ⟨w1, h, hn, hw1⟩ := e_push_t h
          exact ⟨[], w1, rfl, (fun j v hv => by cases hv), h, hn, hw1⟩
        | succ N =>
          obtain ⟨w1, h, hn, hw1⟩ := e_push_t h
          refine ⟨[(N + 1, (e_I 2147483648))], w1, rfl, fun j v hv => ?_, h, hn, hw1⟩
          rw [e_rat_cons] at hv
          split at hv
          · exact (Option.some.inj hv).symm
          · cases hv
      obtain ⟨rs, w1, hrl, hrv, h, hn, hw1⟩ := key
      obtain ⟨z, w', c', hK, hok⟩ := hg _ _ _ _ _ _ _ h
      refine ⟨z, w', c', hK, e_stepN hok (by dsimp only; omega) (by dsimp only; omega) (by dsimp only; omega) ?_⟩
      intro p l e R s m args below meth cd Q ad D tys base nL as0 k0 s0 hC hk0 hs0 hc hsl hW
      obtain ⟨hx, hb⟩ := e_cc hM hq hC
      intro as ws H locs ls ys hS
      obtain ⟨h1, h2, h3, h4, h5, h6, h7⟩ := hS
      obtain ⟨x0, ys, rfl, ⟨hm3, rfl⟩, h8⟩ := e_st_cons h2
      dsimp only at hc hsl hW
      subst hnx
      have hq : as.length = c.1 := by rw [← h3.1, List.length_map, h3.2.1]
      obtain ⟨N, hN⟩ : ∃ N, N = m9 - 2147483648 := ⟨_, rfl⟩
      rw [← hN] at hsl
      refine va_newa (atype := .boolean) (a0 := (N, .inl (fun _ => 0))) hx hb (e_wd hC ha rfl) rfl hC.2.2.2.2.1.1 h4 h5 h6 (fun q hq => Nat.le_trans hC.2.2.2.2.2.1 hq) (fun cA => rfl) (e_i_neg hm3 g1) (by rw [e_i_cl hm3 g1, hN]) (by show N * 1 ≤ 536870912; omega) (by omega) (by omega) hd (fun q cA H1 pK p1 p2 p3 => ?_)
      have hmono : as <+: as ++ [q] := ⟨[q], rfl⟩
      have hcA : ∃ ty, tys[1]? = some (cA, ty) := by
        cases hz : tys[1]? with
        | none =>
          have h9 := hC.2.2.2.2.1.2.1
          have h10 : (tys.map (·.2))[1]? = some .boolean := by rw [h9]; exact rfl
          rw [List.getElem?_map, hz] at h10
          cases h10
        | some z =>
          obtain ⟨cB, tyB⟩ := z
          have h10 : tyB = .boolean := Option.some.inj ((e_kt_at hC.2.2.2.2.1 hz).symm.trans (rfl))
          subst h10
          have r1 := (hC.2.2.2.2.1.1.2 _ _ hz).2
          have r2 := (pK.2 tys.length (cA, .boolean) (by rw [List.getElem?_append_right (Nat.le_refl _), Nat.sub_self]; rfl)).2
          unfold va_RA at r1 r2
          cases r1.symm.trans r2
          exact ⟨_, rfl⟩
      have hfin := hW (as ++ [q]) _ H1 locs ls (.ref q :: ys) ⟨e_lo_mono h1 hmono, ⟨⟨q, by rw [List.getElem?_append_right (by omega), hq, Nat.sub_self]; rfl, rfl⟩, e_st_mono hmono h8⟩, e_wk_push h3 hn hw1 (show e_ent ad (as ++ [q]) tys (.inr (1, rs)) (.inl (cA, N, .inl (fun _ => 0))) from ⟨hcA, by omega, by omega, fun j v hv => by rw [hrv j v hv]; exact ⟨by decide, by rw [e_i0]⟩⟩), p1, p2, p3, List.IsPrefix.trans h7 hmono⟩
      dsimp only at hfin
      rw [← hN, Nat.sub_add_comm hk0, Nat.sub_add_comm hs0] at hfin
      exact hfin
  · cases h
theorem s_newJ {nx : Nat} (ha : Jvm.Cond.arrayClass .long ∈ lw_tbl) (hq : (e_ml[M]?).map (·.2.1) = some cc) (hd : decode cc pc = .ok (.newarray .long, 2)) (hnx : nx = pc + 2) : e_Sn M pc (o_newa 2 (e_L 9223372036854775808) nx) := by
  intro g hg F al st w c K hM h
  unfold o_newa at h
  split at h
  · next m9 r =>
    cases hbc : (Nat.ble 2147483648 m9 && Nat.ble m9 2214592512) with
    | false => rw [hbc, cond_false] at h; cases h
    | true =>
      rw [hbc, cond_true] at h
      obtain ⟨g1, g2⟩ := (Bool.and_eq_true _ _).mp hbc
      replace g1 := Nat.le_of_ble_eq_true g1
      replace g2 := Nat.le_of_ble_eq_true g2
      have key : ∃ rs w1, e_rlen rs = m9 - 2147483648 ∧ (∀ j v, e_rat rs j = some v → v = (e_L 9223372036854775808)) ∧ g F nx al (.inr (.inl (some c.1)) :: r) w1 (c.1 + 1, c.2.1 + 1, c.2.2 + (m9 - 2147483648)) K = true ∧ c.1 < 8192 ∧ ∀ j, j < 2 ^ 13 → e_tget 13 w1 j = if j = c.1 then .inr (2, rs) else e_tget 13 w j := by
        generalize hN : m9 - 2147483648 = N at h
        cases N with
        | zero =>
          obtain ⟨w1, h, hn, hw1⟩ := e_push_t h
          exact ⟨[], w1, rfl, (fun j v hv => by cases hv), h, hn, hw1⟩
        | succ N =>
          obtain ⟨w1, h, hn, hw1⟩ := e_push_t h
          refine ⟨[(N + 1, (e_L 9223372036854775808))], w1, rfl, fun j v hv => ?_, h, hn, hw1⟩
          rw [e_rat_cons] at hv
          split at hv
          · exact (Option.some.inj hv).symm
          · cases hv
      obtain ⟨rs, w1, hrl, hrv, h, hn, hw1⟩ := key
      obtain ⟨z, w', c', hK, hok⟩ := hg _ _ _ _ _ _ _ h
      refine ⟨z, w', c', hK, e_stepN hok (by dsimp only; omega) (by dsimp only; omega) (by dsimp only; omega) ?_⟩
      intro p l e R s m args below meth cd Q ad D tys base nL as0 k0 s0 hC hk0 hs0 hc hsl hW
      obtain ⟨hx, hb⟩ := e_cc hM hq hC
      intro as ws H locs ls ys hS
      obtain ⟨h1, h2, h3, h4, h5, h6, h7⟩ := hS
      obtain ⟨x0, ys, rfl, ⟨hm3, rfl⟩, h8⟩ := e_st_cons h2
      dsimp only at hc hsl hW
      subst hnx
      have hq : as.length = c.1 := by rw [← h3.1, List.length_map, h3.2.1]
      obtain ⟨N, hN⟩ : ∃ N, N = m9 - 2147483648 := ⟨_, rfl⟩
      rw [← hN] at hsl
      refine va_newa (atype := .long) (a0 := (N, .inr (.inl (fun _ => 0)))) hx hb (e_wd hC ha rfl) rfl hC.2.2.2.2.1.1 h4 h5 h6 (fun q hq => Nat.le_trans hC.2.2.2.2.2.1 hq) (fun cA => rfl) (e_i_neg hm3 g1) (by rw [e_i_cl hm3 g1, hN]) (by show N * 8 ≤ 536870912; omega) (by omega) (by omega) hd (fun q cA H1 pK p1 p2 p3 => ?_)
      have hmono : as <+: as ++ [q] := ⟨[q], rfl⟩
      have hcA : ∃ ty, tys[2]? = some (cA, ty) := by
        cases hz : tys[2]? with
        | none =>
          have h9 := hC.2.2.2.2.1.2.1
          have h10 : (tys.map (·.2))[2]? = some .long := by rw [h9]; exact rfl
          rw [List.getElem?_map, hz] at h10
          cases h10
        | some z =>
          obtain ⟨cB, tyB⟩ := z
          have h10 : tyB = .long := Option.some.inj ((e_kt_at hC.2.2.2.2.1 hz).symm.trans (rfl))
          subst h10
          have r1 := (hC.2.2.2.2.1.1.2 _ _ hz).2
          have r2 := (pK.2 tys.length (cA, .long) (by rw [List.getElem?_append_right (Nat.le_refl _), Nat.sub_self]; rfl)).2
          unfold va_RA at r1 r2
          cases r1.symm.trans r2
          exact ⟨_, rfl⟩
      have hfin := hW (as ++ [q]) _ H1 locs ls (.ref q :: ys) ⟨e_lo_mono h1 hmono, ⟨⟨q, by rw [List.getElem?_append_right (by omega), hq, Nat.sub_self]; rfl, rfl⟩, e_st_mono hmono h8⟩, e_wk_push h3 hn hw1 (show e_ent ad (as ++ [q]) tys (.inr (2, rs)) (.inl (cA, N, .inr (.inl (fun _ => 0)))) from ⟨hcA, by omega, by omega, fun j v hv => by rw [hrv j v hv]; exact ⟨by decide, by rw [n_l0]⟩⟩), p1, p2, p3, List.IsPrefix.trans h7 hmono⟩
      dsimp only at hfin
      rw [← hN, Nat.sub_add_comm hk0, Nat.sub_add_comm hs0] at hfin
      exact hfin
  · cases h
theorem s_newR {nx : Nat} {tc index : Nat} {own E : String} (hkt : e_kt[tc + 3]? = some (.object E)) (ho : (e_ml[M]?).map (·.1.cls) = some own) (hcl : Jvm.Cond.classLink own index E ∈ lw_tbl) (hao : ∀ s : State, (∀ w ∈ e_nw, va_Nw w s) → va_AO E s) (hq : (e_ml[M]?).map (·.2.1) = some cc) (hd : decode cc pc = .ok (.anewarray index, 3)) (hnx : nx = pc + 3) : e_Sn M pc (o_newa (tc + 3) e_N nx) := by
  intro g hg F al st w c K hM h
  unfold o_newa at h
  split at h
  · next m9 r =>
    cases hbc : (Nat.ble 2147483648 m9 && Nat.ble m9 2214592512) with
    | false => rw [hbc, cond_false] at h; cases h
    | true =>
      rw [hbc, cond_true] at h
      obtain ⟨g1, g2⟩ := (Bool.and_eq_true _ _).mp hbc
      replace g1 := Nat.le_of_ble_eq_true g1
      replace g2 := Nat.le_of_ble_eq_true g2
      have key : ∃ rs w1, e_rlen rs = m9 - 2147483648 ∧ (∀ j v, e_rat rs j = some v → v = e_N) ∧ g F nx al (.inr (.inl (some c.1)) :: r) w1 (c.1 + 1, c.2.1 + 1, c.2.2 + (m9 - 2147483648)) K = true ∧ c.1 < 8192 ∧ ∀ j, j < 2 ^ 13 → e_tget 13 w1 j = if j = c.1 then .inr ((tc + 3), rs) else e_tget 13 w j := by
        generalize hN : m9 - 2147483648 = N at h
        cases N with
        | zero =>
          obtain ⟨w1, h, hn, hw1⟩ := e_push_t h
          exact ⟨[], w1, rfl, (fun j v hv => by cases hv), h, hn, hw1⟩
        | succ N =>
          obtain ⟨w1, h, hn, hw1⟩ := e_push_t h
          refine ⟨[(N + 1, e_N)], w1, rfl, fun j v hv => ?_, h, hn, hw1⟩
          rw [e_rat_cons] at hv
          split at hv
          · exact (Option.some.inj hv).symm
          · cases hv
      obtain ⟨rs, w1, hrl, hrv, h, hn, hw1⟩ := key
      obtain ⟨z, w', c', hK, hok⟩ := hg _ _ _ _ _ _ _ h
      refine ⟨z, w', c', hK, e_stepN hok (by dsimp only; omega) (by dsimp only; omega) (by dsimp only; omega) ?_⟩
      intro p l e R s m args below meth cd Q ad D tys base nL as0 k0 s0 hC hk0 hs0 hc hsl hW
      obtain ⟨hx, hb⟩ := e_cc hM hq hC
      intro as ws H locs ls ys hS
      obtain ⟨h1, h2, h3, h4, h5, h6, h7⟩ := hS
      obtain ⟨x0, ys, rfl, ⟨hm3, rfl⟩, h8⟩ := e_st_cons h2
      dsimp only at hc hsl hW
      subst hnx
      have hq : as.length = c.1 := by rw [← h3.1, List.length_map, h3.2.1]
      obtain ⟨N, hN⟩ : ∃ N, N = m9 - 2147483648 := ⟨_, rfl⟩
      rw [← hN] at hsl
      refine va_newq (N' := N) hx hb (e_own hM ho hC) (e_wd hC hcl rfl) (hao s (hC.2.2.2.2.1.2.2.1)) hC.2.2.2.2.1.1 h4 h5 h6 (fun q hq => Nat.le_trans hC.2.2.2.2.2.1 hq) (e_i_neg hm3 g1) (by rw [e_i_cl hm3 g1, hN]) (by omega) (by omega) (by omega) hd (fun q cA H1 pK p1 p2 p3 => ?_)
      have hmono : as <+: as ++ [q] := ⟨[q], rfl⟩
      have hcA : ∃ ty, tys[(tc + 3)]? = some (cA, ty) := by
        cases hz : tys[(tc + 3)]? with
        | none =>
          have h9 := hC.2.2.2.2.1.2.1
          have h10 : (tys.map (·.2))[(tc + 3)]? = some (.object E) := by rw [h9]; exact hkt
          rw [List.getElem?_map, hz] at h10
          cases h10
        | some z =>
          obtain ⟨cB, tyB⟩ := z
          have h10 : tyB = (.object E) := Option.some.inj ((e_kt_at hC.2.2.2.2.1 hz).symm.trans (hkt))
          subst h10
          have r1 := (hC.2.2.2.2.1.1.2 _ _ hz).2
          have r2 := (pK.2 tys.length (cA, (.object E)) (by rw [List.getElem?_append_right (Nat.le_refl _), Nat.sub_self]; rfl)).2
          obtain ⟨_, _, _, _, _, r1⟩ := r1
          obtain ⟨_, _, _, _, _, r2⟩ := r2
          cases r1.symm.trans r2
          exact ⟨_, rfl⟩
      have hfin := hW (as ++ [q]) _ H1 locs ls (.ref q :: ys) ⟨e_lo_mono h1 hmono, ⟨⟨q, by rw [List.getElem?_append_right (by omega), hq, Nat.sub_self]; rfl, rfl⟩, e_st_mono hmono h8⟩, e_wk_push h3 hn hw1 (show e_ent ad (as ++ [q]) tys (.inr ((tc + 3), rs)) (.inl (cA, N, .inr (.inr (.inr (.inr (fun _ => none)))))) from ⟨hcA, by omega, by omega, fun j v hv => by rw [hrv j v hv]; rfl⟩), p1, p2, p3, List.IsPrefix.trans h7 hmono⟩
      dsimp only at hfin
      rw [← hN, Nat.sub_add_comm hk0, Nat.sub_add_comm hs0] at hfin
      exact hfin
  · cases h
end SN
