/-! MORE OPERATIONS: Integers of the cache (places 4 to 259 of those that aren't ours; 260: the cache; 261: the class object of Object[]), class objects, copies of references, rows of rows, Math's methods, a call of an interface, a nest mate's field -/
noncomputable def e_isB (k : Nat) : Bool := Nat.ble 4 k && Nat.blt k 260
/-- a box of the cache -/
noncomputable def o_aldB (nx : Nat) : e_O := fun g F ls st w c K => match st with
  | .inl i :: .inr (.inr (.inr (.inr (.inr (.inl k))))) :: r => bif Nat.beq k 260 && Nat.ble 2147483648 i && Nat.blt i 2147483904 then e_fo (i - 2147483648 + 4) (fun z => g F nx ls (e_B z :: r) w c K) else false
  | _ => false
noncomputable def o_castB (nx : Nat) : e_O := fun g F ls st w c K => match st with
  | .inr (.inr (.inr (.inr (.inr (.inl k))))) :: r => bif e_isB k then g F nx ls (e_B k :: r) w c K else false
  | _ => false
/-- a box's value -/
noncomputable def o_getB (nx : Nat) : e_O := fun g F ls st w c K => match st with
  | .inr (.inr (.inr (.inr (.inr (.inl k))))) :: r => bif e_isB k then e_fo (k + 2147483516) (fun z => g F nx ls (.inl z :: r) w c K) else false
  | _ => false
noncomputable def o_callB (y m n nx : Nat) : e_O := fun g F ls st w c K => e_args n [] st (fun as r => match as with
  | .inr (.inr (.inr (.inr (.inr (.inl k))))) :: _ => bif e_isB k then e_go y m as nx r g F ls w c K (fun _ _ _ => false) else false
  | _ => false)
noncomputable def o_getC (nx : Nat) : e_O := fun g F ls st w c K => match st with
  | .inr (.inl (some q)) :: r => bif Nat.beq (e_cod (e_tget 13 w q)) 103 && Nat.blt 0 F.2.1 && Nat.ble 30 F.2.2.1 && Nat.ble (e_stw r) 8 then g F nx ls (e_B 261 :: r) w c K else false
  | _ => false
/-- a store of a box; others as before -/
noncomputable def o_astB (tc : Nat) (okc : Nat → Bool) (nx : Nat) : e_O := fun g F ls st w c K => match st with
  | .inr (.inr (.inr (.inr (.inr (.inl k))))) :: .inl i :: .inr (.inl (some q)) :: r => bif e_isB k && Nat.blt q 8192 && Nat.ble 2147483648 i then (match e_tget 13 w q with
    | .inr (t, rs) => bif Nat.beq t tc then e_rset (e_B k) rs (i - 2147483648) (fun rs' => e_tput (.inr (t, rs')) 13 w q (fun w' => g F nx ls r w' c K)) else false
    | _ => false) else false
  | st => o_astR tc okc nx g F ls st w c K
/-- the first n of a list of runs, in front of the rest of another -/
noncomputable def e_take : List (Nat × e_V) → Nat → (List (Nat × e_V) → Bool) → Bool
  | _, 0, k => k []
  | [], _ + 1, _ => false
  | (m, v) :: l, n + 1, k => match v with
    | .inr (.inr (.inr (.inr (.inr (.inl b))))) => bif e_isB b then (bif Nat.ble (n + 1) m then k [(n + 1, v)] else e_fo (n + 1 - m) (fun z => e_take l z (fun r => k ((m, v) :: r)))) else false
    | _ => false
/-- System.arraycopy of n boxes from the beginning, into an array of nulls -/
noncomputable def o_copyB (nx : Nat) : e_O := fun g F ls st w c K => match st with
  | .inl n :: .inl dp :: .inr (.inl (some q1)) :: .inl sp :: .inr (.inl (some q0)) :: r =>
    bif Nat.ble 2147483648 n && Nat.beq dp 2147483648 && Nat.beq sp 2147483648 && Nat.blt q1 8192 && Nat.blt 0 F.2.1 && Nat.ble 4000 F.2.2.1 && Nat.ble (e_stw r) 8 then (match e_tget 13 w q0, e_tget 13 w q1 with
      | .inr (3, rs0), .inr (3, [(N, .inr (.inl none))]) => bif Nat.ble (n - 2147483648) N && Nat.ble (n - 2147483648) (e_rlen rs0) then e_take rs0 (n - 2147483648) (fun rs => e_fo (N - (n - 2147483648)) (fun z => e_tput (.inr (3, rs ++ [(z, e_N)])) 13 w q1 (fun w' => g F nx ls r w' c K))) else false
      | _, _ => false) else false
  | _ => false
section SN
variable {M pc : Nat} {cc : ByteArray}
theorem e_isB_t {k : Nat} (h : e_isB k = true) : ∃ j, k = j + 4 ∧ j < 256 := by
  obtain ⟨h1, h2⟩ := (Bool.and_eq_true _ _).mp h
  have h1 := Nat.le_of_ble_eq_true h1
  have h2 : k < 260 := Nat.le_of_ble_eq_true h2
  exact ⟨k - 4, by omega, by omega⟩
theorem s_getsH {nx index : Nat} {own : String} (hq : (e_ml[M]?).map (·.2.1) = some cc) (ho : (e_ml[M]?).map (·.1.cls) = some own) (hk : Jvm.Cond.fieldLink own index "java/lang/Integer$IntegerCache" "high" "I" ∈ lw_tbl) (hd : decode cc pc = .ok (.getstatic index, 3)) (hnx : nx = pc + 3) : e_Sn M pc (o_push (e_I 2147483775) nx) := by
  intro g hg F al st w c K hM h
  replace h : g F nx al (e_I 2147483775 :: st) w c K = true := h
  obtain ⟨z, w', c', hK, hok⟩ := hg _ _ _ _ _ _ _ h
  refine ⟨z, w', c', hK, e_step hok ?_⟩
  intro p l e R s m args below meth cd Q ad D tys base nL as0 k0 s0 hC hW
  obtain ⟨hx, hb⟩ := e_cc hM hq hC
  intro as ws H locs ls ys hS
  obtain ⟨h1, h2, h3, h4, h5, h6, h7⟩ := hS
  subst hnx
  have hsf := hC.2.2.2.2.2.2.1.2.2.2.2.2.2.1
  exact va_gets (A := e_A0 base) hx hb hsf h6 (e_own hM ho hC) (e_wd hC hk rfl) (fun _ h => h) hd (hW as ws H locs ls (.int 127 :: ys) ⟨h1, ⟨⟨by decide, by decide⟩, h2⟩, h3, h4, h5, h6, h7⟩)
theorem s_aldB {nx : Nat} (hq : (e_ml[M]?).map (·.2.1) = some cc) (hd : decode cc pc = .ok (.aaload, 1)) (hnx : nx = pc + 1) : e_Sn M pc (o_aldB nx) := by
  intro g hg F al st w c K hM h
  unfold o_aldB at h
  split at h
  · next i k r =>
    cases hbc : (Nat.beq k 260 && Nat.ble 2147483648 i && Nat.blt i 2147483904) with
    | false => rw [hbc, cond_false] at h; cases h
    | true =>
      rw [hbc, cond_true] at h
      obtain ⟨g0, g2⟩ := (Bool.and_eq_true _ _).mp hbc
      obtain ⟨g0, g1⟩ := (Bool.and_eq_true _ _).mp g0
      replace g0 := Nat.eq_of_beq_eq_true g0
      replace g1 := Nat.le_of_ble_eq_true g1
      replace g2 : i < 2147483904 := Nat.le_of_ble_eq_true g2
      subst g0
      replace h := e_fo_t h
      obtain ⟨z, w', c', hK, hok⟩ := hg _ _ _ _ _ _ _ h
      refine ⟨z, w', c', hK, e_step hok ?_⟩
      intro p l e R s m args below meth cd Q ad D tys base nL as0 k0 s0 hC hW
      obtain ⟨hx, hb⟩ := e_cc hM hq hC
      intro as ws H locs ls ys hS
      obtain ⟨h1, h2, h3, h4, h5, h6, h7⟩ := hS
      obtain ⟨y0, ys, rfl, ⟨hi3, rfl⟩, h80⟩ := e_st_cons h2
      obtain ⟨x, ys, rfl, hr, h8⟩ := e_st_cons h80
      cases (show x = .ref (ad 260) from hr)
      subst hnx
      have hT := hC.2.2.2.2.2.2.1.2.2.2.2.2.1
      exact vb_tq (v := .ref (ad (i - 2147483648 + 4))) hx hb hT h6 (e_in hi3 g1 (by omega)) (by rw [e_i_cl hi3 g1]) hd (hW as ws H locs ls _ ⟨h1, ⟨rfl, h8⟩, h3, h4, h5, h6, h7⟩)
  · cases h
theorem s_castB {nx index ci N : Nat} {own : String} {T : u_T} (hq : (e_ml[M]?).map (·.2.1) = some cc) (ho : (e_ml[M]?).map (·.1.cls) = some own) (hl1 : Jvm.Cond.classLink own index "java/lang/Integer" ∈ lw_tbl) (hcl : e_cl[ci]? = some ("java/lang/Integer", T, N)) (hd : decode cc pc = .ok (.checkcast index, 3)) (hnx : nx = pc + 3) : e_Sn M pc (o_castB nx) := by
  intro g hg F al st w c K hM h
  unfold o_castB at h
  split at h
  · next k r =>
    cases hbc : e_isB k with
    | false => rw [hbc, cond_false] at h; cases h
    | true =>
      rw [hbc, cond_true] at h
      obtain ⟨j, rfl, hj⟩ := e_isB_t hbc
      obtain ⟨z, w', c', hK, hok⟩ := hg _ _ _ _ _ _ _ h
      refine ⟨z, w', c', hK, e_step hok ?_⟩
      intro p l e R s m args below meth cd Q ad D tys base nL as0 k0 s0 hC hW
      obtain ⟨hx, hb⟩ := e_cc hM hq hC
      intro as ws H locs ls ys hS
      obtain ⟨h1, h2, h3, h4, h5, h6, h7⟩ := hS
      obtain ⟨x, ys, rfl, hr, h8⟩ := e_st_cons h2
      cases (show x = .ref (ad (j + 4)) from hr)
      subst hnx
      obtain ⟨cell, c1, c2, c3, -⟩ := (hC.2.2.2.2.2.2.1.2.2.2.2.1.1 j hj).kept h6.2.1
      exact va_castS hx hb (e_own hM ho hC) (e_wd hC hl1 rfl) (hC.2.2.2.2.1.1.1 ci _ hcl).2 ⟨cell, c1, c2, c3⟩ hd (hW as ws H locs ls _ ⟨h1, ⟨rfl, h8⟩, h3, h4, h5, h6, h7⟩)
  · cases h
theorem e_vbc {j : Nat} (hj : j < 256) : vb_c j = e_i (j + 4 + 2147483516) := by
  apply e_i_eq (by omega)
  unfold vb_c
  rw [Int32.toInt_sub, Int32.toInt_ofNat_of_lt (by omega)]
  have h128 : (128 : Int32).toInt = 128 := rfl
  rw [h128, Int.bmod_eq_of_le_mul_two] <;> omega
theorem s_getB {nx index : Nat} {own : String} (hq : (e_ml[M]?).map (·.2.1) = some cc) (ho : (e_ml[M]?).map (·.1.cls) = some own) (hk : Jvm.Cond.fieldLink own index "java/lang/Integer" "value" "I" ∈ lw_tbl) (hd : decode cc pc = .ok (.getfield index, 3)) (hnx : nx = pc + 3) : e_Sn M pc (o_getB nx) := by
  intro g hg F al st w c K hM h
  unfold o_getB at h
  split at h
  · next k r =>
    cases hbc : e_isB k with
    | false => rw [hbc, cond_false] at h; cases h
    | true =>
      rw [hbc, cond_true] at h
      obtain ⟨j, rfl, hj⟩ := e_isB_t hbc
      replace h := e_fo_t h
      obtain ⟨z, w', c', hK, hok⟩ := hg _ _ _ _ _ _ _ h
      refine ⟨z, w', c', hK, e_step hok ?_⟩
      intro p l e R s m args below meth cd Q ad D tys base nL as0 k0 s0 hC hW
      obtain ⟨hx, hb⟩ := e_cc hM hq hC
      intro as ws H locs ls ys hS
      obtain ⟨h1, h2, h3, h4, h5, h6, h7⟩ := hS
      obtain ⟨x, ys, rfl, hr, h8⟩ := e_st_cons h2
      cases (show x = .ref (ad (j + 4)) from hr)
      subst hnx
      exact va_getX (i := j) (v := fun k => .int (vb_c k)) (ad := fun k => ad (k + 4)) hx hb hC.2.2.2.2.2.2.1.2.2.2.2.1.2 hj h6 (e_own hM ho hC) (e_wd hC hk rfl) (fun _ h => h) hd (hW as ws H locs ls _ ⟨h1, ⟨⟨by omega, by rw [e_vbc hj]⟩, h8⟩, h3, h4, h5, h6, h7⟩)
  · cases h
theorem s_ldcM {nx index : Nat} {own : String} (hq : (e_ml[M]?).map (·.2.1) = some cc) (ho : (e_ml[M]?).map (·.1.cls) = some own) (hk : Jvm.Cond.classLink own index "[Ljava/lang/Object;" ∈ lw_tbl) (hd : decode cc pc = .ok (.ldc index, 2)) (hnx : nx = pc + 2) : e_Sn M pc (o_push (e_B 261) nx) := by
  intro g hg F al st w c K hM h
  replace h : g F nx al (e_B 261 :: st) w c K = true := h
  obtain ⟨z, w', c', hK, hok⟩ := hg _ _ _ _ _ _ _ h
  refine ⟨z, w', c', hK, e_step hok ?_⟩
  intro p l e R s m args below meth cd Q ad D tys base nL as0 k0 s0 hC hW
  obtain ⟨hx, hb⟩ := e_cc hM hq hC
  intro as ws H locs ls ys hS
  obtain ⟨h1, h2, h3, h4, h5, h6, h7⟩ := hS
  subst hnx
  exact va_ldcM hx hb (e_own hM ho hC) (e_wd hC hk rfl) hC.2.2.2.2.2.2.1.2.2.2.2.2.2.2 hd (hW as ws H locs ls _ ⟨h1, ⟨rfl, h2⟩, h3, h4, h5, h6, h7⟩)
theorem s_getC {nx index : Nat} {own : String} (hkt : e_kt[3]? = some (.object "java/lang/Object")) (hq : (e_ml[M]?).map (·.2.1) = some cc) (ho : (e_ml[M]?).map (·.1.cls) = some own) (hl : Jvm.Cond.methodLink own index ⟨"java/lang/Object", "getClass", "()Ljava/lang/Class;"⟩ ∈ lw_tbl) (hdl : Jvm.Cond.declares ⟨"java/lang/Object", "getClass", "()Ljava/lang/Class;"⟩ ∈ lw_tbl) (hsl : Jvm.Cond.selects "[Ljava/lang/Object;" ⟨"java/lang/Object", "getClass", "()Ljava/lang/Class;"⟩ ⟨"java/lang/Object", "getClass", "()Ljava/lang/Class;"⟩ ∈ lw_tbl) (hin : Jvm.Cond.instanceMethod ⟨"java/lang/Object", "getClass", "()Ljava/lang/Class;"⟩ ∈ lw_tbl) (hna : Jvm.Cond.native ⟨"java/lang/Object", "getClass", "()Ljava/lang/Class;"⟩ ∈ lw_tbl) (hd : decode cc pc = .ok (.invokevirtual index, 3)) (hnx : nx = pc + 3) : e_Sn M pc (o_getC nx) := by
  intro g hg F al st w c K hM h
  unfold o_getC at h
  split at h
  · next q r =>
    cases hbc : (Nat.beq (e_cod (e_tget 13 w q)) 103 && Nat.blt 0 F.2.1 && Nat.ble 30 F.2.2.1 && Nat.ble (e_stw r) 8) with
    | false => rw [hbc, cond_false] at h; cases h
    | true =>
      rw [hbc, cond_true] at h
      obtain ⟨hbc, g4⟩ := (Bool.and_eq_true _ _).mp hbc
      obtain ⟨hbc, g3⟩ := (Bool.and_eq_true _ _).mp hbc
      obtain ⟨g1, g2⟩ := (Bool.and_eq_true _ _).mp hbc
      replace g1 := Nat.eq_of_beq_eq_true g1
      replace g2 : 0 < F.2.1 := Nat.le_of_ble_eq_true g2
      replace g3 := Nat.le_of_ble_eq_true g3
      replace g4 := Nat.le_of_ble_eq_true g4
      obtain ⟨z, w', c', hK, hok⟩ := hg _ _ _ _ _ _ _ h
      refine ⟨z, w', c', hK, e_stepR hok ?_⟩
      intro p l e R s m args below meth cd Q ad D tys base nL as0 k0 s0 hC hf hlo hW
      obtain ⟨hx, hb⟩ := e_cc hM hq hC
      intro as ws H locs ls ys hS
      obtain ⟨h1, h2, h3, h4, h5, h6, h7⟩ := hS
      obtain ⟨x, ys, rfl, hr, h8⟩ := e_st_cons h2
      obtain ⟨a, ha, rfl⟩ := e_ref hr
      obtain ⟨e', he, hent⟩ := e_wk_at h3 ha
      subst hnx
      have hsz : cd.maxLocals = ls.size := (h1.2.choose_spec.1.1.trans (by obtain ⟨-, -, -, -, -, -, -, q9, -, -, r3, -⟩ := hC; exact r3.symm)).symm
      have hcellC : ∃ cell : Cell, H[a]? = some cell ∧ cell.vm.isStatics = false ∧ s.vm.findClass "[Ljava/lang/Object;" = some cell.cls := by
        generalize e_tget 13 w q = xx at hent g1
        cases xx with
        | inl o1 =>
          obtain ⟨ci, fs⟩ := o1
          cases e' with
          | inl z => exact hent.elim
          | inr o2 =>
            obtain ⟨cj, vs⟩ := o2
            obtain ⟨rfl, -, -⟩ := hent
            obtain ⟨r9, q1, -⟩ := h4 q _ he
            have := (List.getElem?_eq_some_iff.mp q1).1
            have h100 : e_cl.length ≤ 100 := by decide
            have g9 : ci = 103 := g1
            omega
        | inr o1 =>
          obtain ⟨t2, rs2⟩ := o1
          have g9 : 100 + t2 = 103 := g1
          obtain rfl : t2 = 3 := by omega
          cases e' with
          | inr z => exact hent.elim
          | inl o2 =>
            obtain ⟨cB, nB, fB⟩ := o2
            obtain ⟨⟨tyB, htyB⟩, -, -, -⟩ := hent
            obtain rfl : tyB = .object "java/lang/Object" := Option.some.inj ((e_kt_at hC.2.2.2.2.1 htyB).symm.trans hkt)
            obtain ⟨_, _, _, _, _, q9⟩ := (hC.2.2.2.2.1.1.2 3 _ htyB).2
            have hcell := h4 q _ he
            unfold va_at at hcell
            dsimp only at hcell
            refine ⟨_, hcell, ?_, ?_⟩
            · unfold vp_cell; split <;> rfl
            · rw [show ("[Ljava/lang/Object;" : String) = "[" ++ (FieldType.object "java/lang/Object").toString by decide +kernel, q9]
              unfold vp_cell; split <;> rfl
      refine va_getC hx hb hsz (e_own hM ho hC) (e_wd hC hl rfl) ((hC.2.2.2.2.1.2.2.1 _ (List.mem_filter.mpr ⟨hdl, rfl⟩)).use rfl) (e_wd hC hsl rfl) (e_wd hC hin rfl) (e_wd hC hna rfl) hC.2.2.2.2.2.2.1.2.2.2.2.2.2.2 hcellC (by omega) (by rw [e_stw_t h8]; omega) hd (hW as ws H locs ls _ ⟨h1, ⟨rfl, h8⟩, h3, h4, h5, h6, h7⟩)
  · cases h
theorem s_callB {y mm n nx index : Nat} {own C : String} {yn : MethodName} {yb : ByteArray} {rt : Option FieldType} (hq : (e_ml[M]?).map (·.2.1) = some cc) (ho : (e_ml[M]?).map (·.1.cls) = some own) (hy : e_ml[y]? = some (yn, yb, mm, rt)) (hplain : plainName yn.cls = true) (hcode : Jvm.Cond.code yn yb mm rt ∈ lw_tbl) (hini : Jvm.Cond.initialized yn.cls ∈ lw_tbl) (hdn : yn.cls ≠ "java/lang/invoke/MethodHandle" ∧ yn.cls ≠ "java/lang/invoke/VarHandle" ∧ (parseMethodDescriptor yn.desc).map (fun d => d.parameters.length) = some n) (hlink : Jvm.Cond.methodLink own index yn ∈ lw_tbl) (hinst : Jvm.Cond.instanceMethod yn ∈ lw_tbl) (hsel : Jvm.Cond.selects C yn yn ∈ lw_tbl) (hCI : C = "java/lang/Integer") (hd : decode cc pc = .ok (.invokevirtual index, 3)) (hnx : nx = pc + 3) : e_Sn M pc (o_callB y mm (n + 1) nx) := by
  intro g hg F al st w c K hM h
  unfold o_callB at h
  obtain ⟨t, r, hst9, ht0, h9⟩ := e_args_t h
  clear h
  have h := h9
  clear h9
  subst hst9
  rw [List.append_nil] at h
  split at h
  · next kB t0 htr =>
    cases hbc9 : e_isB kB with
    | false => rw [hbc9, cond_false] at h; cases h
    | true =>
        rw [hbc9, cond_true] at h
        obtain ⟨j9, rfl, hj9⟩ := e_isB_t hbc9
        obtain ⟨la, z1, w1, c1, hfr, hlo, hst8, hlal, hla, hok1, hres⟩ := e_go_t hg h
        rcases z1 with (_ | v) | E
        · obtain ⟨z2, w2, c2, hK2, hok2⟩ := hg _ _ _ _ _ _ _ hres
          refine ⟨z2, w2, c2, hK2, Nat.le_trans hok1.1 hok2.1, Nat.le_trans hok1.2.1 hok2.2.1, Nat.le_trans hok1.2.2.1 hok2.2.2.1, ?_⟩
          intro p l e R s m args below meth cd Q ad D tys base nL as0 k0 s0 hC hf hl hk hs hc hsl hE
          have hok1' := hok1
          obtain ⟨b1, b2, b3, -⟩ := hok1'
          have hWG := hok2.2.2.2 p l e R s m args below meth cd Q ad D tys base nL as0 k0 s0 hC hf hl (by omega) (by omega) hc hsl hE
          obtain ⟨hx, hb⟩ := e_cc hM hq hC
          have d2 := hok2.2.1
          have d3 := hok2.2.2.1
          intro as ws H locs ls ys hS
          obtain ⟨h1, h2, h3, h4, h5, h6, h7⟩ := hS
          obtain ⟨tc, rc, rfl, ht1, ht2, ht3⟩ := e_st_app h2
          have hrv := e_st_rev ht2
          rw [htr] at hrv
          obtain ⟨x0, tc0, htc0, hrel0, hst0⟩ := e_st_cons hrv
          obtain ⟨b0, hb0, rfl⟩ : ∃ b0, b0 = ad (j9 + 4) ∧ x0 = .ref b0 := ⟨_, rfl, hrel0⟩
          have htc : tc = tc0.reverse ++ [.ref b0] := by rw [← List.reverse_reverse tc, htc0, List.reverse_cons]
          have hlen0 : tc0.length = n := by
            have e1 := congrArg List.length htc
            simp [ht1, ht0] at e1
            omega
          have hwd : (rc.map fun v => v.category).sum ≤ 8 := by rw [e_stw_t ht3]; exact hst8
          have hM9 := e_met (ad := ad) (D := D) (tys := tys) (base := base) (as0 := as) (ws0 := ws) (l := l) hok1 hy hplain hC.1 hlal hla h3 h5
          have hpre : ∀ U : State, U.heap = H → s.WarmedH U.vm → e_Pc (y, F.2.1 - 1, F.2.2.1 - (mm + 19), F.2.2.2) ad D tys base as ws (e_B (j9 + 4) :: t0) (Value.ref b0 :: tc0).toArray U := fun U hU hW => ⟨Value.ref b0 :: tc0, rfl, ⟨hrel0, hst0⟩, by rw [hU]; exact h4, by rw [hU]; exact Nat.le_trans hC.2.2.2.2.2.1 h6.1, e_Kx_warm hW hC.2.2.2.2.1, by
            rw [hU]
            exact e_sf_moved hW.alike (fun q hq hA => h6.2.1 q hq hA) (e_sf_F rfl hC.2.2.2.2.2.2.1)⟩
          rw [htr] at hM9
          have hrun := va_runV (e := e) (below := below) (meth := meth) (C := C) (As := tc0) (b := b0) (rest := rc) (Ts := e_ws) (own := own) (H := H) (locs := locs) (cells := c.2.1 - k0) (slots := c.2.2 - s0) (g := F0 m pc ls (tc ++ rc)) ⟨hx, hb, rfl, e_own hM ho hC, hC.2.2.2.1⟩ hM9 ⟨callB_of n hC.2.2.2.1 (e_good hcode) rfl rfl rfl (e_wd hC hini rfl) (e_wd hC hlink rfl) hdn ⟨by show F.2.1 - 1 + 1 ≤ R.frames; omega, by show 8 + (mm + 11) + (F.2.2.1 - (mm + 19)) ≤ R.locals; omega⟩, e_wd hC hinst rfl, e_wd hC hsel rfl⟩ ⟨e_Pc_blind, (by subst hCI; rw [hb0]; obtain ⟨cell, c1, c2, c3, -⟩ := (hC.2.2.2.2.2.2.1.2.2.2.2.1.1 j9 hj9).kept h6.2.1; exact ⟨cell, c1, c2, c3⟩), hpre⟩ rfl hlen0 (h1.2.choose_spec.1.1.trans (by obtain ⟨-, -, -, -, -, -, -, q9, -, -, r3, -⟩ := hC; exact r3.symm)) (by rw [htc]; simp) (lv_room hwd) hd ⟨by omega, by omega⟩
          refine e_runW hrun h6 (fun as1 ws1 H1 locs1 xo q1 q2 q3 q4 q5 q6 => ?_)
          have hfin := hWG as1 ws1 H1 locs1 ls (xo ++ rc) ⟨e_lo_mono h1 q1, by cases q6; exact e_st_mono q1 ht3, q2, q3, q4, q5, List.IsPrefix.trans h7 q1⟩
          subst hnx
          rw [show c.2.1 - k0 + (c1.2.1 - c.2.1) = c1.2.1 - k0 by omega, show c.2.2 - s0 + (c1.2.2 - c.2.2) = c1.2.2 - s0 by omega]
          exact hfin
        · obtain ⟨z2, w2, c2, hK2, hok2⟩ := hg _ _ _ _ _ _ _ hres
          refine ⟨z2, w2, c2, hK2, Nat.le_trans hok1.1 hok2.1, Nat.le_trans hok1.2.1 hok2.2.1, Nat.le_trans hok1.2.2.1 hok2.2.2.1, ?_⟩
          intro p l e R s m args below meth cd Q ad D tys base nL as0 k0 s0 hC hf hl hk hs hc hsl hE
          have hok1' := hok1
          obtain ⟨b1, b2, b3, -⟩ := hok1'
          have hWG := hok2.2.2.2 p l e R s m args below meth cd Q ad D tys base nL as0 k0 s0 hC hf hl (by omega) (by omega) hc hsl hE
          obtain ⟨hx, hb⟩ := e_cc hM hq hC
          have d2 := hok2.2.1
          have d3 := hok2.2.2.1
          intro as ws H locs ls ys hS
          obtain ⟨h1, h2, h3, h4, h5, h6, h7⟩ := hS
          obtain ⟨tc, rc, rfl, ht1, ht2, ht3⟩ := e_st_app h2
          have hrv := e_st_rev ht2
          rw [htr] at hrv
          obtain ⟨x0, tc0, htc0, hrel0, hst0⟩ := e_st_cons hrv
          obtain ⟨b0, hb0, rfl⟩ : ∃ b0, b0 = ad (j9 + 4) ∧ x0 = .ref b0 := ⟨_, rfl, hrel0⟩
          have htc : tc = tc0.reverse ++ [.ref b0] := by rw [← List.reverse_reverse tc, htc0, List.reverse_cons]
          have hlen0 : tc0.length = n := by
            have e1 := congrArg List.length htc
            simp [ht1, ht0] at e1
            omega
          have hwd : (rc.map fun v => v.category).sum ≤ 8 := by rw [e_stw_t ht3]; exact hst8
          have hM9 := e_met (ad := ad) (D := D) (tys := tys) (base := base) (as0 := as) (ws0 := ws) (l := l) hok1 hy hplain hC.1 hlal hla h3 h5
          have hpre : ∀ U : State, U.heap = H → s.WarmedH U.vm → e_Pc (y, F.2.1 - 1, F.2.2.1 - (mm + 19), F.2.2.2) ad D tys base as ws (e_B (j9 + 4) :: t0) (Value.ref b0 :: tc0).toArray U := fun U hU hW => ⟨Value.ref b0 :: tc0, rfl, ⟨hrel0, hst0⟩, by rw [hU]; exact h4, by rw [hU]; exact Nat.le_trans hC.2.2.2.2.2.1 h6.1, e_Kx_warm hW hC.2.2.2.2.1, by
            rw [hU]
            exact e_sf_moved hW.alike (fun q hq hA => h6.2.1 q hq hA) (e_sf_F rfl hC.2.2.2.2.2.2.1)⟩
          rw [htr] at hM9
          have hrun := va_runV (e := e) (below := below) (meth := meth) (C := C) (As := tc0) (b := b0) (rest := rc) (Ts := e_ws) (own := own) (H := H) (locs := locs) (cells := c.2.1 - k0) (slots := c.2.2 - s0) (g := F0 m pc ls (tc ++ rc)) ⟨hx, hb, rfl, e_own hM ho hC, hC.2.2.2.1⟩ hM9 ⟨callB_of n hC.2.2.2.1 (e_good hcode) rfl rfl rfl (e_wd hC hini rfl) (e_wd hC hlink rfl) hdn ⟨by show F.2.1 - 1 + 1 ≤ R.frames; omega, by show 8 + (mm + 11) + (F.2.2.1 - (mm + 19)) ≤ R.locals; omega⟩, e_wd hC hinst rfl, e_wd hC hsel rfl⟩ ⟨e_Pc_blind, (by subst hCI; rw [hb0]; obtain ⟨cell, c1, c2, c3, -⟩ := (hC.2.2.2.2.2.2.1.2.2.2.2.1.1 j9 hj9).kept h6.2.1; exact ⟨cell, c1, c2, c3⟩), hpre⟩ rfl hlen0 (h1.2.choose_spec.1.1.trans (by obtain ⟨-, -, -, -, -, -, -, q9, -, -, r3, -⟩ := hC; exact r3.symm)) (by rw [htc]; simp) (lv_room hwd) hd ⟨by omega, by omega⟩
          refine e_runW hrun h6 (fun as1 ws1 H1 locs1 xo q1 q2 q3 q4 q5 q6 => ?_)
          have hfin := hWG as1 ws1 H1 locs1 ls (xo ++ rc) ⟨e_lo_mono h1 q1, by obtain ⟨x, rfl, hx9⟩ := q6; exact ⟨hx9, e_st_mono q1 ht3⟩, q2, q3, q4, q5, List.IsPrefix.trans h7 q1⟩
          subst hnx
          rw [show c.2.1 - k0 + (c1.2.1 - c.2.1) = c1.2.1 - k0 by omega, show c.2.2 - s0 + (c1.2.2 - c.2.2) = c1.2.2 - s0 by omega]
          exact hfin
        · cases hres
  · cases h

theorem e_ofWF {l : Launch} {y : MethodName} {ws ws' : List Cond} {rm : Room} {Pc : Array Value → State → Prop} {Qc : Array Value → State → Outcome → State → Prop} {mc ms : Nat} {free : Addr → Prop} {cc : ByteArray} {maxL : Nat} {ret : Option FieldType}
    (hy : plainFor y = true) (hw : ws = Jvm.Cond.code y cc maxL ret :: ws')
    (body : ∀ p e s m args below meth c s₁, BodyLoose p l y (headSpec ws rm) cc maxL ret e s m args below meth c s₁ → c.maxLocals = maxL → Pc args s →
      W p l e (headSpec ws rm).room s m args below meth c s.heap [] 0 0 (MQ below Qc args s mc ms free) (entryFrame m args maxL)) : Met l y ws rm Pc Qc mc ms free := by
  refine MetFree.of_bodySF (code := cc) (maxLocals := maxL) (ret := ret) hy ?_ ?_
  · intro args s m h hn
    obtain ⟨meth, c, h1, h2, h3, h4, h5, h6, -, -⟩ := Cond.code_spec hn (atoms_spec (ws := ws) h _ (by rw [hw]; exact List.mem_cons_self))
    exact ⟨meth, c, h1, h2, h3, h4, h5, h6⟩
  · intro p e s m args below meth c s₁ B hml hP _
    have hh0 : s₁.heap = s.heap := by rw [B.state]; rfl
    obtain ⟨t, a1, o, b1, b2, b3⟩ := body p e s m args below meth c s₁ B hml hP s₁ hh0 (Stand.of_body B)
    exact ⟨t, o, a1, b1, b2, ⟨b3.1, b3.2⟩⟩
theorem e_metF {F : e_F} {la : e_A} {vs : List e_V} {w w' : e_W} {c c' : e_Q} {ov : Option e_V} {y : MethodName} {b : ByteArray} {mL : Nat} {rt : Option FieldType} {ad : Nat → Nat} {D : va_G} {tys : List (ClassId × FieldType)} {base : Nat} {as0 : List Nat} {ws0 : va_W} {l : Launch} (hok : e_Ok F 0 la [] w c (.inl ov) w' c') (hq : e_ml[F.1]? = some (y, b, mL, rt)) (hy : plainFor y = true) (hfl : l.flags = flags0)
    (hla : la.length = mL) (hla2 : ∀ (ad : Nat → Nat) (az : List Nat) (xs : List Value), e_st ad az vs xs → (lg_sl xs).length ≤ mL ∧ ∀ (o i : Nat) (v : e_V), la[i]? = some (some v) → ∃ x, (o + i, x) ∈ lv_args o xs ∧ e_rel ad az v x)
    (hwk : e_wk ad as0 tys w c.1 ws0) (hD : va_D (e_A0 base) ws0) :
    Met l y (.code y b mL rt :: e_ws) { frames := F.2.1, cells := c'.2.1 - c.2.1, slots := c'.2.2 - c.2.2, locals := F.2.2.1 } (e_Pc F ad D tys base as0 ws0 vs) (e_Qc ad D tys base as0 ov w' c'.1) (c'.2.1 - c.2.1) (c'.2.2 - c.2.2) (e_A0 base) := by
  refine e_ofWF (cc := b) (maxL := mL) (ret := rt) hy rfl ?_
  intro p e s m args below meth cd s₁ B hml hP
  obtain ⟨xs, rfl, hst, hP, hbase, hK, hsf⟩ := hP
  obtain ⟨h1, h2, h3, h4⟩ := hok
  have hlocks := B.notSynchronized
  have hts : ∀ w ∈ e_ws, w.before xs.toArray s = true := fun w hw => atoms_spec (ws := .code y b mL rt :: e_ws) B.pre w (List.mem_cons_of_mem _ hw)
  have hC : e_Cx F p l s m xs.toArray meth cd ad D tys base mL := ⟨hfl, B.exec, hlocks, hts, hK, hbase, hsf, _, hq, B.bytes, hml, rfl, findClass_of_methodNamed B.named, B.returns, (name_of_methodNamed B.named B.method).1, e_et B.method B.named (Stand.of_body B).code hts⟩
  have hent := lv_entry xs (n := mL) (hla2 ad as0 xs hst).1
  rw [lg_entry_eq]
  have hE : e_En p l e (headSpec (.code y b mL rt :: e_ws) { frames := F.2.1, cells := c'.2.1 - c.2.1, slots := c'.2.2 - c.2.2, locals := F.2.2.1 }).room s m xs.toArray below meth cd (MQ below (e_Qc ad D tys base as0 ov w' c'.1) xs.toArray s (c'.2.1 - c.2.1) (c'.2.2 - c.2.2) (e_A0 base)) ad D tys base mL as0 c.2.1 c.2.2 (.inl ov) w' c' := by
    intro as ws H locs hH
    obtain ⟨g1, g2, g3, g4, g5⟩ := hH
    have hF9 : ∀ t : State, t.heap = H → va_F (e_A0 base) s t := fun t ht => ⟨by rw [ht]; exact g4.1, fun q hq hA => by rw [ht]; exact g4.2.1 q hq hA⟩
    cases ov with
    | none => exact fun pc ls hr hd => W.vret B.exec rfl hr (fun t ht hW => ⟨as, ws, g5, g1, by rw [ht]; exact g2, g3, hF9 t ht, rfl⟩) g4.2.2 hd
    | some v =>
      intro pc ls x hx hret
      have hQ : ∀ t : State, t.heap = H → s.WarmedH t.vm → e_Qc ad D tys base as0 (some v) w' c'.1 xs.toArray s (.returned (some x)) t := fun t ht hW => ⟨as, ws, g5, g1, by rw [ht]; exact g2, g3, hF9 t ht, x, rfl, hx⟩
      rcases hret with ⟨⟨z, rfl, hr | ⟨hr, hz⟩⟩, hd⟩ | ⟨⟨z, rfl, hr⟩, hd⟩ | ⟨⟨hx2, rt2, hr, hrt⟩, hd⟩
      · exact W.iret B.exec rfl hr hQ g4.2.2 hd
      · exact W.zret B.exec rfl hr (by rcases hz with rfl | rfl <;> decide) hQ g4.2.2 hd
      · exact W.lret B.exec rfl hr hQ g4.2.2 hd
      · exact W.aret B.exec rfl hr hrt hx2 hQ g4.2.2 hd
  have hWG := h4 p l e _ s m xs.toArray below meth cd _ ad D tys base mL as0 c.2.1 c.2.2 hC (Nat.le_refl _) (Nat.le_refl _) (Nat.le_refl _) (Nat.le_refl _) (Nat.le_refl _) (Nat.le_refl _) hE
  have hfin := hWG as0 ws0 s.heap [] _ [] ⟨⟨hla, _, hent, fun i v hv => by obtain ⟨x, q1, q2⟩ := (hla2 ad as0 xs hst).2 0 i v hv; exact ⟨x, by rw [Nat.zero_add] at q1; exact q1, q2⟩⟩, trivial, hwk, hP, hD, va_S.rf, List.prefix_refl _⟩
  rw [Nat.sub_self, Nat.sub_self] at hfin
  exact hfin

theorem s_callSF {y mm n nx index : Nat} {own : String} {yn : MethodName} {yb : ByteArray} {rt : Option FieldType} (hq : (e_ml[M]?).map (·.2.1) = some cc) (ho : (e_ml[M]?).map (·.1.cls) = some own) (hy : e_ml[y]? = some (yn, yb, mm, rt)) (hplain : plainFor yn = true) (hcode : Jvm.Cond.code yn yb mm rt ∈ lw_tbl) (hini : Jvm.Cond.initialized yn.cls ∈ lw_tbl) (hdn : yn.cls ≠ "java/lang/invoke/MethodHandle" ∧ yn.cls ≠ "java/lang/invoke/VarHandle" ∧ (parseMethodDescriptor yn.desc).map (fun d => d.parameters.length) = some n) (hlink : Jvm.Cond.methodLink own index yn ∈ lw_tbl) (hstat : Jvm.Cond.static yn ∈ lw_tbl) (hd : decode cc pc = .ok (.invokestatic index, 3)) (hnx : nx = pc + 3) : e_Sn M pc (o_callS y mm n nx) := by
  intro g hg F al st w c K hM h
  unfold o_callS at h
  obtain ⟨t, r, rfl, ht0, h⟩ := e_args_t h
  obtain ⟨la, z1, w1, c1, hfr, hlo, hst8, hlal, hla, hok1, hres⟩ := e_go_t hg h
  rw [List.append_nil] at hla
  rcases z1 with (_ | v) | E
  · obtain ⟨z2, w2, c2, hK2, hok2⟩ := hg _ _ _ _ _ _ _ hres
    refine ⟨z2, w2, c2, hK2, Nat.le_trans hok1.1 hok2.1, Nat.le_trans hok1.2.1 hok2.2.1, Nat.le_trans hok1.2.2.1 hok2.2.2.1, ?_⟩
    intro p l e R s m args below meth cd Q ad D tys base nL as0 k0 s0 hC hf hl hk hs hc hsl hE
    have hok1' := hok1
    obtain ⟨b1, b2, b3, -⟩ := hok1'
    have hWG := hok2.2.2.2 p l e R s m args below meth cd Q ad D tys base nL as0 k0 s0 hC hf hl (by omega) (by omega) hc hsl hE
    obtain ⟨hx, hb⟩ := e_cc hM hq hC
    have d2 := hok2.2.1
    have d3 := hok2.2.2.1
    intro as ws H locs ls ys hS
    obtain ⟨h1, h2, h3, h4, h5, h6, h7⟩ := hS
    obtain ⟨tc, rc, rfl, ht1, ht2, ht3⟩ := e_st_app h2
    have hwd : (rc.map fun v => v.category).sum ≤ 8 := by rw [e_stw_t ht3]; exact hst8
    have hM9 := e_metF (ad := ad) (D := D) (tys := tys) (base := base) (as0 := as) (ws0 := ws) (l := l) hok1 hy hplain hC.1 hlal hla h3 h5
    have hpre : ∀ U : State, U.heap = H → s.WarmedH U.vm → e_Pc (y, F.2.1 - 1, F.2.2.1 - (mm + 19), F.2.2.2) ad D tys base as ws t.reverse (tc.reverse).toArray U := fun U hU hW => ⟨tc.reverse, rfl, e_st_rev ht2, by rw [hU]; exact h4, by rw [hU]; exact Nat.le_trans hC.2.2.2.2.2.1 h6.1, e_Kx_warm hW hC.2.2.2.2.1, by
      rw [hU]
      exact e_sf_moved hW.alike (fun q hq hA => h6.2.1 q hq hA) (e_sf_F rfl hC.2.2.2.2.2.2.1)⟩
    have hrun := va_runS (e := e) (below := below) (meth := meth) (As := tc.reverse) (rest := rc) (Ts := e_ws) (own := own) (H := H) (locs := locs) (cells := c.2.1 - k0) (slots := c.2.2 - s0) (g := F0 m pc ls (tc ++ rc)) ⟨hx, hb, rfl, e_own hM ho hC, hC.2.2.2.1⟩ hM9 ⟨callB_of n hC.2.2.2.1 (e_good hcode) rfl rfl rfl (e_wd hC hini rfl) (e_wd hC hlink rfl) hdn ⟨by show F.2.1 - 1 + 1 ≤ R.frames; omega, by show 8 + (mm + 11) + (F.2.2.1 - (mm + 19)) ≤ R.locals; omega⟩, e_wd hC hstat rfl⟩ ⟨e_Pc_blind, hpre⟩ rfl (by simp [ht1, ht0]) (h1.2.choose_spec.1.1.trans (by obtain ⟨-, -, -, -, -, -, -, q9, -, -, r3, -⟩ := hC; exact r3.symm)) (by simp) (lv_room hwd) hd ⟨by omega, by omega⟩
    refine e_runW hrun h6 (fun as1 ws1 H1 locs1 xo q1 q2 q3 q4 q5 q6 => ?_)
    have hfin := hWG as1 ws1 H1 locs1 ls (xo ++ rc) ⟨e_lo_mono h1 q1, by cases q6; exact e_st_mono q1 ht3, q2, q3, q4, q5, List.IsPrefix.trans h7 q1⟩
    subst hnx
    rw [show c.2.1 - k0 + (c1.2.1 - c.2.1) = c1.2.1 - k0 by omega, show c.2.2 - s0 + (c1.2.2 - c.2.2) = c1.2.2 - s0 by omega]
    exact hfin
  · obtain ⟨z2, w2, c2, hK2, hok2⟩ := hg _ _ _ _ _ _ _ hres
    refine ⟨z2, w2, c2, hK2, Nat.le_trans hok1.1 hok2.1, Nat.le_trans hok1.2.1 hok2.2.1, Nat.le_trans hok1.2.2.1 hok2.2.2.1, ?_⟩
    intro p l e R s m args below meth cd Q ad D tys base nL as0 k0 s0 hC hf hl hk hs hc hsl hE
    have hok1' := hok1
    obtain ⟨b1, b2, b3, -⟩ := hok1'
    have hWG := hok2.2.2.2 p l e R s m args below meth cd Q ad D tys base nL as0 k0 s0 hC hf hl (by omega) (by omega) hc hsl hE
    obtain ⟨hx, hb⟩ := e_cc hM hq hC
    have d2 := hok2.2.1
    have d3 := hok2.2.2.1
    intro as ws H locs ls ys hS
    obtain ⟨h1, h2, h3, h4, h5, h6, h7⟩ := hS
    obtain ⟨tc, rc, rfl, ht1, ht2, ht3⟩ := e_st_app h2
    have hwd : (rc.map fun v => v.category).sum ≤ 8 := by rw [e_stw_t ht3]; exact hst8
    have hM9 := e_metF (ad := ad) (D := D) (tys := tys) (base := base) (as0 := as) (ws0 := ws) (l := l) hok1 hy hplain hC.1 hlal hla h3 h5
    have hpre : ∀ U : State, U.heap = H → s.WarmedH U.vm → e_Pc (y, F.2.1 - 1, F.2.2.1 - (mm + 19), F.2.2.2) ad D tys base as ws t.reverse (tc.reverse).toArray U := fun U hU hW => ⟨tc.reverse, rfl, e_st_rev ht2, by rw [hU]; exact h4, by rw [hU]; exact Nat.le_trans hC.2.2.2.2.2.1 h6.1, e_Kx_warm hW hC.2.2.2.2.1, by
      rw [hU]
      exact e_sf_moved hW.alike (fun q hq hA => h6.2.1 q hq hA) (e_sf_F rfl hC.2.2.2.2.2.2.1)⟩
    have hrun := va_runS (e := e) (below := below) (meth := meth) (As := tc.reverse) (rest := rc) (Ts := e_ws) (own := own) (H := H) (locs := locs) (cells := c.2.1 - k0) (slots := c.2.2 - s0) (g := F0 m pc ls (tc ++ rc)) ⟨hx, hb, rfl, e_own hM ho hC, hC.2.2.2.1⟩ hM9 ⟨callB_of n hC.2.2.2.1 (e_good hcode) rfl rfl rfl (e_wd hC hini rfl) (e_wd hC hlink rfl) hdn ⟨by show F.2.1 - 1 + 1 ≤ R.frames; omega, by show 8 + (mm + 11) + (F.2.2.1 - (mm + 19)) ≤ R.locals; omega⟩, e_wd hC hstat rfl⟩ ⟨e_Pc_blind, hpre⟩ rfl (by simp [ht1, ht0]) (h1.2.choose_spec.1.1.trans (by obtain ⟨-, -, -, -, -, -, -, q9, -, -, r3, -⟩ := hC; exact r3.symm)) (by simp) (lv_room hwd) hd ⟨by omega, by omega⟩
    refine e_runW hrun h6 (fun as1 ws1 H1 locs1 xo q1 q2 q3 q4 q5 q6 => ?_)
    have hfin := hWG as1 ws1 H1 locs1 ls (xo ++ rc) ⟨e_lo_mono h1 q1, by obtain ⟨x, rfl, hx9⟩ := q6; exact ⟨hx9, e_st_mono q1 ht3⟩, q2, q3, q4, q5, List.IsPrefix.trans h7 q1⟩
    subst hnx
    rw [show c.2.1 - k0 + (c1.2.1 - c.2.1) = c1.2.1 - k0 by omega, show c.2.2 - s0 + (c1.2.2 - c.2.2) = c1.2.2 - s0 by omega]
    exact hfin
  · cases hres


theorem s_getfN {nx index ci k : Nat} {own ref host C : String} {T : u_T} {N : Nat} (hq : (e_ml[M]?).map (·.2.1) = some cc) (ho : (e_ml[M]?).map (·.1.cls) = some own) (hf : e_cl[ci]? = some (C, T, N) ∧ k < N ∧ (∀ w ∈ u_ws C T N, w ∈ lw_tbl) ∧ Jvm.Cond.fieldLinkNest own index ref (T k).2.1 (T k).2.2.1 host ∈ lw_tbl ∧ (T k).1 = ref) (hd : decode cc pc = .ok (.getfield index, 3)) (hnx : nx = pc + 3) : e_Sn M pc (o_getf (e_f1 ci k) nx) := by
  intro g hg F al st w c K hM h
  unfold o_getf at h
  split at h
  · next q r =>
      split at h
      · next cj fs hc =>
        split at h
        · next i hi =>
          split at h
          · next v hv =>
            have e1 : cj = ci ∧ i = k := by
              unfold e_f1 at hi
              cases hb9 : Nat.beq cj ci with
              | false => rw [hb9, cond_false] at hi; cases hi
              | true => rw [hb9, cond_true] at hi; exact ⟨Nat.eq_of_beq_eq_true hb9, (Option.some.inj hi).symm⟩
            obtain ⟨rfl, rfl⟩ := e1
            obtain ⟨z, w', c', hK, hok⟩ := hg _ _ _ _ _ _ _ h
            refine ⟨z, w', c', hK, e_step hok ?_⟩
            intro p l e R s m args below meth cd Q ad D tys base nL as0 k0 s0 hC hW
            obtain ⟨hx, hb⟩ := e_cc hM hq hC
            intro as ws H locs ls ys hS
            obtain ⟨h1, h2, h3, h4, h5, h6, h7⟩ := hS
            obtain ⟨x, ys, rfl, hr, h8⟩ := e_st_cons h2
            obtain ⟨a, ha, rfl⟩ := e_ref hr
            obtain ⟨e', he, hent⟩ := e_wk_at h3 ha
            rw [hc] at hent
            cases e' with
            | inl z => exact hent.elim
            | inr o =>
              obtain ⟨cj2, vs⟩ := o
              obtain ⟨rfl, hlen, hvs⟩ := hent
              rw [e_nth_eq] at hv
              obtain ⟨y, hy, hry⟩ := hvs i v hv
              subst hnx
              exact va_getN (own := own) (host := host) (Ts := e_ws) hx hb hC.2.2.2.1 (e_uws hf.2.2.1) (e_own hM ho hC) hC.2.2.2.2.1.1 h4 q he hf.1 i hf.2.1 ((hC.2.2.2.2.1.2.2.1 _ (List.mem_filter.mpr ⟨hf.2.2.2.1, rfl⟩)).use rfl) (fun x hx => by rw [← hf.2.2.2.2]; exact hx) hy hd (hW as ws H locs ls (y :: ys) ⟨h1, ⟨hry, h8⟩, h3, h4, h5, h6, h7⟩)
          · cases h
        · cases h
      · cases h
  · cases h

theorem e_aldA {p : Program} {l : Launch} {e : Env} {R : Room} {s : State} {m : MethodId} {args : Array Value} {below : List Frame} {meth : Method} {c : Code} {H : Heap} {locs : List Loc} {cells slots : Nat} {Q : State → Prop} {cc : ByteArray} {pc : Nat} {ls : Array Slot} {rest : List Value} {D : va_G} {cl : List vw_C} {a : Nat} {tys : List (ClassId × FieldType)} {ws : va_W} (hexec : p.tables.exec = Jvm.exec) (hb : c.code = cc) (hK : va_K D cl tys s) (hP : va_P D cl ws H) (q0 t0 : Nat) {cA : ClassId} {E : FieldType} {n : Nat} {f : Nat → Option Nat} (ha : ws[q0]? = some (a, .inl (cA, n, .inr (.inr (.inr (.inr f)))))) (ht : tys[t0]? = some (cA, .array E)) {i : Int32} (hin : vp_in i n) (hdg : decode cc pc = .ok (.aaload, 1))
    (kk : W p l e R s m args below meth c H locs cells slots Q (F0 m (pc + 1) ls (va_rf (f i.toNatClampNeg) :: rest))) : W p l e R s m args below meth c H locs cells slots Q (F0 m pc ls (.int i :: .ref a :: rest)) := by
  have hlt : i.toNatClampNeg < n := Nat.not_le.mp fun q => hin (Or.inr q)
  exact W.aald (v := va_rf (f i.toNatClampNeg)) (ty := .array E) hexec hb (hP q0 _ ha) ((hK.2 t0 _ ht).1 n (fun j => va_rf (f j))) rfl (fun q => by cases q) (by show ¬ (i < 0 ∨ (arrV _ _ _).slots.size ≤ _); rw [arrV_size]; exact hin) (by show (arrV _ _ _).slots[_]? = _; rw [arrV_read _ _ hlt]) rfl rfl hdg kk
theorem s_aaldA {nx : Nat} {tc : Nat} {E : FieldType} (hkt : e_kt[tc + 3]? = some (.array E)) (hq : (e_ml[M]?).map (·.2.1) = some cc) (hd : decode cc pc = .ok (.aaload, 1)) (hnx : nx = pc + 1) : e_Sn M pc (o_aldO (tc + 3) nx) := by
  intro g hg F al st w c K hM h
  unfold o_aldO at h
  split at h
  · next i q r =>
    split at h
    · next l1 h1 t rs hi hc =>
      cases hbc : (Nat.beq t (tc + 3) && Nat.ble 2147483648 l1 && Nat.ble l1 h1) with
      | false => rw [hbc, cond_false] at h; cases h
      | true =>
        rw [hbc, cond_true] at h
        obtain ⟨g0, g2⟩ := (Bool.and_eq_true _ _).mp hbc
        obtain ⟨g0, g1⟩ := (Bool.and_eq_true _ _).mp g0
        replace g0 := Nat.eq_of_beq_eq_true g0
        replace g1 := Nat.le_of_ble_eq_true g1
        replace g2 := Nat.le_of_ble_eq_true g2
        subst g0
        split at h
        · next v hv =>
          obtain ⟨z, w', c', hK, hok⟩ := hg _ _ _ _ _ _ _ h
          refine ⟨z, w', c', hK, e_step hok ?_⟩
          intro p l e R s m args below meth cd Q ad D tys base nL as0 k0 s0 hC hW
          obtain ⟨hx, hb⟩ := e_cc hM hq hC
          intro as ws H locs ls ys hS
          obtain ⟨h1, h2, h3, h4, h5, h6, h7⟩ := hS
          obtain ⟨y0, ys, rfl, hr0, h80⟩ := e_st_cons h2
          obtain ⟨x, ys, rfl, hr, h8⟩ := e_st_cons h80
          obtain ⟨a, ha, rfl⟩ := e_ref hr
          obtain ⟨i9, i1, i2, i3, rfl⟩ := e_rel_rg hr0 hi
          dsimp only at i1 i2
          obtain ⟨e', he, hent⟩ := e_wk_at h3 ha
          rw [hc] at hent
          cases e' with
          | inr z => exact hent.elim
          | inl o =>
            obtain ⟨cA, n, f⟩ := o
            obtain ⟨⟨ty, hty⟩, hn, hn2, harr⟩ := hent
            have hk := e_kt_at hC.2.2.2.2.1 hty
            obtain rfl : ty = .array E := Option.some.inj (hk.symm.trans hkt)
            rcases f with f | f | f | f | f
            · exact harr.elim
            · exact harr.elim
            · exact harr.elim
            · exact harr.elim
            · skip
              have hrel : e_rel ad as v (va_rf (f (i9 - 2147483648))) := harr _ _ (e_rget_t hv (by omega) (i9 - 2147483648) (by omega) (by omega)).1
              obtain ⟨j1, j2⟩ := e_rget_t hv (by omega) (i9 - 2147483648) (by omega) (by omega)
              subst hnx
              exact e_aldA hx hb hC.2.2.2.2.1.1 h4 q _ he hty (e_in i3 (by omega) (by omega)) hd (by rw [e_i_cl i3 (by omega)]; exact hW as ws H locs ls (va_rf (f (i9 - 2147483648)) :: ys) ⟨h1, ⟨hrel, h8⟩, h3, h4, h5, h6, h7⟩)
        · cases h
    · cases h
  · cases h

end SN
