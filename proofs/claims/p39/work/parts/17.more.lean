/-! MORE OPERATIONS: Object's constructor, casts, an empty copy -/
noncomputable def o_oinit (nx : Nat) : e_O := fun g F ls st w c K => match st with
  | .inr (.inl (some _)) :: r => bif Nat.blt 0 F.2.1 && Nat.ble 20 F.2.2.1 && Nat.ble (e_stw r) 8 then g F nx ls r w c K else false
  | _ => false
noncomputable def o_cast (k : Nat) (nx : Nat) : e_O := fun g F ls st w c K => match st with
  | .inr (.inl none) :: r => g F nx ls (e_N :: r) w c K
  | .inr (.inl (some q)) :: r => bif Nat.beq (e_cod (e_tget 13 w q)) k then g F nx ls (e_R q :: r) w c K else false
  | _ => false
section SN
variable {M pc : Nat} {cc : ByteArray}
theorem e_stepR {F : e_F} {pc nx : Nat} {al al' : e_A} {st st' : List e_V} {w w1 w' : e_W} {c c' : e_Q} {z : e_Z} (hok : e_Ok F nx al' st' w1 c z w' c')
    (hrow : ∀ (p : Program) (l : Launch) (e : Env) (R : Room) (s : State) (m : MethodId) (args : Array Value) (below : List Frame) (meth : Method) (cd : Code) (Q : State → Prop) (ad : Nat → Nat) (D : va_G) (tys : List (ClassId × FieldType)) (base nL : Nat) (as0 : List Nat) (k0 s0 : Nat), e_Cx F p l s m args meth cd ad D tys base nL → F.2.1 ≤ R.frames → F.2.2.1 ≤ R.locals → e_wg p l e R s m args below meth cd Q ad D tys base nL as0 k0 s0 nx al' st' w1 c → e_wg p l e R s m args below meth cd Q ad D tys base nL as0 k0 s0 pc al st w c) : e_Ok F pc al st w c z w' c' := by
  obtain ⟨h1, h2, h3, h4⟩ := hok
  refine ⟨h1, h2, h3, ?_⟩
  intro p l e R s m args below meth cd Q ad D tys base nL as0 k0 s0 hC hf hl hk hs hc hsl hE
  exact hrow p l e R s m args below meth cd Q ad D tys base nL as0 k0 s0 hC hf hl (h4 p l e R s m args below meth cd Q ad D tys base nL as0 k0 s0 hC hf hl hk hs hc hsl hE)
theorem s_oinit {nx idx : Nat} {own : String} (hq : (e_ml[M]?).map (·.2.1) = some cc) (ho : (e_ml[M]?).map (·.1.cls) = some own) (hl1 : Jvm.Cond.methodLink own idx Lib.objectInit ∈ lw_tbl) (hl2 : Jvm.Cond.instanceMethod Lib.objectInit ∈ lw_tbl) (hl3 : Jvm.Cond.code Lib.objectInit ⟨#[0xb1]⟩ 1 none ∈ lw_tbl) (hd : decode cc pc = .ok (.invokespecial idx, 3)) (hnx : nx = pc + 3) : e_Sn M pc (o_oinit nx) := by
  intro g hg F al st w c K hM h
  unfold o_oinit at h
  split at h
  · next q r =>
    cases hbc : (Nat.blt 0 F.2.1 && Nat.ble 20 F.2.2.1 && Nat.ble (e_stw r) 8) with
    | false => rw [hbc, cond_false] at h; cases h
    | true =>
      rw [hbc, cond_true] at h
      obtain ⟨g1, g3⟩ := (Bool.and_eq_true _ _).mp hbc
      obtain ⟨g1, g2⟩ := (Bool.and_eq_true _ _).mp g1
      replace g1 : 0 < F.2.1 := Nat.le_of_ble_eq_true g1
      replace g2 := Nat.le_of_ble_eq_true g2
      replace g3 := Nat.le_of_ble_eq_true g3
      obtain ⟨z, w', c', hK, hok⟩ := hg _ _ _ _ _ _ _ h
      refine ⟨z, w', c', hK, e_stepR hok ?_⟩
      intro p l e R s m args below meth cd Q ad D tys base nL as0 k0 s0 hC hf hl hW
      obtain ⟨hx, hb⟩ := e_cc hM hq hC
      intro as ws H locs ls ys hS
      obtain ⟨h1, h2, h3⟩ := hS
      obtain ⟨x, ys, rfl, hr, h8⟩ := e_st_cons h2
      obtain ⟨a, ha, rfl⟩ := e_ref hr
      subst hnx
      have hsz : ls.size = cd.maxLocals := h1.2.choose_spec.1.1.trans (by obtain ⟨-, -, -, -, -, -, -, q9, -, -, r3, -⟩ := hC; exact r3.symm)
      refine W.objInit hx hb (e_own hM ho hC) (e_wd hC hl1 rfl) (e_wd hC hl2 rfl) (e_wd hC hl3 rfl) rfl hsz rfl hd (by omega) ?_ (hW as ws H locs ls ys ⟨h1, h8, h3⟩)
      have h9 := lv_room (m := m) (pc := pc) (ls := ls) (rest := ys) (st := ys) (by rw [e_stw_t h8]; exact g3)
      rw [e_stw_t h8] at h9 ⊢
      have h10 : (F0 m pc ls (Value.ref a :: ys)).monitorRoom = (F0 m pc ls ys).monitorRoom := rfl
      omega
  · cases h
/-- a cast of null, of an object of just that class, of an array of ints -/
theorem s_cast {nx index k : Nat} {own nm : String} (hq : (e_ml[M]?).map (·.2.1) = some cc) (ho : (e_ml[M]?).map (·.1.cls) = some own) (hl1 : Jvm.Cond.classLink own index nm ∈ lw_tbl) (hk : (k < 100 ∧ (e_cl[k]?).map (·.1) = some nm) ∨ (k = 100 ∧ nm = "[I")) (hd : decode cc pc = .ok (.checkcast index, 3)) (hnx : nx = pc + 3) : e_Sn M pc (o_cast k nx) := by
  intro g hg F al st w c K hM h
  unfold o_cast at h
  split at h
  · next r =>
    obtain ⟨z, w', c', hK, hok⟩ := hg _ _ _ _ _ _ _ h
    refine ⟨z, w', c', hK, e_step hok ?_⟩
    intro p l e R s m args below meth cd Q ad D tys base nL as0 k0 s0 hC hW
    obtain ⟨hx, hb⟩ := e_cc hM hq hC
    exact e_pure (st' := e_N :: r) (fun as ys h2 => by
      obtain ⟨x, y, rfl, hx9, h3⟩ := e_st_cons h2
      cases (show x = .null from hx9)
      exact ⟨.null :: y, ⟨rfl, h3⟩, fun H locs cells slots ls k => by subst hnx; exact lv_castN hx hb hd k⟩) hW
  · next q r =>
    cases hbc : Nat.beq (e_cod (e_tget 13 w q)) k with
    | false => rw [hbc, cond_false] at h; cases h
    | true =>
      rw [hbc, cond_true] at h
      replace hbc := Nat.eq_of_beq_eq_true hbc
      obtain ⟨z, w', c', hK, hok⟩ := hg _ _ _ _ _ _ _ h
      refine ⟨z, w', c', hK, e_step hok ?_⟩
      intro p l e R s m args below meth cd Q ad D tys base nL as0 k0 s0 hC hW
      obtain ⟨hx, hb⟩ := e_cc hM hq hC
      intro as ws H locs ls ys hS
      obtain ⟨h1, h2, h3, h4, h5, h6, h7⟩ := hS
      obtain ⟨x, ys, rfl, hr, h8⟩ := e_st_cons h2
      obtain ⟨a, ha, rfl⟩ := e_ref hr
      obtain ⟨e', he, hent⟩ := e_wk_at h3 ha
      subst hnx
      have hnext := hW as ws H locs ls (.ref a :: ys) ⟨h1, ⟨hr, h8⟩, h3, h4, h5, h6, h7⟩
      generalize e_tget 13 w q = xx at hent hbc
      cases xx with
      | inl o1 =>
        obtain ⟨ci, fs⟩ := o1
        cases e' with
        | inl z => exact hent.elim
        | inr o2 =>
          obtain ⟨cj, vs⟩ := o2
          obtain ⟨rfl, -, -⟩ := hent
          obtain ⟨r9, q1, -⟩ := h4 q _ he
          have hk2 : ci = k := hbc
          subst hk2
          rcases hk with ⟨-, hk⟩ | ⟨hk, -⟩
          · rw [q1] at hk
            cases Option.some.inj hk
            have hrc := va_recv hC.2.2.2.2.1.1 h4 q1 he
            exact va_castS hx hb (e_own hM ho hC) (e_wd hC hl1 rfl) (hC.2.2.2.2.1.1.1 ci r9 q1).2 hrc hd hnext
          · have := (List.getElem?_eq_some_iff.mp q1).1
            have h100 : e_cl.length ≤ 100 := by decide
            omega
      | inr o1 =>
        obtain ⟨t2, rs2⟩ := o1
        cases e' with
        | inr z => exact hent.elim
        | inl o2 =>
          obtain ⟨cB, nB, fB⟩ := o2
          obtain ⟨⟨tyB, htyB⟩, -, -, -⟩ := hent
          have hkB := e_kt_at hC.2.2.2.2.1 htyB
          have hk2 : 100 + t2 = k := hbc
          rcases hk with ⟨hk, -⟩ | ⟨hk, rfl⟩
          · omega
          · obtain rfl : t2 = 0 := by omega
            obtain rfl : tyB = .int := (Option.some.inj hkB).symm
            have hRA := (hC.2.2.2.2.1.1.2 0 _ htyB).2
            exact va_castA hx hb (e_own hM ho hC) (e_wd hC hl1 rfl) h4 q he hRA hd hnext
  · cases h
end SN
