/-! THROWS: the op; contracts of methods that throw; calls whose throws the caller's own table catches; methods with a table -/
section SN
variable {M pc : Nat} {cc : ByteArray}
noncomputable def e_wok (L : List Jvm.Cond) (ps : List Nat) : Bool := decide (ps.map (fun i => lw_tbl[i]?) = L.map some) && L.all (fun w => goodWord w || (e_nk w && w.onTables))
theorem e_wok_at {L : List Jvm.Cond} {ps : List Nat} (h : e_wok L ps = true) {args : Array Value} {s : State} (h1 : ∀ w ∈ e_ws, w.before args s = true) (h2 : ∀ w ∈ e_nw, va_Nw w s) : (∀ w ∈ L, w.before args s = true) ∧ ∀ w ∈ L, vx_ot w = true := by
  obtain ⟨h4, h3⟩ := (Bool.and_eq_true _ _).mp h
  have h4 := of_decide_eq_true h4
  have key : ∀ w ∈ L, w.before args s = true ∧ vx_ot w = true := by
    intro w hw
    have h5 := List.all_eq_true.mp h3 w hw
    have h6 : w ∈ lw_tbl := by
      have h7 : some w ∈ ps.map (fun i => lw_tbl[i]?) := by rw [h4]; exact List.mem_map.mpr ⟨w, hw, rfl⟩
      obtain ⟨i, -, hi⟩ := List.mem_map.mp h7
      exact List.mem_of_getElem? hi
    rcases (Bool.or_eq_true _ _).mp h5 with g | g
    · exact ⟨h1 w (List.mem_filter.mpr ⟨h6, g⟩), by unfold vx_ot; rw [g, Bool.or_true]⟩
    · obtain ⟨g1, g2⟩ := (Bool.and_eq_true _ _).mp g
      exact ⟨(h2 w (List.mem_filter.mpr ⟨h6, g1⟩)).use g2, by unfold vx_ot; rw [g2, Bool.true_or]⟩
  exact ⟨fun w hw => (key w hw).1, fun w hw => (key w hw).2⟩
theorem s_throw {E ik is ic mL : Nat} {X text own : String} {yn : MethodName} {b : ByteArray} {rt : Option FieldType} (hq : (e_ml[M]?).map (·.2.1) = some cc) (ho : (e_ml[M]?).map (·.1.cls) = some own) (hyn : e_ml[M]? = some (yn, b, mL, rt)) (hcode : Jvm.Cond.code yn b mL rt ∈ lw_tbl) (hE : e_xn E = some X) (hfit : Bundle.fit X = true)
    {ps : List Nat} (hw : e_wok (Jvm.Cond.classLink own ik X :: Jvm.Cond.initialized X :: vx_atS own ic X e_nm) ps = true) (hs : (own, is, text) ∈ e_sr)
    (d0 : decode cc pc = .ok (.new ik, 3)) (d3 : decode cc (pc + 3) = .ok (.dup, 1)) (d4 : decode cc (pc + 4) = .ok (.ldc is, 2) ∧ decode cc (pc + 6) = .ok (.invokespecial ic, 3) ∧ decode cc (pc + 9) = .ok (.athrow, 1) ∨ decode cc (pc + 4) = .ok (.ldc_w is, 3) ∧ decode cc (pc + 7) = .ok (.invokespecial ic, 3) ∧ decode cc (pc + 10) = .ok (.athrow, 1)) : e_Sn M pc (o_throw E) := by
  intro g hg F al st w c K hM h
  obtain ⟨q, c1, c2⟩ := c
  unfold o_throw at h
  cases hbc : (Nat.ble 6 F.2.1 && Nat.ble 90 F.2.2.1 && Nat.ble (e_stw st) 8) with
  | false => rw [hbc, cond_false] at h; cases h
  | true =>
    rw [hbc, cond_true] at h
    replace h : K (.inr E) w (q, c1 + 1, c2 + 6) = true := e_fo_t (e_fo_t h)
    obtain ⟨g1, g3⟩ := (Bool.and_eq_true _ _).mp hbc
    obtain ⟨g1, g2⟩ := (Bool.and_eq_true _ _).mp g1
    replace g1 := Nat.le_of_ble_eq_true g1
    replace g2 := Nat.le_of_ble_eq_true g2
    replace g3 := Nat.le_of_ble_eq_true g3
    refine ⟨_, _, _, h, Nat.le_refl _, Nat.le_succ _, Nat.le_add_right _ _, ?_⟩
    intro p l e R s m args below meth cd Q ad D tys base nL as0 k0 s0 hC hf hl hk hs0 hc hsl hE'
    obtain ⟨hx, hb⟩ := e_cc hM hq hC
    intro as ws H locs ls ys hS
    obtain ⟨h1, h2, h3, h4, h5, h6, h7⟩ := hS
    dsimp only at hk hs0 hc hsl h3
    obtain ⟨sa, hsa⟩ := hC.2.2.2.2.1.2.2.2.1 _ hs
    obtain ⟨w1, w2⟩ := e_wok_at hw (args := args) hC.2.2.2.1 hC.2.2.2.2.1.2.2.1
    have hown := e_own hM ho hC
    obtain ⟨-, -, -, -, -, -, -, q9, r1, r2, r3, r4, -, -, -, r7⟩ := hC
    rw [hM, hyn] at r1
    cases r1
    have htab := r7.1 b mL rt (List.mem_filter.mpr ⟨hcode, rfl⟩)
    refine (hE' as ws H locs ⟨h3, h4, h5, h6, h7⟩).2 pc ls ys X _ _ hE ⟨own, text, ik, is, ic, sa, hown, hfit, w1 _ List.mem_cons_self, w1 _ (List.mem_cons_of_mem _ List.mem_cons_self), hsa, fun w hw => w1 w (List.mem_cons_of_mem _ (List.mem_cons_of_mem _ hw)), w2, by rw [hb]; exact d0, by rw [hb]; exact d3, by rw [hb]; exact d4, htab, h1.2.choose_spec.1.1.trans r3.symm, by rw [e_stw_t h2]; exact g3, by omega, by omega⟩ ?_ ?_
    · show c1 - k0 + 1 ≤ c1 + 1 - k0
      omega
    · show c2 - s0 + 6 ≤ c2 + 6 - s0
      omega
/-- what a thrown end leaves -/
noncomputable def e_XC (ad : Nat → Nat) (D : va_G) (tys : List (ClassId × FieldType)) (base : Nat) (as0 : List Nat) (E : Nat) (w' : e_W) (n' : Nat) : String → State → State → Prop := fun X st t =>
  e_xn E = some X ∧ ∃ as' ws', as0 <+: as' ∧ e_wk ad as' tys w' n' ws' ∧ va_P D e_cl ws' t.heap ∧ va_D (e_A0 base) ws' ∧ va_F (e_A0 base) st t
theorem e_metX {F : e_F} {la : e_A} {vs : List e_V} {w w' : e_W} {c c' : e_Q} {E : Nat} {y : MethodName} {b : ByteArray} {mL : Nat} {rt : Option FieldType} {ad : Nat → Nat} {D : va_G} {tys : List (ClassId × FieldType)} {base : Nat} {as0 : List Nat} {ws0 : va_W} {l : Launch} (hok : e_Ok F 0 la [] w c (.inr E) w' c') {X0 : String} (hX0 : e_xn E = some X0) (hq : e_ml[F.1]? = some (y, b, mL, rt)) (hy : plainName y.cls = true) (hfl : l.flags = flags0)
    (hla : la.length = mL) (hla2 : ∀ (ad : Nat → Nat) (az : List Nat) (xs : List Value), e_st ad az vs xs → (lg_sl xs).length ≤ mL ∧ ∀ (o i : Nat) (v : e_V), la[i]? = some (some v) → ∃ x, (o + i, x) ∈ lv_args o xs ∧ e_rel ad az v x)
    (hwk : e_wk ad as0 tys w c.1 ws0) (hD : va_D (e_A0 base) ws0) :
    vx_Met l y (.code y b mL rt :: e_ws) { frames := F.2.1, cells := c'.2.1 - c.2.1, slots := c'.2.2 - c.2.2, locals := F.2.2.1 } (e_Pc F ad D tys base as0 ws0 vs) (fun _ _ _ _ => False) (e_XC ad D tys base as0 E w' c'.1) (c'.2.1 - c.2.1) (c'.2.2 - c.2.2) (e_A0 base) := by
  refine vx_ofW (cc := b) (maxL := mL) (ret := rt) hy rfl ?_
  intro p e s m args below meth cd s₁ B hml hxt hP
  obtain ⟨xs, rfl, hst, hP, hbase, hK, hsf⟩ := hP
  obtain ⟨h1, h2, h3, h4⟩ := hok
  have hlocks := B.notSynchronized
  have hts : ∀ w ∈ e_ws, w.before xs.toArray s = true := fun w hw => atoms_spec (ws := .code y b mL rt :: e_ws) B.pre w (List.mem_cons_of_mem _ hw)
  have hC : e_Cx F p l s m xs.toArray meth cd ad D tys base mL := ⟨hfl, B.exec, hlocks, hts, hK, hbase, hsf, _, hq, B.bytes, hml, rfl, findClass_of_methodNamed B.named, B.returns, (name_of_methodNamed B.named B.method).1, e_et B.method B.named (Stand.of_body B).code hts⟩
  have hent := lv_entry xs (n := mL) (hla2 ad as0 xs hst).1
  rw [lg_entry_eq]
  have hE : e_En p l e (headSpec (.code y b mL rt :: e_ws) { frames := F.2.1, cells := c'.2.1 - c.2.1, slots := c'.2.2 - c.2.2, locals := F.2.2.1 }).room s m xs.toArray below meth cd (vx_MQ below (fun _ _ _ _ => False) (e_XC ad D tys base as0 E w' c'.1) xs.toArray s (c'.2.1 - c.2.1) (c'.2.2 - c.2.2) (e_A0 base)) ad D tys base mL as0 c.2.1 c.2.2 (.inr E) w' c' := by
    intro as ws H locs hH
    refine ⟨fun h9 => (by subst h9; cases hX0), fun pc ls ys X n1 n2 hX hTh hn1 hn2 => ?_⟩
    obtain ⟨g1, g2, g3, g4, g5⟩ := hH
    obtain ⟨own, text, ik, is, ic, sa, t1, t2, t3, t4, t5, t6, t7, d0, d3, d4, t8, t9, t10, t11, t12⟩ := hTh
    have hst9 : l.stackTraces = false := by
      unfold Launch.stackTraces
      rw [hfl]
      decide +kernel
    rcases d4 with ⟨d4, d6, d9⟩ | ⟨d4, d6, d9⟩
    · refine vx_throwS (A := e_A0 base) (names := e_nm) B.exec rfl hst9 t1 t2 (by intro n hn; simp only [e_nm, List.mem_cons, List.not_mem_nil, or_false] at hn; rcases hn with rfl | rfl <;> decide +kernel) t3 t4 t5 t6 t7 hsf.2.2.1 hsf.2.2.2.1 g4 t9 d0 d3 d4 d6 d9 (by rw [t8]; intro x hx; cases hx) t11 ?_ hn1 hn2 hlocks ?_ g4.2.2 hn1 hn2
      · have e9 : e_nm.length = 2 := rfl
        rw [e9]
        show _ ≤ (headSpec (.code y b mL rt :: e_ws) { frames := F.2.1, cells := c'.2.1 - c.2.1, slots := c'.2.2 - c.2.2, locals := F.2.2.1 }).room.locals
        omega
      · intro t ht hz hq9
        refine ⟨hX, as, ws, g5, g1, g2.kept (fun k q hk => hq9 q.1 (g2 k q hk).lt), g3, Nat.le_trans g4.1 hz, fun q hq hA => ?_⟩
        rw [hq9 q (Nat.lt_of_lt_of_le hq g4.1)]
        exact g4.2.1 q hq hA
    · refine vx_throwSW (A := e_A0 base) (names := e_nm) B.exec rfl hst9 t1 t2 (by intro n hn; simp only [e_nm, List.mem_cons, List.not_mem_nil, or_false] at hn; rcases hn with rfl | rfl <;> decide +kernel) t3 t4 t5 t6 t7 hsf.2.2.1 hsf.2.2.2.1 g4 t9 d0 d3 d4 d6 d9 (by rw [t8]; intro x hx; cases hx) t11 ?_ hn1 hn2 hlocks ?_ g4.2.2 hn1 hn2
      · have e9 : e_nm.length = 2 := rfl
        rw [e9]
        show _ ≤ (headSpec (.code y b mL rt :: e_ws) { frames := F.2.1, cells := c'.2.1 - c.2.1, slots := c'.2.2 - c.2.2, locals := F.2.2.1 }).room.locals
        omega
      · intro t ht hz hq9
        refine ⟨hX, as, ws, g5, g1, g2.kept (fun k q hk => hq9 q.1 (g2 k q hk).lt), g3, Nat.le_trans g4.1 hz, fun q hq hA => ?_⟩
        rw [hq9 q (Nat.lt_of_lt_of_le hq g4.1)]
        exact g4.2.1 q hq hA
  have hWG := h4 p l e _ s m xs.toArray below meth cd _ ad D tys base mL as0 c.2.1 c.2.2 hC (Nat.le_refl _) (Nat.le_refl _) (Nat.le_refl _) (Nat.le_refl _) (Nat.le_refl _) (Nat.le_refl _) hE
  have hfin := hWG as0 ws0 s.heap [] _ [] ⟨⟨hla, _, hent, fun i v hv => by obtain ⟨x, q1, q2⟩ := (hla2 ad as0 xs hst).2 0 i v hv; exact ⟨x, by rw [Nat.zero_add] at q1; exact q1, q2⟩⟩, trivial, hwk, hP, hD, va_S.rf, List.prefix_refl _⟩
  rw [Nat.sub_self, Nat.sub_self] at hfin
  exact hfin
/-- the same of a method with a table of its own, that comes back -/
theorem e_metW {F : e_F} {la : e_A} {vs : List e_V} {w w' : e_W} {c c' : e_Q} {ov : Option e_V} {y : MethodName} {b : ByteArray} {mL : Nat} {rt : Option FieldType} {hh : List (Nat × Nat × Nat × Nat)} {ad : Nat → Nat} {D : va_G} {tys : List (ClassId × FieldType)} {base : Nat} {as0 : List Nat} {ws0 : va_W} {l : Launch} (hok : e_Ok F 0 la [] w c (.inl ov) w' c') (hq : e_ml[F.1]? = some (y, b, mL, rt)) (hy : plainName y.cls = true) (hfl : l.flags = flags0)
    (hla : la.length = mL) (hla2 : ∀ (ad : Nat → Nat) (az : List Nat) (xs : List Value), e_st ad az vs xs → (lg_sl xs).length ≤ mL ∧ ∀ (o i : Nat) (v : e_V), la[i]? = some (some v) → ∃ x, (o + i, x) ∈ lv_args o xs ∧ e_rel ad az v x)
    (hwk : e_wk ad as0 tys w c.1 ws0) (hD : va_D (e_A0 base) ws0) :
    vx_Met l y (.codeWith y b mL rt hh :: e_ws) { frames := F.2.1, cells := c'.2.1 - c.2.1, slots := c'.2.2 - c.2.2, locals := F.2.2.1 } (e_Pc F ad D tys base as0 ws0 vs) (e_Qc ad D tys base as0 ov w' c'.1) (fun _ _ _ => False) (c'.2.1 - c.2.1) (c'.2.2 - c.2.2) (e_A0 base) := by
  refine vx_ofWH (cc := b) (maxL := mL) (ret := rt) hy rfl ?_
  intro p e s m args below meth cd s₁ B hml hP
  obtain ⟨xs, rfl, hst, hP, hbase, hK, hsf⟩ := hP
  obtain ⟨h1, h2, h3, h4⟩ := hok
  have hlocks := B.notSynchronized
  have hts : ∀ w ∈ e_ws, w.before xs.toArray s = true := fun w hw => atoms_spec (ws := .codeWith y b mL rt hh :: e_ws) B.pre w (List.mem_cons_of_mem _ hw)
  have hC : e_Cx F p l s m xs.toArray meth cd ad D tys base mL := ⟨hfl, B.exec, hlocks, hts, hK, hbase, hsf, _, hq, B.bytes, hml, rfl, findClass_of_methodNamed B.named, B.returns, (name_of_methodNamed B.named B.method).1, e_et B.method B.named (Stand.of_body B).code hts⟩
  have hent := lv_entry xs (n := mL) (hla2 ad as0 xs hst).1
  rw [lg_entry_eq]
  have hE : e_En p l e (headSpec (.codeWith y b mL rt hh :: e_ws) { frames := F.2.1, cells := c'.2.1 - c.2.1, slots := c'.2.2 - c.2.2, locals := F.2.2.1 }).room s m xs.toArray below meth cd (vx_MQ below (e_Qc ad D tys base as0 ov w' c'.1) (fun _ _ _ => False) xs.toArray s (c'.2.1 - c.2.1) (c'.2.2 - c.2.2) (e_A0 base)) ad D tys base mL as0 c.2.1 c.2.2 (.inl ov) w' c' := by
    intro as ws H locs hH
    obtain ⟨g1, g2, g3, g4, g5⟩ := hH
    have hF9 : ∀ t : State, t.heap = H → va_F (e_A0 base) s t := fun t ht => ⟨by rw [ht]; exact g4.1, fun q hq hA => by rw [ht]; exact g4.2.1 q hq hA⟩
    cases ov with
    | none => exact fun pc ls hr hd => vx_ret (W.vret B.exec rfl hr (fun t ht hW => ⟨as, ws, g5, g1, by rw [ht]; exact g2, g3, hF9 t ht, rfl⟩) g4.2.2 hd)
    | some v =>
      intro pc ls x hx hret
      have hQ : ∀ t : State, t.heap = H → s.WarmedH t.vm → e_Qc ad D tys base as0 (some v) w' c'.1 xs.toArray s (.returned (some x)) t := fun t ht hW => ⟨as, ws, g5, g1, by rw [ht]; exact g2, g3, hF9 t ht, x, rfl, hx⟩
      rcases hret with ⟨⟨z, rfl, hr | ⟨hr, hz⟩⟩, hd⟩ | ⟨⟨z, rfl, hr⟩, hd⟩ | ⟨⟨hx2, rt2, hr, hrt⟩, hd⟩
      · exact vx_ret (W.iret B.exec rfl hr hQ g4.2.2 hd)
      · exact vx_ret (W.zret B.exec rfl hr (by rcases hz with rfl | rfl <;> decide) hQ g4.2.2 hd)
      · exact vx_ret (W.lret B.exec rfl hr hQ g4.2.2 hd)
      · exact vx_ret (W.aret B.exec rfl hr hrt hx2 hQ g4.2.2 hd)
  have hWG := h4 p l e _ s m xs.toArray below meth cd _ ad D tys base mL as0 c.2.1 c.2.2 hC (Nat.le_refl _) (Nat.le_refl _) (Nat.le_refl _) (Nat.le_refl _) (Nat.le_refl _) (Nat.le_refl _) hE
  have hfin := hWG as0 ws0 s.heap [] _ [] ⟨⟨hla, _, hent, fun i v hv => by obtain ⟨x, q1, q2⟩ := (hla2 ad as0 xs hst).2 0 i v hv; exact ⟨x, by rw [Nat.zero_add] at q1; exact q1, q2⟩⟩, trivial, hwk, hP, hD, va_S.rf, List.prefix_refl _⟩
  rw [Nat.sub_self, Nat.sub_self] at hfin
  exact hfin

/-- behind a callee that throws -/
theorem e_runX {p : Program} {l : Launch} {e : Env} {R : Room} {s : State} {m : MethodId} {args : Array Value} {below : List Frame} {meth : Method} {cd : Code} {Q : State → Prop} {ad : Nat → Nat} {D : va_G} {tys : List (ClassId × FieldType)} {base : Nat} {as : List Nat} {w1 : e_W} {n1 mc ms cells slots pc : Nat} {H : Heap} {locs : List Loc} {ls : Array Slot} {ys rc : List Value} {E : Nat}
    (hr : vx_Run p l e R s m args below meth cd H locs cells slots mc ms (F0 m pc ls ys) rc (fun _ _ _ => False) (e_XC ad D tys base as E w1 n1) (e_A0 base)) (hS : va_S (e_A0 base) s.heap H locs)
    (hk : ∀ (as1 : List Nat) (ws1 : va_W) (H1 : Heap) (locs1 : List Loc) (q : Addr) (ce : Cell) (X : String), as <+: as1 → e_wk ad as1 tys w1 n1 ws1 → va_P D e_cl ws1 H1 → va_D (e_A0 base) ws1 → va_S (e_A0 base) s.heap H1 locs1 → H1[q]? = some ce → ce.vm = .none → s.vm.findClass X = some ce.cls → e_xn E = some X → vx_W p l e R s m args below meth cd H1 locs1 (cells + mc) (slots + ms) Q (F0 m pc ls rc) q) : W p l e R s m args below meth cd H locs cells slots Q (F0 m pc ls ys) := by
  intro T hT X
  rcases hr T hT X with ⟨v, st₀, t, T', L, h0, X', hL, e1, e2, hf, st⟩ | ⟨q, st₀, t, T', L, E', ce, h0, X', hL, e1, e2, ⟨hX, as1, ws1, q1, q2, q3, q4, q5⟩, hce, hcv, hcl, st⟩
  · exact hf.elim
  · obtain ⟨k1, k2, k3⟩ := vx_keep (A0 := e_A0 base) h0 e1 hS (fun _ _ h => h) (fun _ h => h) hL q5
    obtain ⟨t2, a1, b1⟩ := hk as1 ws1 T'.heap (locs ++ L) q ce E' q1 q2 (by rw [e1]; exact q3) q4 k3 (by rw [e1]; exact hce) hcv hcl hX T' rfl X'
    exact ⟨t2, st.trans a1, b1⟩
/-- behind a callee with a table that comes back -/
theorem e_runWX {p : Program} {l : Launch} {e : Env} {R : Room} {s : State} {m : MethodId} {args : Array Value} {below : List Frame} {meth : Method} {cd : Code} {Q : State → Prop} {ad : Nat → Nat} {D : va_G} {tys : List (ClassId × FieldType)} {base : Nat} {as : List Nat} {w1 : e_W} {n1 mc ms cells slots pc : Nat} {H : Heap} {locs : List Loc} {ls : Array Slot} {ys rc : List Value} {a : Array Value} {ov : Option e_V}
    (hr : vx_Run p l e R s m args below meth cd H locs cells slots mc ms (F0 m pc ls ys) rc (e_Qc ad D tys base as ov w1 n1 a) (fun _ _ _ => False) (e_A0 base)) (hS : va_S (e_A0 base) s.heap H locs)
    (hk : ∀ (as1 : List Nat) (ws1 : va_W) (H1 : Heap) (locs1 : List Loc) (xo : List Value), as <+: as1 → e_wk ad as1 tys w1 n1 ws1 → va_P D e_cl ws1 H1 → va_D (e_A0 base) ws1 → va_S (e_A0 base) s.heap H1 locs1 → (match ov with
      | some v => ∃ x, xo = [x] ∧ e_rel ad as1 v x
      | none => xo = []) → W p l e R s m args below meth cd H1 locs1 (cells + mc) (slots + ms) Q (F0 m (pc + 3) ls (xo ++ rc))) : W p l e R s m args below meth cd H locs cells slots Q (F0 m pc ls ys) := by
  intro T hT X
  rcases hr T hT X with ⟨v, st₀, t, T', L, h0, X', hL, e1, e2, ⟨as1, ws1, q1, q2, q3, q4, q5, q6⟩, st⟩ | ⟨q, st₀, t, T', L, E', ce, h0, X', hL, e1, e2, hf, hce, hcv, hcl, st⟩
  · obtain ⟨k1, k2, k3⟩ := vx_keep (A0 := e_A0 base) h0 e1 hS (fun _ _ h => h) (fun _ h => h) hL q5
    obtain ⟨t2, a1, b1⟩ := hk as1 ws1 T'.heap (locs ++ L) v.toList q1 q2 (by rw [e1]; exact q3) q4 k3 (by
      cases ov with
      | none => cases q6; rfl
      | some u => obtain ⟨x, hx, hx2⟩ := q6; cases hx; exact ⟨x, rfl, hx2⟩) T' rfl X'
    exact ⟨t2, st t2 a1, b1⟩
  · exact hf.elim
/-- where a throw goes in the caller's own table -/
noncomputable def e_Hc (own : String) (pc : Nat) (hh : List (Nat × Nat × Nat × Nat)) (hs : List (Nat × Nat)) : Prop := ∀ E hp, e_hat hs E = some hp → ∃ X nm pre x suf, e_xn E = some X ∧ tableOf hh = pre ++ x :: suf ∧ (∀ z ∈ pre, z.catchType ≠ 0 ∧ ∃ nm', Jvm.Cond.classLink own z.catchType nm' ∈ lw_tbl ∧ (X, nm') ∈ e_nc) ∧ covers x pc = true ∧ x.catchType ≠ 0 ∧ x.handlerPc = hp ∧ Jvm.Cond.classLink own x.catchType nm ∈ lw_tbl ∧ Jvm.Cond.castable X nm ∈ lw_tbl
theorem e_hc1 {own X : String} {pc a b h ct E : Nat} (hX : e_xn E = some X) (hcov : covers ⟨a, b, h, ct⟩ pc = true) (h0 : ct ≠ 0) (hl : Jvm.Cond.classLink own ct X ∈ lw_tbl) (hc : Jvm.Cond.castable X X ∈ lw_tbl) : e_Hc own pc [(a, b, h, ct)] [(E, h)] := by
  intro E1 hp h1
  unfold e_hat at h1
  cases hb : Nat.beq E E1 with
  | true =>
    rw [hb, cond_true] at h1
    cases h1
    cases Nat.eq_of_beq_eq_true hb
    exact ⟨X, X, [], _, [], hX, rfl, (fun z hz => nomatch hz), hcov, h0, rfl, hl, hc⟩
  | false => rw [hb, cond_false] at h1; cases h1
theorem e_hc2 {own X X2 : String} {pc a b h ct E a2 b2 h2 ct2 E2 : Nat} (hX : e_xn E = some X) (hcov : covers ⟨a, b, h, ct⟩ pc = true) (h0 : ct ≠ 0) (hl : Jvm.Cond.classLink own ct X ∈ lw_tbl) (hc : Jvm.Cond.castable X X ∈ lw_tbl)
    (hX2 : e_xn E2 = some X2) (hcov2 : covers ⟨a2, b2, h2, ct2⟩ pc = true) (h02 : ct2 ≠ 0) (hl2 : Jvm.Cond.classLink own ct2 X2 ∈ lw_tbl) (hc2 : Jvm.Cond.castable X2 X2 ∈ lw_tbl) (hn : (X2, X) ∈ e_nc) : e_Hc own pc [(a, b, h, ct), (a2, b2, h2, ct2)] [(E, h), (E2, h2)] := by
  intro E1 hp h1
  unfold e_hat at h1
  cases hb : Nat.beq E E1 with
  | true =>
    rw [hb, cond_true] at h1
    cases h1
    cases Nat.eq_of_beq_eq_true hb
    exact ⟨X, X, [], _, _, hX, rfl, (fun z hz => nomatch hz), hcov, h0, rfl, hl, hc⟩
  | false =>
    rw [hb, cond_false] at h1
    unfold e_hat at h1
    cases hb2 : Nat.beq E2 E1 with
    | true =>
      rw [hb2, cond_true] at h1
      cases h1
      cases Nat.eq_of_beq_eq_true hb2
      refine ⟨X2, X2, [⟨a, b, h, ct⟩], _, [], hX2, rfl, fun z hz => ?_, hcov2, h02, rfl, hl2, hc2⟩
      obtain rfl := List.mem_singleton.mp hz
      exact ⟨h0, X, hl, hn⟩
    | false => rw [hb2, cond_false] at h1; cases h1

theorem s_callVX {hs : List (Nat × Nat)} {hh : List (Nat × Nat × Nat × Nat)} {ynM : MethodName} {bM : ByteArray} {mM : Nat} {rM : Option FieldType} {y mm n nx index ci N : Nat} {own C : String} {T : u_T} {yn : MethodName} {yb : ByteArray} {rt : Option FieldType} (hq : (e_ml[M]?).map (·.2.1) = some cc) (ho : (e_ml[M]?).map (·.1.cls) = some own) (hy : e_ml[y]? = some (yn, yb, mm, rt)) (hplain : plainName yn.cls = true) (hcode : Jvm.Cond.code yn yb mm rt ∈ lw_tbl) (hini : Jvm.Cond.initialized yn.cls ∈ lw_tbl) (hdn : yn.cls ≠ "java/lang/invoke/MethodHandle" ∧ yn.cls ≠ "java/lang/invoke/VarHandle" ∧ (parseMethodDescriptor yn.desc).map (fun d => d.parameters.length) = some n) (hlink : Jvm.Cond.methodLink own index yn ∈ lw_tbl) (hinst : Jvm.Cond.instanceMethod yn ∈ lw_tbl) (hsel : Jvm.Cond.selects C yn yn ∈ lw_tbl) (hcl : e_cl[ci]? = some (C, T, N)) (hd : decode cc pc = .ok (.invokevirtual index, 3)) (hnx : nx = pc + 3) (hynM : e_ml[M]? = some (ynM, bM, mM, rM)) (hcw : Jvm.Cond.codeWith ynM bM mM rM hh ∈ lw_tbl) (hhc : e_Hc own pc hh hs) : e_Sn M pc (o_callVX (e_s1 ci y mm) (n + 1) nx hs) := by
  intro g hg F al st w c K hM h
  unfold o_callVX o_callX at h
  obtain ⟨t, r, hst9, ht0, h9⟩ := e_args_t h
  clear h
  have h := h9
  clear h9
  subst hst9
  rw [List.append_nil] at h
  split at h
  · next q t0 htr =>
    split at h
    · next cj fs9 hc9 =>
      split at h
      · next y9 m9 hs9 =>
        have e1 : cj = ci ∧ y9 = y ∧ m9 = mm := by
          unfold e_s1 at hs9
          cases hb9 : Nat.beq cj ci with
          | false => rw [hb9, cond_false] at hs9; cases hs9
          | true => rw [hb9, cond_true] at hs9; cases hs9; exact ⟨Nat.eq_of_beq_eq_true hb9, rfl, rfl⟩
        obtain ⟨e1a, e1b, e1c⟩ := e1
        replace e1b := e1b.symm
        replace e1c := e1c.symm
        subst e1a e1b e1c
        obtain ⟨la, z1, w1, c1, hfr, hlo, hst8, hlal, hla, hok1, hres⟩ := e_go_t hg h
        rcases z1 with (_ | v) | E
        · obtain ⟨z2, w2, c2, hK2, hok2⟩ := hg _ _ _ _ _ _ _ hres
          refine ⟨z2, w2, c2, hK2, Nat.le_trans hok1.1 hok2.1, Nat.le_trans hok1.2.1 hok2.2.1, Nat.le_trans hok1.2.2.1 hok2.2.2.1, ?_⟩
          intro p l e R s m args below meth cd Q ad D tys base nL as0 k0 s0 hC hf hl hk hs hc hsl hE
          have hok1' := hok1
          obtain ⟨b1, b2, b3, -⟩ := hok1'
          have hWG := hok2.2.2.2 p l e R s m args below meth cd Q ad D tys base nL as0 k0 s0 hC hf hl (by omega) (by omega) hc hsl hE
          obtain ⟨hx, hb⟩ := e_cc hM hq hC
          have d2 := hok2.2.1
          have d3 := hok2.2.2.1
          intro as ws H locs ls ys hS
          obtain ⟨h1, h2, h3, h4, h5, h6, h7⟩ := hS
          obtain ⟨tc, rc, rfl, ht1, ht2, ht3⟩ := e_st_app h2
          have hrv := e_st_rev ht2
          rw [htr] at hrv
          obtain ⟨x0, tc0, htc0, hrel0, hst0⟩ := e_st_cons hrv
          obtain ⟨b0, hb0, rfl⟩ := e_ref hrel0
          have htc : tc = tc0.reverse ++ [.ref b0] := by rw [← List.reverse_reverse tc, htc0, List.reverse_cons]
          have hlen0 : tc0.length = n := by
            have e1 := congrArg List.length htc
            simp [ht1, ht0] at e1
            omega
          have hwd : (rc.map fun v => v.category).sum ≤ 8 := by rw [e_stw_t ht3]; exact hst8
          have hM9 := e_met (ad := ad) (D := D) (tys := tys) (base := base) (as0 := as) (ws0 := ws) (l := l) hok1 hy hplain hC.1 hlal hla h3 h5
          have hpre : ∀ U : State, U.heap = H → s.WarmedH U.vm → e_Pc (y, F.2.1 - 1, F.2.2.1 - (mm + 19), F.2.2.2) ad D tys base as ws (Sum.inr (Sum.inl (some q)) :: t0) (Value.ref b0 :: tc0).toArray U := fun U hU hW => ⟨Value.ref b0 :: tc0, rfl, ⟨hrel0, hst0⟩, by rw [hU]; exact h4, by rw [hU]; exact Nat.le_trans hC.2.2.2.2.2.1 h6.1, e_Kx_warm hW hC.2.2.2.2.1, by
            rw [hU]
            exact e_sf_moved hW.alike (fun q hq hA => h6.2.1 q hq hA) (e_sf_F rfl hC.2.2.2.2.2.2.1)⟩
          rw [htr] at hM9
          have hrun := va_runV (e := e) (below := below) (meth := meth) (C := C) (As := tc0) (b := b0) (rest := rc) (Ts := e_ws) (own := own) (H := H) (locs := locs) (cells := c.2.1 - k0) (slots := c.2.2 - s0) (g := F0 m pc ls (tc ++ rc)) ⟨hx, hb, rfl, e_own hM ho hC, hC.2.2.2.1⟩ hM9 ⟨callB_of n hC.2.2.2.1 (e_good hcode) rfl rfl rfl (e_wd hC hini rfl) (e_wd hC hlink rfl) hdn ⟨by show F.2.1 - 1 + 1 ≤ R.frames; omega, by show 8 + (mm + 11) + (F.2.2.1 - (mm + 19)) ≤ R.locals; omega⟩, e_wd hC hinst rfl, e_wd hC hsel rfl⟩ ⟨e_Pc_blind, e_recv hC h3 h4 hb0 hc9 hcl, hpre⟩ rfl hlen0 (h1.2.choose_spec.1.1.trans (by obtain ⟨-, -, -, -, -, -, -, q9, -, -, r3, -⟩ := hC; exact r3.symm)) (by rw [htc]; simp) (lv_room hwd) hd ⟨by omega, by omega⟩
          refine e_runW hrun h6 (fun as1 ws1 H1 locs1 xo q1 q2 q3 q4 q5 q6 => ?_)
          have hfin := hWG as1 ws1 H1 locs1 ls (xo ++ rc) ⟨e_lo_mono h1 q1, by cases q6; exact e_st_mono q1 ht3, q2, q3, q4, q5, List.IsPrefix.trans h7 q1⟩
          subst hnx
          rw [show c.2.1 - k0 + (c1.2.1 - c.2.1) = c1.2.1 - k0 by omega, show c.2.2 - s0 + (c1.2.2 - c.2.2) = c1.2.2 - s0 by omega]
          exact hfin
        · obtain ⟨z2, w2, c2, hK2, hok2⟩ := hg _ _ _ _ _ _ _ hres
          refine ⟨z2, w2, c2, hK2, Nat.le_trans hok1.1 hok2.1, Nat.le_trans hok1.2.1 hok2.2.1, Nat.le_trans hok1.2.2.1 hok2.2.2.1, ?_⟩
          intro p l e R s m args below meth cd Q ad D tys base nL as0 k0 s0 hC hf hl hk hs hc hsl hE
          have hok1' := hok1
          obtain ⟨b1, b2, b3, -⟩ := hok1'
          have hWG := hok2.2.2.2 p l e R s m args below meth cd Q ad D tys base nL as0 k0 s0 hC hf hl (by omega) (by omega) hc hsl hE
          obtain ⟨hx, hb⟩ := e_cc hM hq hC
          have d2 := hok2.2.1
          have d3 := hok2.2.2.1
          intro as ws H locs ls ys hS
          obtain ⟨h1, h2, h3, h4, h5, h6, h7⟩ := hS
          obtain ⟨tc, rc, rfl, ht1, ht2, ht3⟩ := e_st_app h2
          have hrv := e_st_rev ht2
          rw [htr] at hrv
          obtain ⟨x0, tc0, htc0, hrel0, hst0⟩ := e_st_cons hrv
          obtain ⟨b0, hb0, rfl⟩ := e_ref hrel0
          have htc : tc = tc0.reverse ++ [.ref b0] := by rw [← List.reverse_reverse tc, htc0, List.reverse_cons]
          have hlen0 : tc0.length = n := by
            have e1 := congrArg List.length htc
            simp [ht1, ht0] at e1
            omega
          have hwd : (rc.map fun v => v.category).sum ≤ 8 := by rw [e_stw_t ht3]; exact hst8
          have hM9 := e_met (ad := ad) (D := D) (tys := tys) (base := base) (as0 := as) (ws0 := ws) (l := l) hok1 hy hplain hC.1 hlal hla h3 h5
          have hpre : ∀ U : State, U.heap = H → s.WarmedH U.vm → e_Pc (y, F.2.1 - 1, F.2.2.1 - (mm + 19), F.2.2.2) ad D tys base as ws (Sum.inr (Sum.inl (some q)) :: t0) (Value.ref b0 :: tc0).toArray U := fun U hU hW => ⟨Value.ref b0 :: tc0, rfl, ⟨hrel0, hst0⟩, by rw [hU]; exact h4, by rw [hU]; exact Nat.le_trans hC.2.2.2.2.2.1 h6.1, e_Kx_warm hW hC.2.2.2.2.1, by
            rw [hU]
            exact e_sf_moved hW.alike (fun q hq hA => h6.2.1 q hq hA) (e_sf_F rfl hC.2.2.2.2.2.2.1)⟩
          rw [htr] at hM9
          have hrun := va_runV (e := e) (below := below) (meth := meth) (C := C) (As := tc0) (b := b0) (rest := rc) (Ts := e_ws) (own := own) (H := H) (locs := locs) (cells := c.2.1 - k0) (slots := c.2.2 - s0) (g := F0 m pc ls (tc ++ rc)) ⟨hx, hb, rfl, e_own hM ho hC, hC.2.2.2.1⟩ hM9 ⟨callB_of n hC.2.2.2.1 (e_good hcode) rfl rfl rfl (e_wd hC hini rfl) (e_wd hC hlink rfl) hdn ⟨by show F.2.1 - 1 + 1 ≤ R.frames; omega, by show 8 + (mm + 11) + (F.2.2.1 - (mm + 19)) ≤ R.locals; omega⟩, e_wd hC hinst rfl, e_wd hC hsel rfl⟩ ⟨e_Pc_blind, e_recv hC h3 h4 hb0 hc9 hcl, hpre⟩ rfl hlen0 (h1.2.choose_spec.1.1.trans (by obtain ⟨-, -, -, -, -, -, -, q9, -, -, r3, -⟩ := hC; exact r3.symm)) (by rw [htc]; simp) (lv_room hwd) hd ⟨by omega, by omega⟩
          refine e_runW hrun h6 (fun as1 ws1 H1 locs1 xo q1 q2 q3 q4 q5 q6 => ?_)
          have hfin := hWG as1 ws1 H1 locs1 ls (xo ++ rc) ⟨e_lo_mono h1 q1, by obtain ⟨x, rfl, hx9⟩ := q6; exact ⟨hx9, e_st_mono q1 ht3⟩, q2, q3, q4, q5, List.IsPrefix.trans h7 q1⟩
          subst hnx
          rw [show c.2.1 - k0 + (c1.2.1 - c.2.1) = c1.2.1 - k0 by omega, show c.2.2 - s0 + (c1.2.2 - c.2.2) = c1.2.2 - s0 by omega]
          exact hfin
        · dsimp only at hres
          cases hhp : e_hat hs E with
          | none => rw [hhp] at hres; cases hres
          | some hp =>
          replace hres : g F hp al [e_Tp] w1 c1 K = true := by rw [hhp] at hres; exact hres
          obtain ⟨z2, w2, c2, hK2, hok2⟩ := hg _ _ _ _ _ _ _ hres
          refine ⟨z2, w2, c2, hK2, Nat.le_trans hok1.1 hok2.1, Nat.le_trans hok1.2.1 hok2.2.1, Nat.le_trans hok1.2.2.1 hok2.2.2.1, ?_⟩
          intro p l e R s m args below meth cd Q ad D tys base nL as0 k0 s0 hC hf hl hk hs hc hsl hE
          have hok1' := hok1
          obtain ⟨b1, b2, b3, -⟩ := hok1'
          have hWG := hok2.2.2.2 p l e R s m args below meth cd Q ad D tys base nL as0 k0 s0 hC hf hl (by omega) (by omega) hc hsl hE
          obtain ⟨hx, hb⟩ := e_cc hM hq hC
          have d2 := hok2.2.1
          have d3 := hok2.2.2.1
          intro as ws H locs ls ys hS
          obtain ⟨h1, h2, h3, h4, h5, h6, h7⟩ := hS
          obtain ⟨tc, rc, rfl, ht1, ht2, ht3⟩ := e_st_app h2
          have hrv := e_st_rev ht2
          rw [htr] at hrv
          obtain ⟨x0, tc0, htc0, hrel0, hst0⟩ := e_st_cons hrv
          obtain ⟨b0, hb0, rfl⟩ := e_ref hrel0
          have htc : tc = tc0.reverse ++ [.ref b0] := by rw [← List.reverse_reverse tc, htc0, List.reverse_cons]
          have hlen0 : tc0.length = n := by
            have e1 := congrArg List.length htc
            simp [ht1, ht0] at e1
            omega
          have hwd : (rc.map fun v => v.category).sum ≤ 8 := by rw [e_stw_t ht3]; exact hst8
          have hM9 := e_metX (ad := ad) (D := D) (tys := tys) (base := base) (as0 := as) (ws0 := ws) (l := l) hok1 (hhc E hp hhp).choose_spec.choose_spec.choose_spec.choose_spec.choose_spec.1 hy hplain hC.1 hlal hla h3 h5
          have hpre : ∀ U : State, U.heap = H → s.WarmedH U.vm → e_Pc (y, F.2.1 - 1, F.2.2.1 - (mm + 19), F.2.2.2) ad D tys base as ws (Sum.inr (Sum.inl (some q)) :: t0) (Value.ref b0 :: tc0).toArray U := fun U hU hW => ⟨Value.ref b0 :: tc0, rfl, ⟨hrel0, hst0⟩, by rw [hU]; exact h4, by rw [hU]; exact Nat.le_trans hC.2.2.2.2.2.1 h6.1, e_Kx_warm hW hC.2.2.2.2.1, by
            rw [hU]
            exact e_sf_moved hW.alike (fun q hq hA => h6.2.1 q hq hA) (e_sf_F rfl hC.2.2.2.2.2.2.1)⟩
          rw [htr] at hM9
          have hrun := vx_runV (e := e) (below := below) (meth := meth) (C := C) (As := tc0) (b := b0) (rest := rc) (Ts := e_ws) (own := own) (H := H) (locs := locs) (cells := c.2.1 - k0) (slots := c.2.2 - s0) (g := F0 m pc ls (tc ++ rc)) ⟨hx, hb, rfl, e_own hM ho hC, hC.2.2.2.1⟩ hM9 ⟨callB_of n hC.2.2.2.1 (e_good hcode) rfl rfl rfl (e_wd hC hini rfl) (e_wd hC hlink rfl) hdn ⟨by show F.2.1 - 1 + 1 ≤ R.frames; omega, by show 8 + (mm + 11) + (F.2.2.1 - (mm + 19)) ≤ R.locals; omega⟩, e_wd hC hinst rfl, e_wd hC hsel rfl⟩ ⟨e_Pc_blind, e_recv hC h3 h4 hb0 hc9 hcl, hpre⟩ rfl hlen0 (h1.2.choose_spec.1.1.trans (by obtain ⟨-, -, -, -, -, -, -, q9, -, -, r3, -⟩ := hC; exact r3.symm)) (by rw [htc]; simp) (lv_room hwd) hd ⟨by omega, by omega⟩
          refine e_runX hrun h6 (fun as1 ws1 H1 locs1 q7 ce X q1 q2 q3 q4 q5 hce hcv hcl hX => ?_)
          have hfin := hWG as1 ws1 H1 locs1 ls [.ref q7] ⟨e_lo_mono h1 q1, ⟨⟨q7, rfl⟩, trivial⟩, q2, q3, q4, q5, List.IsPrefix.trans h7 q1⟩
          rw [show c.2.1 - k0 + (c1.2.1 - c.2.1) = c1.2.1 - k0 by omega, show c.2.2 - s0 + (c1.2.2 - c.2.2) = c1.2.2 - s0 by omega]
          obtain ⟨X2, nm, pre, x, suf, hX2, hsplit, hpass, hcov, hc0, hpc, hlk, hcast⟩ := hhc E hp hhp
          cases Option.some.inj (hX.symm.trans hX2)
          have htab : cd.exceptionTable.toList = tableOf hh := by
            obtain ⟨-, -, -, -, -, -, -, q9, r1, -, -, -, -, -, -, r7⟩ := hC
            rw [hM, hynM] at r1
            cases r1
            exact r7.2 bM mM rM hh (List.mem_filter.mpr ⟨hcw, rfl⟩)
          refine vx_catch (e_own hM ho hC) pre x suf (htab.trans hsplit) (fun z hz => ?_) hcov hc0 (e_wd hC hlk rfl) ((hC.2.2.2.2.1.2.2.1 _ (List.mem_filter.mpr ⟨hcast, rfl⟩)).use rfl) hce hcv hcl (by rw [hpc]; exact hfin)
          obtain ⟨hz0, nm', hz1, hz2⟩ := hpass z hz
          exact Or.inr ⟨hz0, nm', e_wd hC hz1 rfl, hC.2.2.2.2.1.2.2.2.2.1 _ hz2⟩
      · cases h
    · cases h
  · cases h


theorem e_goodW {y : MethodName} {b : ByteArray} {mL : Nat} {rt : Option FieldType} {hh : List (Nat × Nat × Nat × Nat)} (h : Jvm.Cond.codeWith y b mL rt hh ∈ lw_tbl) : GoodIn e_ws (.codeWith y b mL rt hh :: e_ws) := by
  intro w hw
  have h1 : w ∈ e_ws := by
    rcases List.mem_cons.mp hw with rfl | hw
    · exact List.mem_filter.mpr ⟨h, rfl⟩
    · exact hw
  exact ⟨h1, good_of_word (List.mem_filter.mp h1).2⟩
theorem e_mem {w : Jvm.Cond} (h : w ∈ lw_tbl) (hg : goodWord w = true) : w ∈ e_ws := List.mem_filter.mpr ⟨h, hg⟩

theorem e_par {d : String} {n : Nat} (h : (parseMethodDescriptor d).map (fun d => d.parameters.length) = some n) : ∀ sig, parseMethodDescriptor d = some sig → n = sig.parameters.length := by
  intro sig h1
  rw [h1] at h
  exact (Option.some.inj h).symm

theorem s_callSW {hh : List (Nat × Nat × Nat × Nat)} {y mm n nx index : Nat} {own : String} {yn : MethodName} {yb : ByteArray} {rt : Option FieldType} (hq : (e_ml[M]?).map (·.2.1) = some cc) (ho : (e_ml[M]?).map (·.1.cls) = some own) (hy : e_ml[y]? = some (yn, yb, mm, rt)) (hplain : plainName yn.cls = true) (hcode : Jvm.Cond.codeWith yn yb mm rt hh ∈ lw_tbl) (hini : Jvm.Cond.initialized yn.cls ∈ lw_tbl) (hdn : yn.cls ≠ "java/lang/invoke/MethodHandle" ∧ yn.cls ≠ "java/lang/invoke/VarHandle" ∧ (parseMethodDescriptor yn.desc).map (fun d => d.parameters.length) = some n) (hlink : Jvm.Cond.methodLink own index yn ∈ lw_tbl) (hstat : Jvm.Cond.static yn ∈ lw_tbl) (hd : decode cc pc = .ok (.invokestatic index, 3)) (hnx : nx = pc + 3) : e_Sn M pc (o_callS y mm n nx) := by
  intro g hg F al st w c K hM h
  unfold o_callS at h
  obtain ⟨t, r, rfl, ht0, h⟩ := e_args_t h
  obtain ⟨la, z1, w1, c1, hfr, hlo, hst8, hlal, hla, hok1, hres⟩ := e_go_t hg h
  rw [List.append_nil] at hla
  rcases z1 with (_ | v) | E
  · obtain ⟨z2, w2, c2, hK2, hok2⟩ := hg _ _ _ _ _ _ _ hres
    refine ⟨z2, w2, c2, hK2, Nat.le_trans hok1.1 hok2.1, Nat.le_trans hok1.2.1 hok2.2.1, Nat.le_trans hok1.2.2.1 hok2.2.2.1, ?_⟩
    intro p l e R s m args below meth cd Q ad D tys base nL as0 k0 s0 hC hf hl hk hs hc hsl hE
    have hok1' := hok1
    obtain ⟨b1, b2, b3, -⟩ := hok1'
    have hWG := hok2.2.2.2 p l e R s m args below meth cd Q ad D tys base nL as0 k0 s0 hC hf hl (by omega) (by omega) hc hsl hE
    obtain ⟨hx, hb⟩ := e_cc hM hq hC
    have d2 := hok2.2.1
    have d3 := hok2.2.2.1
    intro as ws H locs ls ys hS
    obtain ⟨h1, h2, h3, h4, h5, h6, h7⟩ := hS
    obtain ⟨tc, rc, rfl, ht1, ht2, ht3⟩ := e_st_app h2
    have hwd : (rc.map fun v => v.category).sum ≤ 8 := by rw [e_stw_t ht3]; exact hst8
    have hM9 := e_metW (hh := hh) (ad := ad) (D := D) (tys := tys) (base := base) (as0 := as) (ws0 := ws) (l := l) hok1 hy hplain hC.1 hlal hla h3 h5
    have hpre : ∀ U : State, U.heap = H → s.WarmedH U.vm → e_Pc (y, F.2.1 - 1, F.2.2.1 - (mm + 19), F.2.2.2) ad D tys base as ws t.reverse (tc.reverse).toArray U := fun U hU hW => ⟨tc.reverse, rfl, e_st_rev ht2, by rw [hU]; exact h4, by rw [hU]; exact Nat.le_trans hC.2.2.2.2.2.1 h6.1, e_Kx_warm hW hC.2.2.2.2.1, by
      rw [hU]
      exact e_sf_moved hW.alike (fun q hq hA => h6.2.1 q hq hA) (e_sf_F rfl hC.2.2.2.2.2.2.1)⟩
    have hrun := vx_runSX (hh := hh) (e := e) (below := below) (meth := meth) (As := tc.reverse) (rest := rc) (Ts := e_ws) (own := own) (H := H) (locs := locs) (cells := c.2.1 - k0) (slots := c.2.2 - s0) (g := F0 m pc ls (tc ++ rc)) ⟨hx, hb, rfl, e_own hM ho hC, hC.2.2.2.1⟩ hM9 (show vx_CSW R s args own index yn yb mm rt hh (.codeWith yn yb mm rt hh :: e_ws) _ _ _ n from ⟨⟨rfl, rfl, by show F.2.1 - 1 + 1 ≤ R.frames; omega, by show 8 + (mm + 11) + (F.2.2.1 - (mm + 19)) ≤ R.locals; omega, pay_in hC.2.2.2.1 (e_goodW hcode), List.mem_cons_self⟩, e_wd hC hcode rfl, e_wd hC hini rfl, ⟨hdn.1, hdn.2.1⟩, e_par hdn.2.2, e_wd hC hlink rfl, e_wd hC hstat rfl⟩) ⟨e_Pc_blind, hpre⟩ rfl (by simp [ht1, ht0]) (h1.2.choose_spec.1.1.trans (by obtain ⟨-, -, -, -, -, -, -, q9, -, -, r3, -⟩ := hC; exact r3.symm)) (by simp) (lv_room hwd) hd ⟨by omega, by omega⟩
    refine e_runWX hrun h6 (fun as1 ws1 H1 locs1 xo q1 q2 q3 q4 q5 q6 => ?_)
    have hfin := hWG as1 ws1 H1 locs1 ls (xo ++ rc) ⟨e_lo_mono h1 q1, by cases q6; exact e_st_mono q1 ht3, q2, q3, q4, q5, List.IsPrefix.trans h7 q1⟩
    subst hnx
    rw [show c.2.1 - k0 + (c1.2.1 - c.2.1) = c1.2.1 - k0 by omega, show c.2.2 - s0 + (c1.2.2 - c.2.2) = c1.2.2 - s0 by omega]
    exact hfin
  · obtain ⟨z2, w2, c2, hK2, hok2⟩ := hg _ _ _ _ _ _ _ hres
    refine ⟨z2, w2, c2, hK2, Nat.le_trans hok1.1 hok2.1, Nat.le_trans hok1.2.1 hok2.2.1, Nat.le_trans hok1.2.2.1 hok2.2.2.1, ?_⟩
    intro p l e R s m args below meth cd Q ad D tys base nL as0 k0 s0 hC hf hl hk hs hc hsl hE
    have hok1' := hok1
    obtain ⟨b1, b2, b3, -⟩ := hok1'
    have hWG := hok2.2.2.2 p l e R s m args below meth cd Q ad D tys base nL as0 k0 s0 hC hf hl (by omega) (by omega) hc hsl hE
    obtain ⟨hx, hb⟩ := e_cc hM hq hC
    have d2 := hok2.2.1
    have d3 := hok2.2.2.1
    intro as ws H locs ls ys hS
    obtain ⟨h1, h2, h3, h4, h5, h6, h7⟩ := hS
    obtain ⟨tc, rc, rfl, ht1, ht2, ht3⟩ := e_st_app h2
    have hwd : (rc.map fun v => v.category).sum ≤ 8 := by rw [e_stw_t ht3]; exact hst8
    have hM9 := e_metW (hh := hh) (ad := ad) (D := D) (tys := tys) (base := base) (as0 := as) (ws0 := ws) (l := l) hok1 hy hplain hC.1 hlal hla h3 h5
    have hpre : ∀ U : State, U.heap = H → s.WarmedH U.vm → e_Pc (y, F.2.1 - 1, F.2.2.1 - (mm + 19), F.2.2.2) ad D tys base as ws t.reverse (tc.reverse).toArray U := fun U hU hW => ⟨tc.reverse, rfl, e_st_rev ht2, by rw [hU]; exact h4, by rw [hU]; exact Nat.le_trans hC.2.2.2.2.2.1 h6.1, e_Kx_warm hW hC.2.2.2.2.1, by
      rw [hU]
      exact e_sf_moved hW.alike (fun q hq hA => h6.2.1 q hq hA) (e_sf_F rfl hC.2.2.2.2.2.2.1)⟩
    have hrun := vx_runSX (hh := hh) (e := e) (below := below) (meth := meth) (As := tc.reverse) (rest := rc) (Ts := e_ws) (own := own) (H := H) (locs := locs) (cells := c.2.1 - k0) (slots := c.2.2 - s0) (g := F0 m pc ls (tc ++ rc)) ⟨hx, hb, rfl, e_own hM ho hC, hC.2.2.2.1⟩ hM9 (show vx_CSW R s args own index yn yb mm rt hh (.codeWith yn yb mm rt hh :: e_ws) _ _ _ n from ⟨⟨rfl, rfl, by show F.2.1 - 1 + 1 ≤ R.frames; omega, by show 8 + (mm + 11) + (F.2.2.1 - (mm + 19)) ≤ R.locals; omega, pay_in hC.2.2.2.1 (e_goodW hcode), List.mem_cons_self⟩, e_wd hC hcode rfl, e_wd hC hini rfl, ⟨hdn.1, hdn.2.1⟩, e_par hdn.2.2, e_wd hC hlink rfl, e_wd hC hstat rfl⟩) ⟨e_Pc_blind, hpre⟩ rfl (by simp [ht1, ht0]) (h1.2.choose_spec.1.1.trans (by obtain ⟨-, -, -, -, -, -, -, q9, -, -, r3, -⟩ := hC; exact r3.symm)) (by simp) (lv_room hwd) hd ⟨by omega, by omega⟩
    refine e_runWX hrun h6 (fun as1 ws1 H1 locs1 xo q1 q2 q3 q4 q5 q6 => ?_)
    have hfin := hWG as1 ws1 H1 locs1 ls (xo ++ rc) ⟨e_lo_mono h1 q1, by obtain ⟨x, rfl, hx9⟩ := q6; exact ⟨hx9, e_st_mono q1 ht3⟩, q2, q3, q4, q5, List.IsPrefix.trans h7 q1⟩
    subst hnx
    rw [show c.2.1 - k0 + (c1.2.1 - c.2.1) = c1.2.1 - k0 by omega, show c.2.2 - s0 + (c1.2.2 - c.2.2) = c1.2.2 - s0 by omega]
    exact hfin
  · cases hres


theorem s_callVW {hh : List (Nat × Nat × Nat × Nat)} {y mm n nx index ci N : Nat} {own C : String} {T : u_T} {yn : MethodName} {yb : ByteArray} {rt : Option FieldType} (hq : (e_ml[M]?).map (·.2.1) = some cc) (ho : (e_ml[M]?).map (·.1.cls) = some own) (hy : e_ml[y]? = some (yn, yb, mm, rt)) (hplain : plainName yn.cls = true) (hcode : Jvm.Cond.codeWith yn yb mm rt hh ∈ lw_tbl) (hini : Jvm.Cond.initialized yn.cls ∈ lw_tbl) (hdn : yn.cls ≠ "java/lang/invoke/MethodHandle" ∧ yn.cls ≠ "java/lang/invoke/VarHandle" ∧ (parseMethodDescriptor yn.desc).map (fun d => d.parameters.length) = some n) (hlink : Jvm.Cond.methodLink own index yn ∈ lw_tbl) (hinst : Jvm.Cond.instanceMethod yn ∈ lw_tbl) (hsel : Jvm.Cond.selects C yn yn ∈ lw_tbl) (hcl : e_cl[ci]? = some (C, T, N)) (hd : decode cc pc = .ok (.invokevirtual index, 3)) (hnx : nx = pc + 3) : e_Sn M pc (o_callV (e_s1 ci y mm) (n + 1) nx) := by
  intro g hg F al st w c K hM h
  unfold o_callV o_callX at h
  obtain ⟨t, r, hst9, ht0, h9⟩ := e_args_t h
  clear h
  have h := h9
  clear h9
  subst hst9
  rw [List.append_nil] at h
  split at h
  · next q t0 htr =>
    split at h
    · next cj fs9 hc9 =>
      split at h
      · next y9 m9 hs9 =>
        have e1 : cj = ci ∧ y9 = y ∧ m9 = mm := by
          unfold e_s1 at hs9
          cases hb9 : Nat.beq cj ci with
          | false => rw [hb9, cond_false] at hs9; cases hs9
          | true => rw [hb9, cond_true] at hs9; cases hs9; exact ⟨Nat.eq_of_beq_eq_true hb9, rfl, rfl⟩
        obtain ⟨e1a, e1b, e1c⟩ := e1
        replace e1b := e1b.symm
        replace e1c := e1c.symm
        subst e1a e1b e1c
        obtain ⟨la, z1, w1, c1, hfr, hlo, hst8, hlal, hla, hok1, hres⟩ := e_go_t hg h
        rcases z1 with (_ | v) | E
        · obtain ⟨z2, w2, c2, hK2, hok2⟩ := hg _ _ _ _ _ _ _ hres
          refine ⟨z2, w2, c2, hK2, Nat.le_trans hok1.1 hok2.1, Nat.le_trans hok1.2.1 hok2.2.1, Nat.le_trans hok1.2.2.1 hok2.2.2.1, ?_⟩
          intro p l e R s m args below meth cd Q ad D tys base nL as0 k0 s0 hC hf hl hk hs hc hsl hE
          have hok1' := hok1
          obtain ⟨b1, b2, b3, -⟩ := hok1'
          have hWG := hok2.2.2.2 p l e R s m args below meth cd Q ad D tys base nL as0 k0 s0 hC hf hl (by omega) (by omega) hc hsl hE
          obtain ⟨hx, hb⟩ := e_cc hM hq hC
          have d2 := hok2.2.1
          have d3 := hok2.2.2.1
          intro as ws H locs ls ys hS
          obtain ⟨h1, h2, h3, h4, h5, h6, h7⟩ := hS
          obtain ⟨tc, rc, rfl, ht1, ht2, ht3⟩ := e_st_app h2
          have hrv := e_st_rev ht2
          rw [htr] at hrv
          obtain ⟨x0, tc0, htc0, hrel0, hst0⟩ := e_st_cons hrv
          obtain ⟨b0, hb0, rfl⟩ := e_ref hrel0
          have htc : tc = tc0.reverse ++ [.ref b0] := by rw [← List.reverse_reverse tc, htc0, List.reverse_cons]
          have hlen0 : tc0.length = n := by
            have e1 := congrArg List.length htc
            simp [ht1, ht0] at e1
            omega
          have hwd : (rc.map fun v => v.category).sum ≤ 8 := by rw [e_stw_t ht3]; exact hst8
          have hM9 := e_metW (hh := hh) (ad := ad) (D := D) (tys := tys) (base := base) (as0 := as) (ws0 := ws) (l := l) hok1 hy hplain hC.1 hlal hla h3 h5
          have hpre : ∀ U : State, U.heap = H → s.WarmedH U.vm → e_Pc (y, F.2.1 - 1, F.2.2.1 - (mm + 19), F.2.2.2) ad D tys base as ws (Sum.inr (Sum.inl (some q)) :: t0) (Value.ref b0 :: tc0).toArray U := fun U hU hW => ⟨Value.ref b0 :: tc0, rfl, ⟨hrel0, hst0⟩, by rw [hU]; exact h4, by rw [hU]; exact Nat.le_trans hC.2.2.2.2.2.1 h6.1, e_Kx_warm hW hC.2.2.2.2.1, by
            rw [hU]
            exact e_sf_moved hW.alike (fun q hq hA => h6.2.1 q hq hA) (e_sf_F rfl hC.2.2.2.2.2.2.1)⟩
          rw [htr] at hM9
          have hrun := vx_runVX (hh := hh) (e := e) (below := below) (meth := meth) (C := C) (As := tc0) (b := b0) (rest := rc) (Ts := e_ws) (own := own) (H := H) (locs := locs) (cells := c.2.1 - k0) (slots := c.2.2 - s0) (g := F0 m pc ls (tc ++ rc)) ⟨hx, hb, rfl, e_own hM ho hC, hC.2.2.2.1⟩ hM9 (show vx_CVW R s args own C index yn yb mm rt hh (.codeWith yn yb mm rt hh :: e_ws) _ _ _ n from ⟨⟨rfl, rfl, by show F.2.1 - 1 + 1 ≤ R.frames; omega, by show 8 + (mm + 11) + (F.2.2.1 - (mm + 19)) ≤ R.locals; omega, pay_in hC.2.2.2.1 (e_goodW hcode), List.mem_cons_self⟩, e_wd hC hcode rfl, e_wd hC hini rfl, ⟨hdn.1, hdn.2.1⟩, e_par hdn.2.2, e_wd hC hlink rfl, e_wd hC hinst rfl, e_wd hC hsel rfl⟩) ⟨e_Pc_blind, e_recv hC h3 h4 hb0 hc9 hcl, hpre⟩ rfl hlen0 (h1.2.choose_spec.1.1.trans (by obtain ⟨-, -, -, -, -, -, -, q9, -, -, r3, -⟩ := hC; exact r3.symm)) (by rw [htc]; simp) (lv_room hwd) hd ⟨by omega, by omega⟩
          refine e_runWX hrun h6 (fun as1 ws1 H1 locs1 xo q1 q2 q3 q4 q5 q6 => ?_)
          have hfin := hWG as1 ws1 H1 locs1 ls (xo ++ rc) ⟨e_lo_mono h1 q1, by cases q6; exact e_st_mono q1 ht3, q2, q3, q4, q5, List.IsPrefix.trans h7 q1⟩
          subst hnx
          rw [show c.2.1 - k0 + (c1.2.1 - c.2.1) = c1.2.1 - k0 by omega, show c.2.2 - s0 + (c1.2.2 - c.2.2) = c1.2.2 - s0 by omega]
          exact hfin
        · obtain ⟨z2, w2, c2, hK2, hok2⟩ := hg _ _ _ _ _ _ _ hres
          refine ⟨z2, w2, c2, hK2, Nat.le_trans hok1.1 hok2.1, Nat.le_trans hok1.2.1 hok2.2.1, Nat.le_trans hok1.2.2.1 hok2.2.2.1, ?_⟩
          intro p l e R s m args below meth cd Q ad D tys base nL as0 k0 s0 hC hf hl hk hs hc hsl hE
          have hok1' := hok1
          obtain ⟨b1, b2, b3, -⟩ := hok1'
          have hWG := hok2.2.2.2 p l e R s m args below meth cd Q ad D tys base nL as0 k0 s0 hC hf hl (by omega) (by omega) hc hsl hE
          obtain ⟨hx, hb⟩ := e_cc hM hq hC
          have d2 := hok2.2.1
          have d3 := hok2.2.2.1
          intro as ws H locs ls ys hS
          obtain ⟨h1, h2, h3, h4, h5, h6, h7⟩ := hS
          obtain ⟨tc, rc, rfl, ht1, ht2, ht3⟩ := e_st_app h2
          have hrv := e_st_rev ht2
          rw [htr] at hrv
          obtain ⟨x0, tc0, htc0, hrel0, hst0⟩ := e_st_cons hrv
          obtain ⟨b0, hb0, rfl⟩ := e_ref hrel0
          have htc : tc = tc0.reverse ++ [.ref b0] := by rw [← List.reverse_reverse tc, htc0, List.reverse_cons]
          have hlen0 : tc0.length = n := by
            have e1 := congrArg List.length htc
            simp [ht1, ht0] at e1
            omega
          have hwd : (rc.map fun v => v.category).sum ≤ 8 := by rw [e_stw_t ht3]; exact hst8
          have hM9 := e_metW (hh := hh) (ad := ad) (D := D) (tys := tys) (base := base) (as0 := as) (ws0 := ws) (l := l) hok1 hy hplain hC.1 hlal hla h3 h5
          have hpre : ∀ U : State, U.heap = H → s.WarmedH U.vm → e_Pc (y, F.2.1 - 1, F.2.2.1 - (mm + 19), F.2.2.2) ad D tys base as ws (Sum.inr (Sum.inl (some q)) :: t0) (Value.ref b0 :: tc0).toArray U := fun U hU hW => ⟨Value.ref b0 :: tc0, rfl, ⟨hrel0, hst0⟩, by rw [hU]; exact h4, by rw [hU]; exact Nat.le_trans hC.2.2.2.2.2.1 h6.1, e_Kx_warm hW hC.2.2.2.2.1, by
            rw [hU]
            exact e_sf_moved hW.alike (fun q hq hA => h6.2.1 q hq hA) (e_sf_F rfl hC.2.2.2.2.2.2.1)⟩
          rw [htr] at hM9
          have hrun := vx_runVX (hh := hh) (e := e) (below := below) (meth := meth) (C := C) (As := tc0) (b := b0) (rest := rc) (Ts := e_ws) (own := own) (H := H) (locs := locs) (cells := c.2.1 - k0) (slots := c.2.2 - s0) (g := F0 m pc ls (tc ++ rc)) ⟨hx, hb, rfl, e_own hM ho hC, hC.2.2.2.1⟩ hM9 (show vx_CVW R s args own C index yn yb mm rt hh (.codeWith yn yb mm rt hh :: e_ws) _ _ _ n from ⟨⟨rfl, rfl, by show F.2.1 - 1 + 1 ≤ R.frames; omega, by show 8 + (mm + 11) + (F.2.2.1 - (mm + 19)) ≤ R.locals; omega, pay_in hC.2.2.2.1 (e_goodW hcode), List.mem_cons_self⟩, e_wd hC hcode rfl, e_wd hC hini rfl, ⟨hdn.1, hdn.2.1⟩, e_par hdn.2.2, e_wd hC hlink rfl, e_wd hC hinst rfl, e_wd hC hsel rfl⟩) ⟨e_Pc_blind, e_recv hC h3 h4 hb0 hc9 hcl, hpre⟩ rfl hlen0 (h1.2.choose_spec.1.1.trans (by obtain ⟨-, -, -, -, -, -, -, q9, -, -, r3, -⟩ := hC; exact r3.symm)) (by rw [htc]; simp) (lv_room hwd) hd ⟨by omega, by omega⟩
          refine e_runWX hrun h6 (fun as1 ws1 H1 locs1 xo q1 q2 q3 q4 q5 q6 => ?_)
          have hfin := hWG as1 ws1 H1 locs1 ls (xo ++ rc) ⟨e_lo_mono h1 q1, by obtain ⟨x, rfl, hx9⟩ := q6; exact ⟨hx9, e_st_mono q1 ht3⟩, q2, q3, q4, q5, List.IsPrefix.trans h7 q1⟩
          subst hnx
          rw [show c.2.1 - k0 + (c1.2.1 - c.2.1) = c1.2.1 - k0 by omega, show c.2.2 - s0 + (c1.2.2 - c.2.2) = c1.2.2 - s0 by omega]
          exact hfin
        · cases hres
      · cases h
    · cases h
  · cases h


theorem s_ldcw {nx z index : Nat} {own : String} {v : Int32} (hq : (e_ml[M]?).map (·.2.1) = some cc) (ho : (e_ml[M]?).map (·.1.cls) = some own) (hk : Jvm.Cond.constant own index v ∈ lw_tbl) (hd : decode cc pc = .ok (.ldc_w index, 3)) (hnx : nx = pc + 3) (hz : v = e_i z ∧ z < 4294967296) : e_Sn M pc (o_push (e_I z) nx) := by
  intro g hg F al st w c K hM h
  replace h : g F nx al (e_I z :: st) w c K = true := h
  obtain ⟨z9, w', c', hK, hok⟩ := hg _ _ _ _ _ _ _ h
  refine ⟨z9, w', c', hK, e_step hok ?_⟩
  intro p l e R s m args below meth cd Q ad D tys base nL as0 k0 s0 hC hW
  obtain ⟨hx, hb⟩ := e_cc hM hq hC
  intro as ws H locs ls ys hS
  obtain ⟨h1, h2, h3⟩ := hS
  subst hnx
  exact lv_ldcw hx hb (e_own hM ho hC) (e_wd hC hk rfl) hd (hW as ws H locs ls (.int v :: ys) ⟨h1, ⟨⟨hz.2, by rw [hz.1]⟩, h2⟩, h3⟩)
/-- the cut -/
noncomputable def e_sameA : e_A → e_A → Bool
  | [], [] => true
  | none :: a, none :: b => e_sameA a b
  | some u :: a, some v :: b => e_sameB u v && e_sameA a b
  | _, _ => false
theorem e_sameB_t {a b : e_V} (h : e_sameB a b = true) : a = b := by
  unfold e_sameB at h
  split at h
  · rw [Nat.eq_of_beq_eq_true h]
  · rw [Nat.eq_of_beq_eq_true h]
  · rfl
  · rw [Nat.eq_of_beq_eq_true h]
  · rw [Nat.eq_of_beq_eq_true h]
  · cases h
theorem e_sameA_t : ∀ {a b : e_A}, e_sameA a b = true → a = b
  | [], [], _ => rfl
  | none :: a, none :: b, h => by rw [e_sameA_t (a := a) (b := b) h]
  | some u :: a, some v :: b, h => by
    obtain ⟨h1, h2⟩ := (Bool.and_eq_true _ _).mp h
    rw [e_sameB_t h1, e_sameA_t h2]
  | [], _ :: _, h => by cases h
  | none :: _, [], h => by cases h
  | some _ :: _, [], h => by cases h
  | none :: _, some _ :: _, h => by cases h
  | some _ :: _, none :: _, h => by cases h
noncomputable def e_sameS : List e_V → List e_V → Bool
  | [], [] => true
  | u :: a, v :: b => e_sameB u v && e_sameS a b
  | _, _ => false
theorem e_sameS_t : ∀ {a b : List e_V}, e_sameS a b = true → a = b
  | [], [], _ => rfl
  | u :: a, v :: b, h => by
    obtain ⟨h1, h2⟩ := (Bool.and_eq_true _ _).mp h
    rw [e_sameB_t h1, e_sameS_t h2]
  | [], _ :: _, h => by cases h
  | _ :: _, [], h => by cases h
noncomputable def o_stop : e_O := fun _ _ ls st w c K => bif e_sameA ls e_spA && e_sameS st e_spS then K (.inr 1000) w c else false
theorem s_stop (hpc : pc = e_spP) : e_Sn M pc o_stop := by
  intro g hg F al st w c K hM h
  unfold o_stop at h
  cases hbc : (e_sameA al e_spA && e_sameS st e_spS) with
  | false => rw [hbc, cond_false] at h; cases h
  | true =>
    rw [hbc, cond_true] at h
    obtain ⟨g1, g2⟩ := (Bool.and_eq_true _ _).mp hbc
    obtain rfl := e_sameA_t g1
    obtain rfl := e_sameS_t g2
    refine ⟨_, _, _, h, Nat.le_refl _, Nat.le_refl _, Nat.le_refl _, ?_⟩
    intro p l e R s m args below meth cd Q ad D tys base nL as0 k0 s0 hC hf hl hk hs0 hc hsl hE'
    intro as ws H locs ls ys hS
    obtain ⟨h1, h2, h3, h4, h5, h6, h7⟩ := hS
    subst hpc
    exact (hE' as ws H locs ⟨h3, h4, h5, h6, h7⟩).1 rfl ls ys h1 h2
end SN
