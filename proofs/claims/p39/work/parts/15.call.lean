section SN
variable {M pc : Nat} {cc : ByteArray}
theorem e_rt {F : e_F} {M nL base : Nat} {rt : Option FieldType} {p : Program} {l : Launch} {s : State} {m : MethodId} {args : Array Value} {meth : Method} {cd : Code} {ad : Nat → Nat} {D : va_G} {tys : List (ClassId × FieldType)} (hM : F.1 = M) (ho : (e_ml[M]?).map (·.2.2.2) = some rt) (hC : e_Cx F p l s m args meth cd ad D tys base nL) : meth.sig.returnType = rt := by
  obtain ⟨-, hx, -, -, -, -, -, q, h1, h2, -, -, h5, h6, -⟩ := hC
  rw [hM] at h1
  rw [h1] at ho
  cases ho
  exact h6
theorem s_iret (hq : (e_ml[M]?).map (·.2.1) = some cc) (hrt : (e_ml[M]?).map (·.2.2.2) = some (some .int)) (hd : decode cc pc = .ok (.ireturn, 1)) : e_Sn M pc (o_ret e_okI) := by
  intro g hg F al st w c K hM h
  unfold o_ret at h
  split at h
  · next v =>
    cases ho : e_okI v with
    | false => rw [ho, cond_false] at h; cases h
    | true =>
      rw [ho, cond_true] at h
      refine ⟨_, _, _, h, Nat.le_refl _, Nat.le_refl _, Nat.le_refl _, ?_⟩
      intro p l e R s m args below meth cd Q ad D tys base nL as0 k0 s0 hC hf hl hk hs hc hsl hE
      obtain ⟨hx, hb⟩ := e_cc hM hq hC
      intro as ws H locs ls ys hS
      obtain ⟨h1, h2, h3, h4, h5, h6, h7⟩ := hS
      obtain ⟨x, ys, rfl, hr, h8⟩ := e_st_cons h2
      obtain rfl := e_st_nil h8
      have hd2 : decode cd.code pc = .ok (.ireturn, 1) := by rw [hb]; exact hd
      exact hE as ws H locs ⟨h3, h4, h5, h6, h7⟩ pc ls x hr (Or.inl ⟨by obtain ⟨y, hy⟩ := e_rel_I hr ho; exact ⟨y, hy, Or.inl (e_rt hM hrt hC)⟩, hd2⟩)
  · cases h
theorem s_zret (hq : (e_ml[M]?).map (·.2.1) = some cc) (hrt : (e_ml[M]?).map (·.2.2.2) = some (some .boolean)) (hd : decode cc pc = .ok (.ireturn, 1)) : e_Sn M pc (o_ret e_okZ) := by
  intro g hg F al st w c K hM h
  unfold o_ret at h
  split at h
  · next v =>
    cases ho : e_okZ v with
    | false => rw [ho, cond_false] at h; cases h
    | true =>
      rw [ho, cond_true] at h
      refine ⟨_, _, _, h, Nat.le_refl _, Nat.le_refl _, Nat.le_refl _, ?_⟩
      intro p l e R s m args below meth cd Q ad D tys base nL as0 k0 s0 hC hf hl hk hs hc hsl hE
      obtain ⟨hx, hb⟩ := e_cc hM hq hC
      intro as ws H locs ls ys hS
      obtain ⟨h1, h2, h3, h4, h5, h6, h7⟩ := hS
      obtain ⟨x, ys, rfl, hr, h8⟩ := e_st_cons h2
      obtain rfl := e_st_nil h8
      have hd2 : decode cd.code pc = .ok (.ireturn, 1) := by rw [hb]; exact hd
      exact hE as ws H locs ⟨h3, h4, h5, h6, h7⟩ pc ls x hr (Or.inl ⟨by rcases e_okZ_t ho hr with hy | hy; exact ⟨_, hy, Or.inr ⟨e_rt hM hrt hC, Or.inl rfl⟩⟩; exact ⟨_, hy, Or.inr ⟨e_rt hM hrt hC, Or.inr rfl⟩⟩, hd2⟩)
  · cases h
theorem s_lret (hq : (e_ml[M]?).map (·.2.1) = some cc) (hrt : (e_ml[M]?).map (·.2.2.2) = some (some .long)) (hd : decode cc pc = .ok (.lreturn, 1)) : e_Sn M pc (o_ret e_okL) := by
  intro g hg F al st w c K hM h
  unfold o_ret at h
  split at h
  · next v =>
    cases ho : e_okL v with
    | false => rw [ho, cond_false] at h; cases h
    | true =>
      rw [ho, cond_true] at h
      refine ⟨_, _, _, h, Nat.le_refl _, Nat.le_refl _, Nat.le_refl _, ?_⟩
      intro p l e R s m args below meth cd Q ad D tys base nL as0 k0 s0 hC hf hl hk hs hc hsl hE
      obtain ⟨hx, hb⟩ := e_cc hM hq hC
      intro as ws H locs ls ys hS
      obtain ⟨h1, h2, h3, h4, h5, h6, h7⟩ := hS
      obtain ⟨x, ys, rfl, hr, h8⟩ := e_st_cons h2
      obtain rfl := e_st_nil h8
      have hd2 : decode cd.code pc = .ok (.lreturn, 1) := by rw [hb]; exact hd
      exact hE as ws H locs ⟨h3, h4, h5, h6, h7⟩ pc ls x hr (Or.inr (Or.inl ⟨by obtain ⟨y, hy⟩ := e_rel_L hr ho; exact ⟨y, hy, e_rt hM hrt hC⟩, hd2⟩))
  · cases h
theorem s_aret {rt : FieldType} (href : (∃ n, rt = .object n) ∨ ∃ t, rt = .array t) (hq : (e_ml[M]?).map (·.2.1) = some cc) (hrt : (e_ml[M]?).map (·.2.2.2) = some (some rt)) (hd : decode cc pc = .ok (.areturn, 1)) : e_Sn M pc (o_ret e_okR) := by
  intro g hg F al st w c K hM h
  unfold o_ret at h
  split at h
  · next v =>
    cases ho : e_okR v with
    | false => rw [ho, cond_false] at h; cases h
    | true =>
      rw [ho, cond_true] at h
      refine ⟨_, _, _, h, Nat.le_refl _, Nat.le_refl _, Nat.le_refl _, ?_⟩
      intro p l e R s m args below meth cd Q ad D tys base nL as0 k0 s0 hC hf hl hk hs hc hsl hE
      obtain ⟨hx, hb⟩ := e_cc hM hq hC
      intro as ws H locs ls ys hS
      obtain ⟨h1, h2, h3, h4, h5, h6, h7⟩ := hS
      obtain ⟨x, ys, rfl, hr, h8⟩ := e_st_cons h2
      obtain rfl := e_st_nil h8
      have hd2 : decode cd.code pc = .ok (.areturn, 1) := by rw [hb]; exact hd
      exact hE as ws H locs ⟨h3, h4, h5, h6, h7⟩ pc ls x hr (Or.inr (Or.inr ⟨⟨e_rel_R hr ho, rt, e_rt hM hrt hC, href⟩, hd2⟩))
  · cases h
theorem s_vret (hq : (e_ml[M]?).map (·.2.1) = some cc) (hrt : (e_ml[M]?).map (·.2.2.2) = some none) (hd : decode cc pc = .ok (.return_, 1)) : e_Sn M pc o_retv := by
  intro g hg F al st w c K hM h
  unfold o_retv at h
  split at h
  · refine ⟨_, _, _, h, Nat.le_refl _, Nat.le_refl _, Nat.le_refl _, ?_⟩
    intro p l e R s m args below meth cd Q ad D tys base nL as0 k0 s0 hC hf hl hk hs hc hsl hE
    obtain ⟨hx, hb⟩ := e_cc hM hq hC
    intro as ws H locs ls ys hS
    obtain ⟨h1, h2, h3, h4, h5, h6, h7⟩ := hS
    obtain rfl := e_st_nil h2
    have hd2 : decode cd.code pc = .ok (.return_, 1) := by rw [hb]; exact hd
    exact hE as ws H locs ⟨h3, h4, h5, h6, h7⟩ pc ls (e_rt hM hrt hC) hd2
  · cases h
theorem e_is2_t {ad : Nat → Nat} {as : List Nat} {v : e_V} {x : Value} (h : e_rel ad as v x) (h1 : e_is1 v = false) : x.category = 2 := by
  rcases v with v | v | v | v | v | v
  · cases h1
  · cases h1
  · obtain ⟨-, rfl⟩ := h; rfl
  · cases h1
  · obtain ⟨_, -, -, -, rfl⟩ := h; rfl
  · cases h1
theorem e_loc_t : ∀ {as : List e_V} {m : Nat} {k : e_A → Bool}, e_loc as m k = true → ∃ la, k la = true ∧ la.length = m ∧ ∀ (ad : Nat → Nat) (az : List Nat) (xs : List Value), e_st ad az as xs → (lg_sl xs).length ≤ m ∧ ∀ (o i : Nat) (v : e_V), la[i]? = some (some v) → ∃ x, (o + i, x) ∈ lv_args o xs ∧ e_rel ad az v x
  | [], m, k, h => ⟨List.replicate m none, h, by simp, fun ad az xs hxs => by
    obtain rfl := e_st_nil hxs
    refine ⟨by simp [lg_sl], fun o i v hv => ?_⟩
    rw [List.getElem?_replicate] at hv
    split at hv <;> cases hv⟩
  | v :: l, 0, k, h => by cases h
  | v :: l, z + 1, k, h => by
    unfold e_loc at h
    dsimp only at h
    cases hb : e_is1 v with
    | true =>
      rw [hb, cond_true] at h
      obtain ⟨la, h1, h2, h3⟩ := e_loc_t h
      refine ⟨_, h1, by simp [h2], fun ad az xs hxs => ?_⟩
      obtain ⟨x, xs, rfl, hx, hxs⟩ := e_st_cons hxs
      obtain ⟨g1, g2⟩ := h3 ad az xs hxs
      have hcat := e_is1_t hx hb
      refine ⟨by simp [lg_sl, hcat] at g1 ⊢; omega, fun o i u hu => ?_⟩
      unfold lv_args
      rw [if_neg (by omega)]
      cases i with
      | zero =>
        simp only [List.getElem?_cons_zero, Option.some.injEq] at hu
        subst hu
        exact ⟨x, List.mem_cons_self, hx⟩
      | succ i =>
        obtain ⟨y, hy1, hy2⟩ := g2 (o + 1) i u hu
        exact ⟨y, List.mem_cons_of_mem _ (by rw [show o + (i + 1) = o + 1 + i by omega]; exact hy1), hy2⟩
    | false =>
      rw [hb, cond_false] at h
      cases z with
      | zero => cases h
      | succ y =>
        dsimp only at h
        obtain ⟨la, h1, h2, h3⟩ := e_loc_t h
        refine ⟨_, h1, by simp [h2], fun ad az xs hxs => ?_⟩
        obtain ⟨x, xs, rfl, hx, hxs⟩ := e_st_cons hxs
        obtain ⟨g1, g2⟩ := h3 ad az xs hxs
        have hcat := e_is2_t hx hb
        refine ⟨by simp [lg_sl, hcat] at g1 ⊢; omega, fun o i u hu => ?_⟩
        unfold lv_args
        rw [if_pos hcat]
        match i, hu with
        | 0, hu =>
          simp only [List.getElem?_cons_zero, Option.some.injEq] at hu
          subst hu
          exact ⟨x, List.mem_cons_self, hx⟩
        | 1, hu =>
          simp at hu
        | i + 2, hu =>
          obtain ⟨y, hy1, hy2⟩ := g2 (o + 2) i u hu
          exact ⟨y, List.mem_cons_of_mem _ (by rw [show o + (i + 2) = o + 2 + i by omega]; exact hy1), hy2⟩
theorem e_args_t : ∀ {n : Nat} {acc st : List e_V} {k : List e_V → List e_V → Bool}, e_args n acc st k = true → ∃ t r, st = t ++ r ∧ t.length = n ∧ k (t.reverse ++ acc) r = true
  | 0, acc, st, k, h => ⟨[], st, rfl, rfl, h⟩
  | n + 1, acc, st, k, h => by
    cases st with
    | nil => cases h
    | cons v r =>
      obtain ⟨t, r, h1, h2, h3⟩ := e_args_t (n := n) (acc := v :: acc) (st := r) (k := k) h
      exact ⟨v :: t, r, by rw [h1]; rfl, by simp [h2], by simpa using h3⟩
theorem e_st_app {ad : Nat → Nat} {as : List Nat} : ∀ {t r : List e_V} {ys : List Value}, e_st ad as (t ++ r) ys → ∃ tc rc, ys = tc ++ rc ∧ tc.length = t.length ∧ e_st ad as t tc ∧ e_st ad as r rc
  | [], r, ys, h => ⟨[], ys, rfl, rfl, trivial, h⟩
  | v :: t, r, ys, h => by
    obtain ⟨x, ys, rfl, hx, h⟩ := e_st_cons h
    obtain ⟨tc, rc, rfl, h1, h2, h3⟩ := e_st_app h
    exact ⟨x :: tc, rc, rfl, by simp [h1], ⟨hx, h2⟩, h3⟩
theorem e_st_join {ad : Nat → Nat} {as : List Nat} : ∀ {t r : List e_V} {tc rc : List Value}, e_st ad as t tc → e_st ad as r rc → e_st ad as (t ++ r) (tc ++ rc)
  | [], _, [], _, _, h => h
  | _ :: _, _, _ :: _, _, h, h2 => ⟨h.1, e_st_join h.2 h2⟩
theorem e_st_rev {ad : Nat → Nat} {as : List Nat} : ∀ {t : List e_V} {tc : List Value}, e_st ad as t tc → e_st ad as t.reverse tc.reverse
  | [], [], _ => trivial
  | v :: t, x :: tc, h => by
    rw [List.reverse_cons, List.reverse_cons]
    exact e_st_join (e_st_rev h.2) ⟨h.1, trivial⟩
theorem e_stw_t {ad : Nat → Nat} {as : List Nat} : ∀ {r : List e_V} {rc : List Value}, e_st ad as r rc → (rc.map fun v => v.category).sum = e_stw r
  | [], [], _ => rfl
  | v :: r, x :: rc, h => by
    rw [List.map_cons, List.sum_cons, e_stw_t h.2]
    show _ = (bif e_is1 v then 1 else 2) + e_stw r
    cases hb : e_is1 v with
    | true => rw [e_is1_t h.1 hb, cond_true]
    | false => rw [e_is2_t h.1 hb, cond_false]
/-- what a callee is given, and what it gives back -/
noncomputable def e_Pc (F : e_F) (ad : Nat → Nat) (D : va_G) (tys : List (ClassId × FieldType)) (base : Nat) (as0 : List Nat) (ws0 : va_W) (vs : List e_V) : Array Value → State → Prop := fun a U =>
  ∃ xs, a = xs.toArray ∧ e_st ad as0 vs xs ∧ va_P D e_cl ws0 U.heap ∧ base ≤ U.heap.size ∧ e_Kx D tys U ∧ e_sf F ad base U U.heap
noncomputable def e_Qc (ad : Nat → Nat) (D : va_G) (tys : List (ClassId × FieldType)) (base : Nat) (as0 : List Nat) (ov : Option e_V) (w' : e_W) (n' : Nat) : Array Value → State → Outcome → State → Prop := fun _ st oc t =>
  ∃ as' ws', as0 <+: as' ∧ e_wk ad as' tys w' n' ws' ∧ va_P D e_cl ws' t.heap ∧ va_D (e_A0 base) ws' ∧ va_F (e_A0 base) st t ∧ (match ov with
    | some v => ∃ x, oc = .returned (some x) ∧ e_rel ad as' v x
    | none => oc = .returned none)
theorem e_et {s : State} {m : MethodId} {args : Array Value} {meth : Method} {cd : Code} {y : MethodName} (hm : s.vm.method? m = some meth) (hn : s.methodNamed? y = some m) (hc : meth.code = some cd) (hts : ∀ w ∈ e_ws, w.before args s = true) : e_Et y cd := by
  refine ⟨fun b mL rt hw => ?_, fun b mL rt hh hw => ?_⟩
  · obtain ⟨meth9, c9, h1, h2, -, -, -, -, h7, -⟩ := Cond.code_spec hn (hts _ hw)
    cases Option.some.inj (h1.symm.trans hm)
    cases Option.some.inj (h2.symm.trans hc)
    rw [Array.isEmpty_iff.mp h7]
  · obtain ⟨m9, meth9, c9, hn9, h1, h2, -, -, h6, -⟩ := Cond.codeWith_spec (hts _ hw)
    cases Option.some.inj (hn9.symm.trans hn)
    cases Option.some.inj (h1.symm.trans hm)
    cases Option.some.inj (h2.symm.trans hc)
    rw [← h6, table_eq]
theorem e_met {F : e_F} {la : e_A} {vs : List e_V} {w w' : e_W} {c c' : e_Q} {ov : Option e_V} {y : MethodName} {b : ByteArray} {mL : Nat} {rt : Option FieldType} {ad : Nat → Nat} {D : va_G} {tys : List (ClassId × FieldType)} {base : Nat} {as0 : List Nat} {ws0 : va_W} {l : Launch} (hok : e_Ok F 0 la [] w c (.inl ov) w' c') (hq : e_ml[F.1]? = some (y, b, mL, rt)) (hy : plainName y.cls = true) (hfl : l.flags = flags0)
    (hla : la.length = mL) (hla2 : ∀ (ad : Nat → Nat) (az : List Nat) (xs : List Value), e_st ad az vs xs → (lg_sl xs).length ≤ mL ∧ ∀ (o i : Nat) (v : e_V), la[i]? = some (some v) → ∃ x, (o + i, x) ∈ lv_args o xs ∧ e_rel ad az v x)
    (hwk : e_wk ad as0 tys w c.1 ws0) (hD : va_D (e_A0 base) ws0) :
    Met l y (.code y b mL rt :: e_ws) { frames := F.2.1, cells := c'.2.1 - c.2.1, slots := c'.2.2 - c.2.2, locals := F.2.2.1 } (e_Pc F ad D tys base as0 ws0 vs) (e_Qc ad D tys base as0 ov w' c'.1) (c'.2.1 - c.2.1) (c'.2.2 - c.2.2) (e_A0 base) := by
  refine Met.ofW (cc := b) (maxL := mL) (ret := rt) hy rfl ?_
  intro p e s m args below meth cd s₁ B hml hP
  obtain ⟨xs, rfl, hst, hP, hbase, hK, hsf⟩ := hP
  obtain ⟨h1, h2, h3, h4⟩ := hok
  have hlocks := B.notSynchronized
  have hts : ∀ w ∈ e_ws, w.before xs.toArray s = true := fun w hw => atoms_spec (ws := .code y b mL rt :: e_ws) B.pre w (List.mem_cons_of_mem _ hw)
  have hC : e_Cx F p l s m xs.toArray meth cd ad D tys base mL := ⟨hfl, B.exec, hlocks, hts, hK, hbase, hsf, _, hq, B.bytes, hml, rfl, findClass_of_methodNamed B.named, B.returns, (name_of_methodNamed B.named B.method).1, e_et B.method B.named (Stand.of_body B).code hts⟩
  have hent := lv_entry xs (n := mL) (hla2 ad as0 xs hst).1
  rw [lg_entry_eq]
  have hE : e_En p l e (headSpec (.code y b mL rt :: e_ws) { frames := F.2.1, cells := c'.2.1 - c.2.1, slots := c'.2.2 - c.2.2, locals := F.2.2.1 }).room s m xs.toArray below meth cd (MQ below (e_Qc ad D tys base as0 ov w' c'.1) xs.toArray s (c'.2.1 - c.2.1) (c'.2.2 - c.2.2) (e_A0 base)) ad D tys base mL as0 c.2.1 c.2.2 (.inl ov) w' c' := by
    intro as ws H locs hH
    obtain ⟨g1, g2, g3, g4, g5⟩ := hH
    have hF9 : ∀ t : State, t.heap = H → va_F (e_A0 base) s t := fun t ht => ⟨by rw [ht]; exact g4.1, fun q hq hA => by rw [ht]; exact g4.2.1 q hq hA⟩
    cases ov with
    | none => exact fun pc ls hr hd => W.vret B.exec rfl hr (fun t ht hW => ⟨as, ws, g5, g1, by rw [ht]; exact g2, g3, hF9 t ht, rfl⟩) g4.2.2 hd
    | some v =>
      intro pc ls x hx hret
      have hQ : ∀ t : State, t.heap = H → s.WarmedH t.vm → e_Qc ad D tys base as0 (some v) w' c'.1 xs.toArray s (.returned (some x)) t := fun t ht hW => ⟨as, ws, g5, g1, by rw [ht]; exact g2, g3, hF9 t ht, x, rfl, hx⟩
      rcases hret with ⟨⟨z, rfl, hr | ⟨hr, hz⟩⟩, hd⟩ | ⟨⟨z, rfl, hr⟩, hd⟩ | ⟨⟨hx2, rt2, hr, hrt⟩, hd⟩
      · exact W.iret B.exec rfl hr hQ g4.2.2 hd
      · exact W.zret B.exec rfl hr (by rcases hz with rfl | rfl <;> decide) hQ g4.2.2 hd
      · exact W.lret B.exec rfl hr hQ g4.2.2 hd
      · exact W.aret B.exec rfl hr hrt hx2 hQ g4.2.2 hd
  have hWG := h4 p l e _ s m xs.toArray below meth cd _ ad D tys base mL as0 c.2.1 c.2.2 hC (Nat.le_refl _) (Nat.le_refl _) (Nat.le_refl _) (Nat.le_refl _) (Nat.le_refl _) (Nat.le_refl _) hE
  have hfin := hWG as0 ws0 s.heap [] _ [] ⟨⟨hla, _, hent, fun i v hv => by obtain ⟨x, q1, q2⟩ := (hla2 ad as0 xs hst).2 0 i v hv; exact ⟨x, by rw [Nat.zero_add] at q1; exact q1, q2⟩⟩, trivial, hwk, hP, hD, va_S.rf, List.prefix_refl _⟩
  rw [Nat.sub_self, Nat.sub_self] at hfin
  exact hfin
end SN
