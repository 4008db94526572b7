section SN
variable {M pc : Nat} {cc : ByteArray}
theorem e_nw_warm {w : Jvm.Cond} {s U : State} (hk : e_nk w = true) (hW : s.WarmedH U.vm) (h : va_Nw w s) : va_Nw w U := by
  unfold e_nk at hk
  split at hk
  · exact va_Nw.warmM hW h
  · exact va_Nw.warmF hW h
  · exact va_Nw.warmC hW h
  · exact va_Nw.warmD hW h
  · exact va_AO.moved hW.alike h
  · exact over_moved hW.alike h
  · exact va_tabs rfl (rfl : (s.setVm U.vm).vm = U.vm) (by rw [Cond.unhidden_setVm hW.alike]; exact h)
  · exact va_tabs rfl (rfl : (s.setVm U.vm).vm = U.vm) (by rw [Cond.publicMethod_setVm hW.alike]; exact h)
  · cases hk
theorem e_nw_same {w : Jvm.Cond} {s U : State} (hk : e_nk w = true) (hW : s.vm = U.vm) (h : va_Nw w s) : va_Nw w U := by
  unfold e_nk at hk
  split at hk
  · exact va_Nw.same rfl hW h
  · exact va_Nw.same rfl hW h
  · exact va_Nw.same rfl hW h
  · exact va_Nw.same rfl hW h
  · exact va_AO.moved (by rw [hW]; exact Vm.Alike.refl _) h
  · exact over_moved (by rw [hW]; exact Vm.Alike.refl _) h
  · exact va_Nw.same rfl hW h
  · exact va_Nw.same rfl hW h
  · cases hk
theorem e_fwx : ∀ q ∈ e_fw, q.2.1.cls ≠ "java/lang/invoke/MethodHandle" ∧ q.2.1.cls ≠ "java/lang/invoke/VarHandle" := by
  unfold e_fw
  intro q hq
  obtain rfl := List.mem_singleton.mp hq
  exact ⟨by decide, by decide⟩
theorem e_Kx_warm {D : va_G} {tys : List (ClassId × FieldType)} {s U : State} (hW : s.WarmedH U.vm) (h : e_Kx D tys s) : e_Kx D tys U := ⟨va_K.moved hW.alike h.1, h.2.1, fun w hw => e_nw_warm (List.mem_filter.mp hw).2 hW (h.2.2.1 w hw), fun q hq => by obtain ⟨sa, h9⟩ := h.2.2.2.1 q hq; exact ⟨sa, vk_R.warm hW h9⟩, fun q hq => va_Nc.moved hW.alike (h.2.2.2.2.1 q hq), fun q hq => va_Fw.moved (e_fwx q hq) hW.alike (h.2.2.2.2.2 q hq)⟩
theorem e_Kx_same {D : va_G} {tys : List (ClassId × FieldType)} {s U : State} (hW : s.vm = U.vm) (h : e_Kx D tys s) : e_Kx D tys U := ⟨va_K.moved (by rw [hW]; exact Vm.Alike.refl _) h.1, h.2.1, fun w hw => e_nw_same (List.mem_filter.mp hw).2 hW (h.2.2.1 w hw), fun q hq => by obtain ⟨sa, h9⟩ := h.2.2.2.1 q hq; exact ⟨sa, vk_R.same hW.symm h9⟩, fun q hq => va_Nc.moved (by rw [hW]; exact Vm.Alike.refl _) (h.2.2.2.2.1 q hq), fun q hq => va_Fw.moved (e_fwx q hq) (by rw [hW]; exact Vm.Alike.refl _) (h.2.2.2.2.2 q hq)⟩
theorem e_sf_moved {F : e_F} {ad : Nat → Nat} {base : Nat} {s U : State} {H H1 : Heap} (hvm : s.vm.Alike U.vm) (hq : ∀ a : Nat, a < H.size → ¬ e_A0 base a → H1[a]? = H[a]?) (h : e_sf F ad base s H) : e_sf F ad base U H1 :=
  ⟨fun k hk => by obtain ⟨ty, f, h1, h2, h3⟩ := h.1 k hk; exact ⟨ty, f, h1, va_T.moved hvm (h2.kept hq), h3⟩, fun q hq2 => va_Z.moved hvm ((h.2.1 q hq2).kept hq), (h.2.2.1.kept hq).moved hvm, (h.2.2.2.1.kept hq).moved hvm, vb_C.moved hvm (h.2.2.2.2.1.kept hq), va_T.moved hvm (h.2.2.2.2.2.1.kept hq), va_Z.moved hvm (h.2.2.2.2.2.2.1.kept hq), va_Mi.moved hvm h.2.2.2.2.2.2.2⟩
theorem e_sf_F {F F' : e_F} {ad : Nat → Nat} {base : Nat} {s : State} {H : Heap} (hF : F'.2.2.2 = F.2.2.2) (h : e_sf F ad base s H) : e_sf F' ad base s H := by
  have hfc : ∀ k, e_fc e_fcs F' k = e_fc e_fcs F k := fun k => by cases k with
    | zero => exact hF
    | succ k => rfl
  refine ⟨fun k hk => ?_, h.2⟩
  rw [hfc]
  exact h.1 k hk
theorem e_Pc_blind {F : e_F} {ad : Nat → Nat} {D : va_G} {tys : List (ClassId × FieldType)} {base : Nat} {as0 : List Nat} {ws0 : va_W} {vs : List e_V} : FrameBlind (e_Pc F ad D tys base as0 ws0 vs) := by
  intro a U g mk h
  obtain ⟨xs, h1, h2, h3, h4, h5, h6⟩ := h
  exact ⟨xs, h1, h2, h3, h4, e_Kx_same (U := U.calling g mk a) (show U.vm = (U.calling g mk a).vm from rfl) h5, e_sf_moved (U := U.calling g mk a) (Vm.Alike.refl U.vm) (fun _ _ _ => rfl) h6⟩
theorem e_good {y : MethodName} {b : ByteArray} {mL : Nat} {rt : Option FieldType} (h : Jvm.Cond.code y b mL rt ∈ lw_tbl) : GoodIn e_ws (.code y b mL rt :: e_ws) := by
  intro w hw
  have h1 : w ∈ e_ws := by
    rcases List.mem_cons.mp hw with rfl | hw
    · exact List.mem_filter.mpr ⟨h, rfl⟩
    · exact hw
  exact ⟨h1, good_of_word (List.mem_filter.mp h1).2⟩
/-- what a call leaves, behind a callee that comes back -/
theorem e_runW {p : Program} {l : Launch} {e : Env} {R : Room} {s : State} {m : MethodId} {args : Array Value} {below : List Frame} {meth : Method} {cd : Code} {Q : State → Prop} {ad : Nat → Nat} {D : va_G} {tys : List (ClassId × FieldType)} {base : Nat} {as : List Nat} {ov : Option e_V} {w1 : e_W} {n1 mc ms cells slots pc : Nat} {H : Heap} {locs : List Loc} {ls : Array Slot} {ys rc : List Value} {a : Array Value}
    (hr : va_Run p l e R s m args below meth cd H locs cells slots mc ms (F0 m pc ls ys) rc (e_Qc ad D tys base as ov w1 n1 a) (e_A0 base)) (hS : va_S (e_A0 base) s.heap H locs)
    (hk : ∀ (as1 : List Nat) (ws1 : va_W) (H1 : Heap) (locs1 : List Loc) (xo : List Value), as <+: as1 → e_wk ad as1 tys w1 n1 ws1 → va_P D e_cl ws1 H1 → va_D (e_A0 base) ws1 → va_S (e_A0 base) s.heap H1 locs1 → (match ov with
      | some v => ∃ x, xo = [x] ∧ e_rel ad as1 v x
      | none => xo = []) → W p l e R s m args below meth cd H1 locs1 (cells + mc) (slots + ms) Q (F0 m (pc + 3) ls (xo ++ rc))) : W p l e R s m args below meth cd H locs cells slots Q (F0 m pc ls ys) := by
  intro T hT X
  obtain ⟨v, st₀, t, T', L, h0, X', hL, e1, e2, ⟨as1, ws1, q1, q2, q3, q4, q5, q6⟩, st⟩ := hr T hT X
  obtain ⟨k1, k2, k3⟩ := vx_keep (A0 := e_A0 base) h0 e1 hS (fun _ _ h => h) (fun _ h => h) hL q5
  obtain ⟨t2, a1, b1⟩ := hk as1 ws1 T'.heap (locs ++ L) v.toList q1 q2 (by rw [e1]; exact q3) q4 k3 (by
    cases ov with
    | none => cases q6; rfl
    | some u => obtain ⟨x, hx, hx2⟩ := q6; cases hx; exact ⟨x, rfl, hx2⟩) T' rfl X'
  exact ⟨t2, st t2 a1, b1⟩
theorem e_go_t {y mm nx : Nat} {as r : List e_V} {g : e_G} {F : e_F} {ls : e_A} {w : e_W} {c : e_Q} {K : e_K} {X : Nat → e_W → e_Q → Bool} (hg : e_Gd g) (h : e_go y mm as nx r g F ls w c K X = true) : ∃ la z1 w1 c1, 0 < F.2.1 ∧ mm + 19 ≤ F.2.2.1 ∧ e_stw r ≤ 8 ∧ la.length = mm ∧ (∀ (ad : Nat → Nat) (az : List Nat) (xs : List Value), e_st ad az as xs → (lg_sl xs).length ≤ mm ∧ ∀ (o i : Nat) (v : e_V), la[i]? = some (some v) → ∃ x, (o + i, x) ∈ lv_args o xs ∧ e_rel ad az v x) ∧
    e_Ok (y, F.2.1 - 1, F.2.2.1 - (mm + 19), F.2.2.2) 0 la [] w c z1 w1 c1 ∧ (match z1 with
      | .inl (some v) => g F nx ls (v :: r) w1 c1 K
      | .inl none => g F nx ls r w1 c1 K
      | .inr E => X E w1 c1) = true := by
  obtain ⟨M, fr, lo, bx⟩ := F
  unfold e_go at h
  dsimp only at h
  cases hbc : (Nat.blt 0 fr && Nat.ble (mm + 19) lo && Nat.ble (e_stw r) 8) with
  | false => rw [hbc, cond_false] at h; cases h
  | true =>
    rw [hbc, cond_true] at h
    obtain ⟨g1, g3⟩ := (Bool.and_eq_true _ _).mp hbc
    obtain ⟨g1, g2⟩ := (Bool.and_eq_true _ _).mp g1
    replace g1 : 0 < fr := Nat.le_of_ble_eq_true g1
    replace g2 := Nat.le_of_ble_eq_true g2
    replace g3 := Nat.le_of_ble_eq_true g3
    obtain ⟨la, h1, h2, h3⟩ := e_loc_t (e_fo_t (e_fo_t h))
    obtain ⟨z1, w1, c1, h4, h5⟩ := hg _ _ _ _ _ _ _ h1
    refine ⟨la, z1, w1, c1, g1, g2, g3, h2, h3, h5, ?_⟩
    rcases z1 with (_ | v) | E <;> exact h4
theorem s_callS {y mm n nx index : Nat} {own : String} {yn : MethodName} {yb : ByteArray} {rt : Option FieldType} (hq : (e_ml[M]?).map (·.2.1) = some cc) (ho : (e_ml[M]?).map (·.1.cls) = some own) (hy : e_ml[y]? = some (yn, yb, mm, rt)) (hplain : plainName yn.cls = true) (hcode : Jvm.Cond.code yn yb mm rt ∈ lw_tbl) (hini : Jvm.Cond.initialized yn.cls ∈ lw_tbl) (hdn : yn.cls ≠ "java/lang/invoke/MethodHandle" ∧ yn.cls ≠ "java/lang/invoke/VarHandle" ∧ (parseMethodDescriptor yn.desc).map (fun d => d.parameters.length) = some n) (hlink : Jvm.Cond.methodLink own index yn ∈ lw_tbl) (hstat : Jvm.Cond.static yn ∈ lw_tbl) (hd : decode cc pc = .ok (.invokestatic index, 3)) (hnx : nx = pc + 3) : e_Sn M pc (o_callS y mm n nx) := by
  intro g hg F al st w c K hM h
  unfold o_callS at h
  obtain ⟨t, r, rfl, ht0, h⟩ := e_args_t h
  obtain ⟨la, z1, w1, c1, hfr, hlo, hst8, hlal, hla, hok1, hres⟩ := e_go_t hg h
  rw [List.append_nil] at hla
  rcases z1 with (_ | v) | E
  · obtain ⟨z2, w2, c2, hK2, hok2⟩ := hg _ _ _ _ _ _ _ hres
    refine ⟨z2, w2, c2, hK2, Nat.le_trans hok1.1 hok2.1, Nat.le_trans hok1.2.1 hok2.2.1, Nat.le_trans hok1.2.2.1 hok2.2.2.1, ?_⟩
    intro p l e R s m args below meth cd Q ad D tys base nL as0 k0 s0 hC hf hl hk hs hc hsl hE
    have hok1' := hok1
    obtain ⟨b1, b2, b3, -⟩ := hok1'
    have hWG := hok2.2.2.2 p l e R s m args below meth cd Q ad D tys base nL as0 k0 s0 hC hf hl (by omega) (by omega) hc hsl hE
    obtain ⟨hx, hb⟩ := e_cc hM hq hC
    have d2 := hok2.2.1
    have d3 := hok2.2.2.1
    intro as ws H locs ls ys hS
    obtain ⟨h1, h2, h3, h4, h5, h6, h7⟩ := hS
    obtain ⟨tc, rc, rfl, ht1, ht2, ht3⟩ := e_st_app h2
    have hwd : (rc.map fun v => v.category).sum ≤ 8 := by rw [e_stw_t ht3]; exact hst8
    have hM9 := e_met (ad := ad) (D := D) (tys := tys) (base := base) (as0 := as) (ws0 := ws) (l := l) hok1 hy hplain hC.1 hlal hla h3 h5
    have hpre : ∀ U : State, U.heap = H → s.WarmedH U.vm → e_Pc (y, F.2.1 - 1, F.2.2.1 - (mm + 19), F.2.2.2) ad D tys base as ws t.reverse (tc.reverse).toArray U := fun U hU hW => ⟨tc.reverse, rfl, e_st_rev ht2, by rw [hU]; exact h4, by rw [hU]; exact Nat.le_trans hC.2.2.2.2.2.1 h6.1, e_Kx_warm hW hC.2.2.2.2.1, by
      rw [hU]
      exact e_sf_moved hW.alike (fun q hq hA => h6.2.1 q hq hA) (e_sf_F rfl hC.2.2.2.2.2.2.1)⟩
    have hrun := va_runS (e := e) (below := below) (meth := meth) (As := tc.reverse) (rest := rc) (Ts := e_ws) (own := own) (H := H) (locs := locs) (cells := c.2.1 - k0) (slots := c.2.2 - s0) (g := F0 m pc ls (tc ++ rc)) ⟨hx, hb, rfl, e_own hM ho hC, hC.2.2.2.1⟩ hM9 ⟨callB_of n hC.2.2.2.1 (e_good hcode) rfl rfl rfl (e_wd hC hini rfl) (e_wd hC hlink rfl) hdn ⟨by show F.2.1 - 1 + 1 ≤ R.frames; omega, by show 8 + (mm + 11) + (F.2.2.1 - (mm + 19)) ≤ R.locals; omega⟩, e_wd hC hstat rfl⟩ ⟨e_Pc_blind, hpre⟩ rfl (by simp [ht1, ht0]) (h1.2.choose_spec.1.1.trans (by obtain ⟨-, -, -, -, -, -, -, q9, -, -, r3, -⟩ := hC; exact r3.symm)) (by simp) (lv_room hwd) hd ⟨by omega, by omega⟩
    refine e_runW hrun h6 (fun as1 ws1 H1 locs1 xo q1 q2 q3 q4 q5 q6 => ?_)
    have hfin := hWG as1 ws1 H1 locs1 ls (xo ++ rc) ⟨e_lo_mono h1 q1, by cases q6; exact e_st_mono q1 ht3, q2, q3, q4, q5, List.IsPrefix.trans h7 q1⟩
    subst hnx
    rw [show c.2.1 - k0 + (c1.2.1 - c.2.1) = c1.2.1 - k0 by omega, show c.2.2 - s0 + (c1.2.2 - c.2.2) = c1.2.2 - s0 by omega]
    exact hfin
  · obtain ⟨z2, w2, c2, hK2, hok2⟩ := hg _ _ _ _ _ _ _ hres
    refine ⟨z2, w2, c2, hK2, Nat.le_trans hok1.1 hok2.1, Nat.le_trans hok1.2.1 hok2.2.1, Nat.le_trans hok1.2.2.1 hok2.2.2.1, ?_⟩
    intro p l e R s m args below meth cd Q ad D tys base nL as0 k0 s0 hC hf hl hk hs hc hsl hE
    have hok1' := hok1
    obtain ⟨b1, b2, b3, -⟩ := hok1'
    have hWG := hok2.2.2.2 p l e R s m args below meth cd Q ad D tys base nL as0 k0 s0 hC hf hl (by omega) (by omega) hc hsl hE
    obtain ⟨hx, hb⟩ := e_cc hM hq hC
    have d2 := hok2.2.1
    have d3 := hok2.2.2.1
    intro as ws H locs ls ys hS
    obtain ⟨h1, h2, h3, h4, h5, h6, h7⟩ := hS
    obtain ⟨tc, rc, rfl, ht1, ht2, ht3⟩ := e_st_app h2
    have hwd : (rc.map fun v => v.category).sum ≤ 8 := by rw [e_stw_t ht3]; exact hst8
    have hM9 := e_met (ad := ad) (D := D) (tys := tys) (base := base) (as0 := as) (ws0 := ws) (l := l) hok1 hy hplain hC.1 hlal hla h3 h5
    have hpre : ∀ U : State, U.heap = H → s.WarmedH U.vm → e_Pc (y, F.2.1 - 1, F.2.2.1 - (mm + 19), F.2.2.2) ad D tys base as ws t.reverse (tc.reverse).toArray U := fun U hU hW => ⟨tc.reverse, rfl, e_st_rev ht2, by rw [hU]; exact h4, by rw [hU]; exact Nat.le_trans hC.2.2.2.2.2.1 h6.1, e_Kx_warm hW hC.2.2.2.2.1, by
      rw [hU]
      exact e_sf_moved hW.alike (fun q hq hA => h6.2.1 q hq hA) (e_sf_F rfl hC.2.2.2.2.2.2.1)⟩
    have hrun := va_runS (e := e) (below := below) (meth := meth) (As := tc.reverse) (rest := rc) (Ts := e_ws) (own := own) (H := H) (locs := locs) (cells := c.2.1 - k0) (slots := c.2.2 - s0) (g := F0 m pc ls (tc ++ rc)) ⟨hx, hb, rfl, e_own hM ho hC, hC.2.2.2.1⟩ hM9 ⟨callB_of n hC.2.2.2.1 (e_good hcode) rfl rfl rfl (e_wd hC hini rfl) (e_wd hC hlink rfl) hdn ⟨by show F.2.1 - 1 + 1 ≤ R.frames; omega, by show 8 + (mm + 11) + (F.2.2.1 - (mm + 19)) ≤ R.locals; omega⟩, e_wd hC hstat rfl⟩ ⟨e_Pc_blind, hpre⟩ rfl (by simp [ht1, ht0]) (h1.2.choose_spec.1.1.trans (by obtain ⟨-, -, -, -, -, -, -, q9, -, -, r3, -⟩ := hC; exact r3.symm)) (by simp) (lv_room hwd) hd ⟨by omega, by omega⟩
    refine e_runW hrun h6 (fun as1 ws1 H1 locs1 xo q1 q2 q3 q4 q5 q6 => ?_)
    have hfin := hWG as1 ws1 H1 locs1 ls (xo ++ rc) ⟨e_lo_mono h1 q1, by obtain ⟨x, rfl, hx9⟩ := q6; exact ⟨hx9, e_st_mono q1 ht3⟩, q2, q3, q4, q5, List.IsPrefix.trans h7 q1⟩
    subst hnx
    rw [show c.2.1 - k0 + (c1.2.1 - c.2.1) = c1.2.1 - k0 by omega, show c.2.2 - s0 + (c1.2.2 - c.2.2) = c1.2.2 - s0 by omega]
    exact hfin
  · cases hres

theorem s_callSN {y mm n nx index : Nat} {own : String} {yn : MethodName} {yb : ByteArray} {rt : Option FieldType} (hq : (e_ml[M]?).map (·.2.1) = some cc) (ho : (e_ml[M]?).map (·.1.cls) = some own) (hy : e_ml[y]? = some (yn, yb, mm, rt)) (hplain : plainName yn.cls = true) (hcode : Jvm.Cond.code yn yb mm rt ∈ lw_tbl) (hini : Jvm.Cond.initialized yn.cls ∈ lw_tbl) (hdn : yn.cls ≠ "java/lang/invoke/MethodHandle" ∧ yn.cls ≠ "java/lang/invoke/VarHandle" ∧ (parseMethodDescriptor yn.desc).map (fun d => d.parameters.length) = some n) {host : String} (hlink : Jvm.Cond.methodLinkNest own index yn host ∈ lw_tbl) (hstat : Jvm.Cond.static yn ∈ lw_tbl) (hd : decode cc pc = .ok (.invokestatic index, 3)) (hnx : nx = pc + 3) : e_Sn M pc (o_callS y mm n nx) := by
  intro g hg F al st w c K hM h
  unfold o_callS at h
  obtain ⟨t, r, rfl, ht0, h⟩ := e_args_t h
  obtain ⟨la, z1, w1, c1, hfr, hlo, hst8, hlal, hla, hok1, hres⟩ := e_go_t hg h
  rw [List.append_nil] at hla
  rcases z1 with (_ | v) | E
  · obtain ⟨z2, w2, c2, hK2, hok2⟩ := hg _ _ _ _ _ _ _ hres
    refine ⟨z2, w2, c2, hK2, Nat.le_trans hok1.1 hok2.1, Nat.le_trans hok1.2.1 hok2.2.1, Nat.le_trans hok1.2.2.1 hok2.2.2.1, ?_⟩
    intro p l e R s m args below meth cd Q ad D tys base nL as0 k0 s0 hC hf hl hk hs hc hsl hE
    have hok1' := hok1
    obtain ⟨b1, b2, b3, -⟩ := hok1'
    have hWG := hok2.2.2.2 p l e R s m args below meth cd Q ad D tys base nL as0 k0 s0 hC hf hl (by omega) (by omega) hc hsl hE
    obtain ⟨hx, hb⟩ := e_cc hM hq hC
    have d2 := hok2.2.1
    have d3 := hok2.2.2.1
    intro as ws H locs ls ys hS
    obtain ⟨h1, h2, h3, h4, h5, h6, h7⟩ := hS
    obtain ⟨tc, rc, rfl, ht1, ht2, ht3⟩ := e_st_app h2
    have hwd : (rc.map fun v => v.category).sum ≤ 8 := by rw [e_stw_t ht3]; exact hst8
    have hM9 := e_met (ad := ad) (D := D) (tys := tys) (base := base) (as0 := as) (ws0 := ws) (l := l) hok1 hy hplain hC.1 hlal hla h3 h5
    have hpre : ∀ U : State, U.heap = H → s.WarmedH U.vm → e_Pc (y, F.2.1 - 1, F.2.2.1 - (mm + 19), F.2.2.2) ad D tys base as ws t.reverse (tc.reverse).toArray U := fun U hU hW => ⟨tc.reverse, rfl, e_st_rev ht2, by rw [hU]; exact h4, by rw [hU]; exact Nat.le_trans hC.2.2.2.2.2.1 h6.1, e_Kx_warm hW hC.2.2.2.2.1, by
      rw [hU]
      exact e_sf_moved hW.alike (fun q hq hA => h6.2.1 q hq hA) (e_sf_F rfl hC.2.2.2.2.2.2.1)⟩
    have hrun := va_runSN (e := e) (below := below) (meth := meth) (As := tc.reverse) (rest := rc) (Ts := e_ws) (own := own) (H := H) (locs := locs) (cells := c.2.1 - k0) (slots := c.2.2 - s0) (g := F0 m pc ls (tc ++ rc)) ⟨hx, hb, rfl, e_own hM ho hC, hC.2.2.2.1⟩ hM9 ⟨va_cnB n hC.2.2.2.1 (e_good hcode) rfl rfl rfl (hC.2.2.2.2.1.2.2.1 _ (List.mem_filter.mpr ⟨hlink, rfl⟩)) (e_wd hC hini rfl) hdn ⟨by show F.2.1 - 1 + 1 ≤ R.frames; omega, by show 8 + (mm + 11) + (F.2.2.1 - (mm + 19)) ≤ R.locals; omega⟩, e_wd hC hstat rfl, trivial⟩ ⟨e_Pc_blind, hpre⟩ rfl (by simp [ht1, ht0]) (h1.2.choose_spec.1.1.trans (by obtain ⟨-, -, -, -, -, -, -, q9, -, -, r3, -⟩ := hC; exact r3.symm)) (by simp) (lv_room hwd) hd ⟨by omega, by omega⟩
    refine e_runW hrun h6 (fun as1 ws1 H1 locs1 xo q1 q2 q3 q4 q5 q6 => ?_)
    have hfin := hWG as1 ws1 H1 locs1 ls (xo ++ rc) ⟨e_lo_mono h1 q1, by cases q6; exact e_st_mono q1 ht3, q2, q3, q4, q5, List.IsPrefix.trans h7 q1⟩
    subst hnx
    rw [show c.2.1 - k0 + (c1.2.1 - c.2.1) = c1.2.1 - k0 by omega, show c.2.2 - s0 + (c1.2.2 - c.2.2) = c1.2.2 - s0 by omega]
    exact hfin
  · obtain ⟨z2, w2, c2, hK2, hok2⟩ := hg _ _ _ _ _ _ _ hres
    refine ⟨z2, w2, c2, hK2, Nat.le_trans hok1.1 hok2.1, Nat.le_trans hok1.2.1 hok2.2.1, Nat.le_trans hok1.2.2.1 hok2.2.2.1, ?_⟩
    intro p l e R s m args below meth cd Q ad D tys base nL as0 k0 s0 hC hf hl hk hs hc hsl hE
    have hok1' := hok1
    obtain ⟨b1, b2, b3, -⟩ := hok1'
    have hWG := hok2.2.2.2 p l e R s m args below meth cd Q ad D tys base nL as0 k0 s0 hC hf hl (by omega) (by omega) hc hsl hE
    obtain ⟨hx, hb⟩ := e_cc hM hq hC
    have d2 := hok2.2.1
    have d3 := hok2.2.2.1
    intro as ws H locs ls ys hS
    obtain ⟨h1, h2, h3, h4, h5, h6, h7⟩ := hS
    obtain ⟨tc, rc, rfl, ht1, ht2, ht3⟩ := e_st_app h2
    have hwd : (rc.map fun v => v.category).sum ≤ 8 := by rw [e_stw_t ht3]; exact hst8
    have hM9 := e_met (ad := ad) (D := D) (tys := tys) (base := base) (as0 := as) (ws0 := ws) (l := l) hok1 hy hplain hC.1 hlal hla h3 h5
    have hpre : ∀ U : State, U.heap = H → s.WarmedH U.vm → e_Pc (y, F.2.1 - 1, F.2.2.1 - (mm + 19), F.2.2.2) ad D tys base as ws t.reverse (tc.reverse).toArray U := fun U hU hW => ⟨tc.reverse, rfl, e_st_rev ht2, by rw [hU]; exact h4, by rw [hU]; exact Nat.le_trans hC.2.2.2.2.2.1 h6.1, e_Kx_warm hW hC.2.2.2.2.1, by
      rw [hU]
      exact e_sf_moved hW.alike (fun q hq hA => h6.2.1 q hq hA) (e_sf_F rfl hC.2.2.2.2.2.2.1)⟩
    have hrun := va_runSN (e := e) (below := below) (meth := meth) (As := tc.reverse) (rest := rc) (Ts := e_ws) (own := own) (H := H) (locs := locs) (cells := c.2.1 - k0) (slots := c.2.2 - s0) (g := F0 m pc ls (tc ++ rc)) ⟨hx, hb, rfl, e_own hM ho hC, hC.2.2.2.1⟩ hM9 ⟨va_cnB n hC.2.2.2.1 (e_good hcode) rfl rfl rfl (hC.2.2.2.2.1.2.2.1 _ (List.mem_filter.mpr ⟨hlink, rfl⟩)) (e_wd hC hini rfl) hdn ⟨by show F.2.1 - 1 + 1 ≤ R.frames; omega, by show 8 + (mm + 11) + (F.2.2.1 - (mm + 19)) ≤ R.locals; omega⟩, e_wd hC hstat rfl, trivial⟩ ⟨e_Pc_blind, hpre⟩ rfl (by simp [ht1, ht0]) (h1.2.choose_spec.1.1.trans (by obtain ⟨-, -, -, -, -, -, -, q9, -, -, r3, -⟩ := hC; exact r3.symm)) (by simp) (lv_room hwd) hd ⟨by omega, by omega⟩
    refine e_runW hrun h6 (fun as1 ws1 H1 locs1 xo q1 q2 q3 q4 q5 q6 => ?_)
    have hfin := hWG as1 ws1 H1 locs1 ls (xo ++ rc) ⟨e_lo_mono h1 q1, by obtain ⟨x, rfl, hx9⟩ := q6; exact ⟨hx9, e_st_mono q1 ht3⟩, q2, q3, q4, q5, List.IsPrefix.trans h7 q1⟩
    subst hnx
    rw [show c.2.1 - k0 + (c1.2.1 - c.2.1) = c1.2.1 - k0 by omega, show c.2.2 - s0 + (c1.2.2 - c.2.2) = c1.2.2 - s0 by omega]
    exact hfin
  · cases hres

theorem s_callI {y mm n nx index : Nat} {own : String} {yn : MethodName} {yb : ByteArray} {rt : Option FieldType} (hq : (e_ml[M]?).map (·.2.1) = some cc) (ho : (e_ml[M]?).map (·.1.cls) = some own) (hy : e_ml[y]? = some (yn, yb, mm, rt)) (hplain : plainName yn.cls = true) (hcode : Jvm.Cond.code yn yb mm rt ∈ lw_tbl) (hini : Jvm.Cond.initialized yn.cls ∈ lw_tbl) (hdn : yn.cls ≠ "java/lang/invoke/MethodHandle" ∧ yn.cls ≠ "java/lang/invoke/VarHandle" ∧ (parseMethodDescriptor yn.desc).map (fun d => d.parameters.length) = some n) (hlink : Jvm.Cond.methodLink own index yn ∈ lw_tbl) (hnm : yn.name = "<init>") (hrt0 : rt = none) (hinst : Jvm.Cond.instanceMethod yn ∈ lw_tbl) (hd : decode cc pc = .ok (.invokespecial index, 3)) (hnx : nx = pc + 3) : e_Sn M pc (o_callI y mm (n + 1) nx) := by
  subst hrt0
  intro g hg F al st w c K hM h
  unfold o_callI at h
  obtain ⟨t, r, hst9, ht0, h9⟩ := e_args_t h
  clear h
  have h := h9
  clear h9
  subst hst9
  rw [List.append_nil] at h
  split at h
  · next q t0 htr =>
    obtain ⟨la, z1, w1, c1, hfr, hlo, hst8, hlal, hla, hok1, hres⟩ := e_go_t hg h
    rcases z1 with (_ | v) | E
    · obtain ⟨z2, w2, c2, hK2, hok2⟩ := hg _ _ _ _ _ _ _ hres
      refine ⟨z2, w2, c2, hK2, Nat.le_trans hok1.1 hok2.1, Nat.le_trans hok1.2.1 hok2.2.1, Nat.le_trans hok1.2.2.1 hok2.2.2.1, ?_⟩
      intro p l e R s m args below meth cd Q ad D tys base nL as0 k0 s0 hC hf hl hk hs hc hsl hE
      have hok1' := hok1
      obtain ⟨b1, b2, b3, -⟩ := hok1'
      have hWG := hok2.2.2.2 p l e R s m args below meth cd Q ad D tys base nL as0 k0 s0 hC hf hl (by omega) (by omega) hc hsl hE
      obtain ⟨hx, hb⟩ := e_cc hM hq hC
      have d2 := hok2.2.1
      have d3 := hok2.2.2.1
      intro as ws H locs ls ys hS
      obtain ⟨h1, h2, h3, h4, h5, h6, h7⟩ := hS
      obtain ⟨tc, rc, rfl, ht1, ht2, ht3⟩ := e_st_app h2
      have hrv := e_st_rev ht2
      rw [htr] at hrv
      obtain ⟨x0, tc0, htc0, hrel0, hst0⟩ := e_st_cons hrv
      obtain ⟨b0, hb0, rfl⟩ := e_ref hrel0
      have htc : tc = tc0.reverse ++ [.ref b0] := by rw [← List.reverse_reverse tc, htc0, List.reverse_cons]
      have hlen0 : tc0.length = n := by
        have e1 := congrArg List.length htc
        simp [ht1, ht0] at e1
        omega
      have hwd : (rc.map fun v => v.category).sum ≤ 8 := by rw [e_stw_t ht3]; exact hst8
      have hM9 := e_met (ad := ad) (D := D) (tys := tys) (base := base) (as0 := as) (ws0 := ws) (l := l) hok1 hy hplain hC.1 hlal hla h3 h5
      have hpre : ∀ U : State, U.heap = H → s.WarmedH U.vm → e_Pc (y, F.2.1 - 1, F.2.2.1 - (mm + 19), F.2.2.2) ad D tys base as ws (Sum.inr (Sum.inl (some q)) :: t0) (Value.ref b0 :: tc0).toArray U := fun U hU hW => ⟨Value.ref b0 :: tc0, rfl, ⟨hrel0, hst0⟩, by rw [hU]; exact h4, by rw [hU]; exact Nat.le_trans hC.2.2.2.2.2.1 h6.1, e_Kx_warm hW hC.2.2.2.2.1, by
        rw [hU]
        exact e_sf_moved hW.alike (fun q hq hA => h6.2.1 q hq hA) (e_sf_F rfl hC.2.2.2.2.2.2.1)⟩
      rw [htr] at hM9
      have hrun := va_runI (e := e) (below := below) (meth := meth) (As := tc0) (b := b0) (rest := rc) (Ts := e_ws) (own := own) (H := H) (locs := locs) (cells := c.2.1 - k0) (slots := c.2.2 - s0) (g := F0 m pc ls (tc ++ rc)) ⟨hx, hb, rfl, e_own hM ho hC, hC.2.2.2.1⟩ hM9 ⟨callB_of n hC.2.2.2.1 (e_good hcode) rfl rfl rfl (e_wd hC hini rfl) (e_wd hC hlink rfl) hdn ⟨by show F.2.1 - 1 + 1 ≤ R.frames; omega, by show 8 + (mm + 11) + (F.2.2.1 - (mm + 19)) ≤ R.locals; omega⟩, hnm, e_wd hC hinst rfl⟩ ⟨e_Pc_blind, hpre⟩ rfl hlen0 (h1.2.choose_spec.1.1.trans (by obtain ⟨-, -, -, -, -, -, -, q9, -, -, r3, -⟩ := hC; exact r3.symm)) (by rw [htc]; simp) (lv_room hwd) hd ⟨by omega, by omega⟩
      refine e_runW hrun h6 (fun as1 ws1 H1 locs1 xo q1 q2 q3 q4 q5 q6 => ?_)
      have hfin := hWG as1 ws1 H1 locs1 ls (xo ++ rc) ⟨e_lo_mono h1 q1, by cases q6; exact e_st_mono q1 ht3, q2, q3, q4, q5, List.IsPrefix.trans h7 q1⟩
      subst hnx
      rw [show c.2.1 - k0 + (c1.2.1 - c.2.1) = c1.2.1 - k0 by omega, show c.2.2 - s0 + (c1.2.2 - c.2.2) = c1.2.2 - s0 by omega]
      exact hfin
    · obtain ⟨z2, w2, c2, hK2, hok2⟩ := hg _ _ _ _ _ _ _ hres
      refine ⟨z2, w2, c2, hK2, Nat.le_trans hok1.1 hok2.1, Nat.le_trans hok1.2.1 hok2.2.1, Nat.le_trans hok1.2.2.1 hok2.2.2.1, ?_⟩
      intro p l e R s m args below meth cd Q ad D tys base nL as0 k0 s0 hC hf hl hk hs hc hsl hE
      have hok1' := hok1
      obtain ⟨b1, b2, b3, -⟩ := hok1'
      have hWG := hok2.2.2.2 p l e R s m args below meth cd Q ad D tys base nL as0 k0 s0 hC hf hl (by omega) (by omega) hc hsl hE
      obtain ⟨hx, hb⟩ := e_cc hM hq hC
      have d2 := hok2.2.1
      have d3 := hok2.2.2.1
      intro as ws H locs ls ys hS
      obtain ⟨h1, h2, h3, h4, h5, h6, h7⟩ := hS
      obtain ⟨tc, rc, rfl, ht1, ht2, ht3⟩ := e_st_app h2
      have hrv := e_st_rev ht2
      rw [htr] at hrv
      obtain ⟨x0, tc0, htc0, hrel0, hst0⟩ := e_st_cons hrv
      obtain ⟨b0, hb0, rfl⟩ := e_ref hrel0
      have htc : tc = tc0.reverse ++ [.ref b0] := by rw [← List.reverse_reverse tc, htc0, List.reverse_cons]
      have hlen0 : tc0.length = n := by
        have e1 := congrArg List.length htc
        simp [ht1, ht0] at e1
        omega
      have hwd : (rc.map fun v => v.category).sum ≤ 8 := by rw [e_stw_t ht3]; exact hst8
      have hM9 := e_met (ad := ad) (D := D) (tys := tys) (base := base) (as0 := as) (ws0 := ws) (l := l) hok1 hy hplain hC.1 hlal hla h3 h5
      have hpre : ∀ U : State, U.heap = H → s.WarmedH U.vm → e_Pc (y, F.2.1 - 1, F.2.2.1 - (mm + 19), F.2.2.2) ad D tys base as ws (Sum.inr (Sum.inl (some q)) :: t0) (Value.ref b0 :: tc0).toArray U := fun U hU hW => ⟨Value.ref b0 :: tc0, rfl, ⟨hrel0, hst0⟩, by rw [hU]; exact h4, by rw [hU]; exact Nat.le_trans hC.2.2.2.2.2.1 h6.1, e_Kx_warm hW hC.2.2.2.2.1, by
        rw [hU]
        exact e_sf_moved hW.alike (fun q hq hA => h6.2.1 q hq hA) (e_sf_F rfl hC.2.2.2.2.2.2.1)⟩
      rw [htr] at hM9
      have hrun := va_runI (e := e) (below := below) (meth := meth) (As := tc0) (b := b0) (rest := rc) (Ts := e_ws) (own := own) (H := H) (locs := locs) (cells := c.2.1 - k0) (slots := c.2.2 - s0) (g := F0 m pc ls (tc ++ rc)) ⟨hx, hb, rfl, e_own hM ho hC, hC.2.2.2.1⟩ hM9 ⟨callB_of n hC.2.2.2.1 (e_good hcode) rfl rfl rfl (e_wd hC hini rfl) (e_wd hC hlink rfl) hdn ⟨by show F.2.1 - 1 + 1 ≤ R.frames; omega, by show 8 + (mm + 11) + (F.2.2.1 - (mm + 19)) ≤ R.locals; omega⟩, hnm, e_wd hC hinst rfl⟩ ⟨e_Pc_blind, hpre⟩ rfl hlen0 (h1.2.choose_spec.1.1.trans (by obtain ⟨-, -, -, -, -, -, -, q9, -, -, r3, -⟩ := hC; exact r3.symm)) (by rw [htc]; simp) (lv_room hwd) hd ⟨by omega, by omega⟩
      refine e_runW hrun h6 (fun as1 ws1 H1 locs1 xo q1 q2 q3 q4 q5 q6 => ?_)
      have hfin := hWG as1 ws1 H1 locs1 ls (xo ++ rc) ⟨e_lo_mono h1 q1, by obtain ⟨x, rfl, hx9⟩ := q6; exact ⟨hx9, e_st_mono q1 ht3⟩, q2, q3, q4, q5, List.IsPrefix.trans h7 q1⟩
      subst hnx
      rw [show c.2.1 - k0 + (c1.2.1 - c.2.1) = c1.2.1 - k0 by omega, show c.2.2 - s0 + (c1.2.2 - c.2.2) = c1.2.2 - s0 by omega]
      exact hfin
    · cases hres
  · cases h

theorem s_callIN {y mm n nx index : Nat} {own : String} {yn : MethodName} {yb : ByteArray} {rt : Option FieldType} (hq : (e_ml[M]?).map (·.2.1) = some cc) (ho : (e_ml[M]?).map (·.1.cls) = some own) (hy : e_ml[y]? = some (yn, yb, mm, rt)) (hplain : plainName yn.cls = true) (hcode : Jvm.Cond.code yn yb mm rt ∈ lw_tbl) (hini : Jvm.Cond.initialized yn.cls ∈ lw_tbl) (hdn : yn.cls ≠ "java/lang/invoke/MethodHandle" ∧ yn.cls ≠ "java/lang/invoke/VarHandle" ∧ (parseMethodDescriptor yn.desc).map (fun d => d.parameters.length) = some n) {host : String} (hlink : Jvm.Cond.methodLinkNest own index yn host ∈ lw_tbl) (hnm : yn.name = "<init>") (hrt0 : rt = none) (hinst : Jvm.Cond.instanceMethod yn ∈ lw_tbl) (hd : decode cc pc = .ok (.invokespecial index, 3)) (hnx : nx = pc + 3) : e_Sn M pc (o_callI y mm (n + 1) nx) := by
  subst hrt0
  intro g hg F al st w c K hM h
  unfold o_callI at h
  obtain ⟨t, r, hst9, ht0, h9⟩ := e_args_t h
  clear h
  have h := h9
  clear h9
  subst hst9
  rw [List.append_nil] at h
  split at h
  · next q t0 htr =>
    obtain ⟨la, z1, w1, c1, hfr, hlo, hst8, hlal, hla, hok1, hres⟩ := e_go_t hg h
    rcases z1 with (_ | v) | E
    · obtain ⟨z2, w2, c2, hK2, hok2⟩ := hg _ _ _ _ _ _ _ hres
      refine ⟨z2, w2, c2, hK2, Nat.le_trans hok1.1 hok2.1, Nat.le_trans hok1.2.1 hok2.2.1, Nat.le_trans hok1.2.2.1 hok2.2.2.1, ?_⟩
      intro p l e R s m args below meth cd Q ad D tys base nL as0 k0 s0 hC hf hl hk hs hc hsl hE
      have hok1' := hok1
      obtain ⟨b1, b2, b3, -⟩ := hok1'
      have hWG := hok2.2.2.2 p l e R s m args below meth cd Q ad D tys base nL as0 k0 s0 hC hf hl (by omega) (by omega) hc hsl hE
      obtain ⟨hx, hb⟩ := e_cc hM hq hC
      have d2 := hok2.2.1
      have d3 := hok2.2.2.1
      intro as ws H locs ls ys hS
      obtain ⟨h1, h2, h3, h4, h5, h6, h7⟩ := hS
      obtain ⟨tc, rc, rfl, ht1, ht2, ht3⟩ := e_st_app h2
      have hrv := e_st_rev ht2
      rw [htr] at hrv
      obtain ⟨x0, tc0, htc0, hrel0, hst0⟩ := e_st_cons hrv
      obtain ⟨b0, hb0, rfl⟩ := e_ref hrel0
      have htc : tc = tc0.reverse ++ [.ref b0] := by rw [← List.reverse_reverse tc, htc0, List.reverse_cons]
      have hlen0 : tc0.length = n := by
        have e1 := congrArg List.length htc
        simp [ht1, ht0] at e1
        omega
      have hwd : (rc.map fun v => v.category).sum ≤ 8 := by rw [e_stw_t ht3]; exact hst8
      have hM9 := e_met (ad := ad) (D := D) (tys := tys) (base := base) (as0 := as) (ws0 := ws) (l := l) hok1 hy hplain hC.1 hlal hla h3 h5
      have hpre : ∀ U : State, U.heap = H → s.WarmedH U.vm → e_Pc (y, F.2.1 - 1, F.2.2.1 - (mm + 19), F.2.2.2) ad D tys base as ws (Sum.inr (Sum.inl (some q)) :: t0) (Value.ref b0 :: tc0).toArray U := fun U hU hW => ⟨Value.ref b0 :: tc0, rfl, ⟨hrel0, hst0⟩, by rw [hU]; exact h4, by rw [hU]; exact Nat.le_trans hC.2.2.2.2.2.1 h6.1, e_Kx_warm hW hC.2.2.2.2.1, by
        rw [hU]
        exact e_sf_moved hW.alike (fun q hq hA => h6.2.1 q hq hA) (e_sf_F rfl hC.2.2.2.2.2.2.1)⟩
      rw [htr] at hM9
      have hrun := va_runIN (e := e) (below := below) (meth := meth) (As := tc0) (b := b0) (rest := rc) (Ts := e_ws) (own := own) (H := H) (locs := locs) (cells := c.2.1 - k0) (slots := c.2.2 - s0) (g := F0 m pc ls (tc ++ rc)) ⟨hx, hb, rfl, e_own hM ho hC, hC.2.2.2.1⟩ hM9 ⟨va_cnB n hC.2.2.2.1 (e_good hcode) rfl rfl rfl (hC.2.2.2.2.1.2.2.1 _ (List.mem_filter.mpr ⟨hlink, rfl⟩)) (e_wd hC hini rfl) hdn ⟨by show F.2.1 - 1 + 1 ≤ R.frames; omega, by show 8 + (mm + 11) + (F.2.2.1 - (mm + 19)) ≤ R.locals; omega⟩, hnm, e_wd hC hinst rfl⟩ ⟨e_Pc_blind, hpre⟩ rfl hlen0 (h1.2.choose_spec.1.1.trans (by obtain ⟨-, -, -, -, -, -, -, q9, -, -, r3, -⟩ := hC; exact r3.symm)) (by rw [htc]; simp) (lv_room hwd) hd ⟨by omega, by omega⟩
      refine e_runW hrun h6 (fun as1 ws1 H1 locs1 xo q1 q2 q3 q4 q5 q6 => ?_)
      have hfin := hWG as1 ws1 H1 locs1 ls (xo ++ rc) ⟨e_lo_mono h1 q1, by cases q6; exact e_st_mono q1 ht3, q2, q3, q4, q5, List.IsPrefix.trans h7 q1⟩
      subst hnx
      rw [show c.2.1 - k0 + (c1.2.1 - c.2.1) = c1.2.1 - k0 by omega, show c.2.2 - s0 + (c1.2.2 - c.2.2) = c1.2.2 - s0 by omega]
      exact hfin
    · obtain ⟨z2, w2, c2, hK2, hok2⟩ := hg _ _ _ _ _ _ _ hres
      refine ⟨z2, w2, c2, hK2, Nat.le_trans hok1.1 hok2.1, Nat.le_trans hok1.2.1 hok2.2.1, Nat.le_trans hok1.2.2.1 hok2.2.2.1, ?_⟩
      intro p l e R s m args below meth cd Q ad D tys base nL as0 k0 s0 hC hf hl hk hs hc hsl hE
      have hok1' := hok1
      obtain ⟨b1, b2, b3, -⟩ := hok1'
      have hWG := hok2.2.2.2 p l e R s m args below meth cd Q ad D tys base nL as0 k0 s0 hC hf hl (by omega) (by omega) hc hsl hE
      obtain ⟨hx, hb⟩ := e_cc hM hq hC
      have d2 := hok2.2.1
      have d3 := hok2.2.2.1
      intro as ws H locs ls ys hS
      obtain ⟨h1, h2, h3, h4, h5, h6, h7⟩ := hS
      obtain ⟨tc, rc, rfl, ht1, ht2, ht3⟩ := e_st_app h2
      have hrv := e_st_rev ht2
      rw [htr] at hrv
      obtain ⟨x0, tc0, htc0, hrel0, hst0⟩ := e_st_cons hrv
      obtain ⟨b0, hb0, rfl⟩ := e_ref hrel0
      have htc : tc = tc0.reverse ++ [.ref b0] := by rw [← List.reverse_reverse tc, htc0, List.reverse_cons]
      have hlen0 : tc0.length = n := by
        have e1 := congrArg List.length htc
        simp [ht1, ht0] at e1
        omega
      have hwd : (rc.map fun v => v.category).sum ≤ 8 := by rw [e_stw_t ht3]; exact hst8
      have hM9 := e_met (ad := ad) (D := D) (tys := tys) (base := base) (as0 := as) (ws0 := ws) (l := l) hok1 hy hplain hC.1 hlal hla h3 h5
      have hpre : ∀ U : State, U.heap = H → s.WarmedH U.vm → e_Pc (y, F.2.1 - 1, F.2.2.1 - (mm + 19), F.2.2.2) ad D tys base as ws (Sum.inr (Sum.inl (some q)) :: t0) (Value.ref b0 :: tc0).toArray U := fun U hU hW => ⟨Value.ref b0 :: tc0, rfl, ⟨hrel0, hst0⟩, by rw [hU]; exact h4, by rw [hU]; exact Nat.le_trans hC.2.2.2.2.2.1 h6.1, e_Kx_warm hW hC.2.2.2.2.1, by
        rw [hU]
        exact e_sf_moved hW.alike (fun q hq hA => h6.2.1 q hq hA) (e_sf_F rfl hC.2.2.2.2.2.2.1)⟩
      rw [htr] at hM9
      have hrun := va_runIN (e := e) (below := below) (meth := meth) (As := tc0) (b := b0) (rest := rc) (Ts := e_ws) (own := own) (H := H) (locs := locs) (cells := c.2.1 - k0) (slots := c.2.2 - s0) (g := F0 m pc ls (tc ++ rc)) ⟨hx, hb, rfl, e_own hM ho hC, hC.2.2.2.1⟩ hM9 ⟨va_cnB n hC.2.2.2.1 (e_good hcode) rfl rfl rfl (hC.2.2.2.2.1.2.2.1 _ (List.mem_filter.mpr ⟨hlink, rfl⟩)) (e_wd hC hini rfl) hdn ⟨by show F.2.1 - 1 + 1 ≤ R.frames; omega, by show 8 + (mm + 11) + (F.2.2.1 - (mm + 19)) ≤ R.locals; omega⟩, hnm, e_wd hC hinst rfl⟩ ⟨e_Pc_blind, hpre⟩ rfl hlen0 (h1.2.choose_spec.1.1.trans (by obtain ⟨-, -, -, -, -, -, -, q9, -, -, r3, -⟩ := hC; exact r3.symm)) (by rw [htc]; simp) (lv_room hwd) hd ⟨by omega, by omega⟩
      refine e_runW hrun h6 (fun as1 ws1 H1 locs1 xo q1 q2 q3 q4 q5 q6 => ?_)
      have hfin := hWG as1 ws1 H1 locs1 ls (xo ++ rc) ⟨e_lo_mono h1 q1, by obtain ⟨x, rfl, hx9⟩ := q6; exact ⟨hx9, e_st_mono q1 ht3⟩, q2, q3, q4, q5, List.IsPrefix.trans h7 q1⟩
      subst hnx
      rw [show c.2.1 - k0 + (c1.2.1 - c.2.1) = c1.2.1 - k0 by omega, show c.2.2 - s0 + (c1.2.2 - c.2.2) = c1.2.2 - s0 by omega]
      exact hfin
    · cases hres
  · cases h

theorem e_recv {p : Program} {l : Launch} {F : e_F} {s : State} {m : MethodId} {args : Array Value} {meth : Method} {cd : Code} {ad : Nat → Nat} {D : va_G} {tys : List (ClassId × FieldType)} {base nL : Nat} (hC : e_Cx F p l s m args meth cd ad D tys base nL) {as : List Nat} {w : e_W} {n q b ci N : Nat} {fs : List e_V} {ws : va_W} {H : Heap} {C : String} {T : u_T} (h3 : e_wk ad as tys w n ws) (h4 : va_P D e_cl ws H) (hb : as[q]? = some b) (hc : e_tget 13 w q = .inl (ci, fs)) (hcl : e_cl[ci]? = some (C, T, N)) : ∃ cell : Cell, H[b]? = some cell ∧ cell.vm.isStatics = false ∧ s.vm.findClass C = some cell.cls := by
  obtain ⟨e', he, hent⟩ := e_wk_at h3 hb
  rw [hc] at hent
  cases e' with
  | inl z => exact hent.elim
  | inr o9 =>
    obtain ⟨cj2, vs⟩ := o9
    obtain ⟨rfl, -, -⟩ := hent
    exact va_recv hC.2.2.2.2.1.1 h4 hcl he
theorem s_callV {y mm n nx index ci N : Nat} {own C : String} {T : u_T} {yn : MethodName} {yb : ByteArray} {rt : Option FieldType} (hq : (e_ml[M]?).map (·.2.1) = some cc) (ho : (e_ml[M]?).map (·.1.cls) = some own) (hy : e_ml[y]? = some (yn, yb, mm, rt)) (hplain : plainName yn.cls = true) (hcode : Jvm.Cond.code yn yb mm rt ∈ lw_tbl) (hini : Jvm.Cond.initialized yn.cls ∈ lw_tbl) (hdn : yn.cls ≠ "java/lang/invoke/MethodHandle" ∧ yn.cls ≠ "java/lang/invoke/VarHandle" ∧ (parseMethodDescriptor yn.desc).map (fun d => d.parameters.length) = some n) (hlink : Jvm.Cond.methodLink own index yn ∈ lw_tbl) (hinst : Jvm.Cond.instanceMethod yn ∈ lw_tbl) (hsel : Jvm.Cond.selects C yn yn ∈ lw_tbl) (hcl : e_cl[ci]? = some (C, T, N)) (hd : decode cc pc = .ok (.invokevirtual index, 3)) (hnx : nx = pc + 3) : e_Sn M pc (o_callV (e_s1 ci y mm) (n + 1) nx) := by
  intro g hg F al st w c K hM h
  unfold o_callV o_callX at h
  obtain ⟨t, r, hst9, ht0, h9⟩ := e_args_t h
  clear h
  have h := h9
  clear h9
  subst hst9
  rw [List.append_nil] at h
  split at h
  · next q t0 htr =>
    split at h
    · next cj fs9 hc9 =>
      split at h
      · next y9 m9 hs9 =>
        have e1 : cj = ci ∧ y9 = y ∧ m9 = mm := by
          unfold e_s1 at hs9
          cases hb9 : Nat.beq cj ci with
          | false => rw [hb9, cond_false] at hs9; cases hs9
          | true => rw [hb9, cond_true] at hs9; cases hs9; exact ⟨Nat.eq_of_beq_eq_true hb9, rfl, rfl⟩
        obtain ⟨e1a, e1b, e1c⟩ := e1
        replace e1b := e1b.symm
        replace e1c := e1c.symm
        subst e1a e1b e1c
        obtain ⟨la, z1, w1, c1, hfr, hlo, hst8, hlal, hla, hok1, hres⟩ := e_go_t hg h
        rcases z1 with (_ | v) | E
        · obtain ⟨z2, w2, c2, hK2, hok2⟩ := hg _ _ _ _ _ _ _ hres
          refine ⟨z2, w2, c2, hK2, Nat.le_trans hok1.1 hok2.1, Nat.le_trans hok1.2.1 hok2.2.1, Nat.le_trans hok1.2.2.1 hok2.2.2.1, ?_⟩
          intro p l e R s m args below meth cd Q ad D tys base nL as0 k0 s0 hC hf hl hk hs hc hsl hE
          have hok1' := hok1
          obtain ⟨b1, b2, b3, -⟩ := hok1'
          have hWG := hok2.2.2.2 p l e R s m args below meth cd Q ad D tys base nL as0 k0 s0 hC hf hl (by omega) (by omega) hc hsl hE
          obtain ⟨hx, hb⟩ := e_cc hM hq hC
          have d2 := hok2.2.1
          have d3 := hok2.2.2.1
          intro as ws H locs ls ys hS
          obtain ⟨h1, h2, h3, h4, h5, h6, h7⟩ := hS
          obtain ⟨tc, rc, rfl, ht1, ht2, ht3⟩ := e_st_app h2
          have hrv := e_st_rev ht2
          rw [htr] at hrv
          obtain ⟨x0, tc0, htc0, hrel0, hst0⟩ := e_st_cons hrv
          obtain ⟨b0, hb0, rfl⟩ := e_ref hrel0
          have htc : tc = tc0.reverse ++ [.ref b0] := by rw [← List.reverse_reverse tc, htc0, List.reverse_cons]
          have hlen0 : tc0.length = n := by
            have e1 := congrArg List.length htc
            simp [ht1, ht0] at e1
            omega
          have hwd : (rc.map fun v => v.category).sum ≤ 8 := by rw [e_stw_t ht3]; exact hst8
          have hM9 := e_met (ad := ad) (D := D) (tys := tys) (base := base) (as0 := as) (ws0 := ws) (l := l) hok1 hy hplain hC.1 hlal hla h3 h5
          have hpre : ∀ U : State, U.heap = H → s.WarmedH U.vm → e_Pc (y, F.2.1 - 1, F.2.2.1 - (mm + 19), F.2.2.2) ad D tys base as ws (Sum.inr (Sum.inl (some q)) :: t0) (Value.ref b0 :: tc0).toArray U := fun U hU hW => ⟨Value.ref b0 :: tc0, rfl, ⟨hrel0, hst0⟩, by rw [hU]; exact h4, by rw [hU]; exact Nat.le_trans hC.2.2.2.2.2.1 h6.1, e_Kx_warm hW hC.2.2.2.2.1, by
            rw [hU]
            exact e_sf_moved hW.alike (fun q hq hA => h6.2.1 q hq hA) (e_sf_F rfl hC.2.2.2.2.2.2.1)⟩
          rw [htr] at hM9
          have hrun := va_runV (e := e) (below := below) (meth := meth) (C := C) (As := tc0) (b := b0) (rest := rc) (Ts := e_ws) (own := own) (H := H) (locs := locs) (cells := c.2.1 - k0) (slots := c.2.2 - s0) (g := F0 m pc ls (tc ++ rc)) ⟨hx, hb, rfl, e_own hM ho hC, hC.2.2.2.1⟩ hM9 ⟨callB_of n hC.2.2.2.1 (e_good hcode) rfl rfl rfl (e_wd hC hini rfl) (e_wd hC hlink rfl) hdn ⟨by show F.2.1 - 1 + 1 ≤ R.frames; omega, by show 8 + (mm + 11) + (F.2.2.1 - (mm + 19)) ≤ R.locals; omega⟩, e_wd hC hinst rfl, e_wd hC hsel rfl⟩ ⟨e_Pc_blind, e_recv hC h3 h4 hb0 hc9 hcl, hpre⟩ rfl hlen0 (h1.2.choose_spec.1.1.trans (by obtain ⟨-, -, -, -, -, -, -, q9, -, -, r3, -⟩ := hC; exact r3.symm)) (by rw [htc]; simp) (lv_room hwd) hd ⟨by omega, by omega⟩
          refine e_runW hrun h6 (fun as1 ws1 H1 locs1 xo q1 q2 q3 q4 q5 q6 => ?_)
          have hfin := hWG as1 ws1 H1 locs1 ls (xo ++ rc) ⟨e_lo_mono h1 q1, by cases q6; exact e_st_mono q1 ht3, q2, q3, q4, q5, List.IsPrefix.trans h7 q1⟩
          subst hnx
          rw [show c.2.1 - k0 + (c1.2.1 - c.2.1) = c1.2.1 - k0 by omega, show c.2.2 - s0 + (c1.2.2 - c.2.2) = c1.2.2 - s0 by omega]
          exact hfin
        · obtain ⟨z2, w2, c2, hK2, hok2⟩ := hg _ _ _ _ _ _ _ hres
          refine ⟨z2, w2, c2, hK2, Nat.le_trans hok1.1 hok2.1, Nat.le_trans hok1.2.1 hok2.2.1, Nat.le_trans hok1.2.2.1 hok2.2.2.1, ?_⟩
          intro p l e R s m args below meth cd Q ad D tys base nL as0 k0 s0 hC hf hl hk hs hc hsl hE
          have hok1' := hok1
          obtain ⟨b1, b2, b3, -⟩ := hok1'
          have hWG := hok2.2.2.2 p l e R s m args below meth cd Q ad D tys base nL as0 k0 s0 hC hf hl (by omega) (by omega) hc hsl hE
          obtain ⟨hx, hb⟩ := e_cc hM hq hC
          have d2 := hok2.2.1
          have d3 := hok2.2.2.1
          intro as ws H locs ls ys hS
          obtain ⟨h1, h2, h3, h4, h5, h6, h7⟩ := hS
          obtain ⟨tc, rc, rfl, ht1, ht2, ht3⟩ := e_st_app h2
          have hrv := e_st_rev ht2
          rw [htr] at hrv
          obtain ⟨x0, tc0, htc0, hrel0, hst0⟩ := e_st_cons hrv
          obtain ⟨b0, hb0, rfl⟩ := e_ref hrel0
          have htc : tc = tc0.reverse ++ [.ref b0] := by rw [← List.reverse_reverse tc, htc0, List.reverse_cons]
          have hlen0 : tc0.length = n := by
            have e1 := congrArg List.length htc
            simp [ht1, ht0] at e1
            omega
          have hwd : (rc.map fun v => v.category).sum ≤ 8 := by rw [e_stw_t ht3]; exact hst8
          have hM9 := e_met (ad := ad) (D := D) (tys := tys) (base := base) (as0 := as) (ws0 := ws) (l := l) hok1 hy hplain hC.1 hlal hla h3 h5
          have hpre : ∀ U : State, U.heap = H → s.WarmedH U.vm → e_Pc (y, F.2.1 - 1, F.2.2.1 - (mm + 19), F.2.2.2) ad D tys base as ws (Sum.inr (Sum.inl (some q)) :: t0) (Value.ref b0 :: tc0).toArray U := fun U hU hW => ⟨Value.ref b0 :: tc0, rfl, ⟨hrel0, hst0⟩, by rw [hU]; exact h4, by rw [hU]; exact Nat.le_trans hC.2.2.2.2.2.1 h6.1, e_Kx_warm hW hC.2.2.2.2.1, by
            rw [hU]
            exact e_sf_moved hW.alike (fun q hq hA => h6.2.1 q hq hA) (e_sf_F rfl hC.2.2.2.2.2.2.1)⟩
          rw [htr] at hM9
          have hrun := va_runV (e := e) (below := below) (meth := meth) (C := C) (As := tc0) (b := b0) (rest := rc) (Ts := e_ws) (own := own) (H := H) (locs := locs) (cells := c.2.1 - k0) (slots := c.2.2 - s0) (g := F0 m pc ls (tc ++ rc)) ⟨hx, hb, rfl, e_own hM ho hC, hC.2.2.2.1⟩ hM9 ⟨callB_of n hC.2.2.2.1 (e_good hcode) rfl rfl rfl (e_wd hC hini rfl) (e_wd hC hlink rfl) hdn ⟨by show F.2.1 - 1 + 1 ≤ R.frames; omega, by show 8 + (mm + 11) + (F.2.2.1 - (mm + 19)) ≤ R.locals; omega⟩, e_wd hC hinst rfl, e_wd hC hsel rfl⟩ ⟨e_Pc_blind, e_recv hC h3 h4 hb0 hc9 hcl, hpre⟩ rfl hlen0 (h1.2.choose_spec.1.1.trans (by obtain ⟨-, -, -, -, -, -, -, q9, -, -, r3, -⟩ := hC; exact r3.symm)) (by rw [htc]; simp) (lv_room hwd) hd ⟨by omega, by omega⟩
          refine e_runW hrun h6 (fun as1 ws1 H1 locs1 xo q1 q2 q3 q4 q5 q6 => ?_)
          have hfin := hWG as1 ws1 H1 locs1 ls (xo ++ rc) ⟨e_lo_mono h1 q1, by obtain ⟨x, rfl, hx9⟩ := q6; exact ⟨hx9, e_st_mono q1 ht3⟩, q2, q3, q4, q5, List.IsPrefix.trans h7 q1⟩
          subst hnx
          rw [show c.2.1 - k0 + (c1.2.1 - c.2.1) = c1.2.1 - k0 by omega, show c.2.2 - s0 + (c1.2.2 - c.2.2) = c1.2.2 - s0 by omega]
          exact hfin
        · cases hres
      · cases h
    · cases h
  · cases h

theorem s_callVN {y mm n nx index ci N : Nat} {own C : String} {T : u_T} {yn : MethodName} {yb : ByteArray} {rt : Option FieldType} (hq : (e_ml[M]?).map (·.2.1) = some cc) (ho : (e_ml[M]?).map (·.1.cls) = some own) (hy : e_ml[y]? = some (yn, yb, mm, rt)) (hplain : plainName yn.cls = true) (hcode : Jvm.Cond.code yn yb mm rt ∈ lw_tbl) (hini : Jvm.Cond.initialized yn.cls ∈ lw_tbl) (hdn : yn.cls ≠ "java/lang/invoke/MethodHandle" ∧ yn.cls ≠ "java/lang/invoke/VarHandle" ∧ (parseMethodDescriptor yn.desc).map (fun d => d.parameters.length) = some n) {host : String} (hlink : Jvm.Cond.methodLinkNest own index yn host ∈ lw_tbl) (hinst : Jvm.Cond.instanceMethod yn ∈ lw_tbl) (hsel : Jvm.Cond.selects C yn yn ∈ lw_tbl) (hcl : e_cl[ci]? = some (C, T, N)) (hd : decode cc pc = .ok (.invokevirtual index, 3)) (hnx : nx = pc + 3) : e_Sn M pc (o_callV (e_s1 ci y mm) (n + 1) nx) := by
  intro g hg F al st w c K hM h
  unfold o_callV o_callX at h
  obtain ⟨t, r, hst9, ht0, h9⟩ := e_args_t h
  clear h
  have h := h9
  clear h9
  subst hst9
  rw [List.append_nil] at h
  split at h
  · next q t0 htr =>
    split at h
    · next cj fs9 hc9 =>
      split at h
      · next y9 m9 hs9 =>
        have e1 : cj = ci ∧ y9 = y ∧ m9 = mm := by
          unfold e_s1 at hs9
          cases hb9 : Nat.beq cj ci with
          | false => rw [hb9, cond_false] at hs9; cases hs9
          | true => rw [hb9, cond_true] at hs9; cases hs9; exact ⟨Nat.eq_of_beq_eq_true hb9, rfl, rfl⟩
        obtain ⟨e1a, e1b, e1c⟩ := e1
        replace e1b := e1b.symm
        replace e1c := e1c.symm
        subst e1a e1b e1c
        obtain ⟨la, z1, w1, c1, hfr, hlo, hst8, hlal, hla, hok1, hres⟩ := e_go_t hg h
        rcases z1 with (_ | v) | E
        · obtain ⟨z2, w2, c2, hK2, hok2⟩ := hg _ _ _ _ _ _ _ hres
          refine ⟨z2, w2, c2, hK2, Nat.le_trans hok1.1 hok2.1, Nat.le_trans hok1.2.1 hok2.2.1, Nat.le_trans hok1.2.2.1 hok2.2.2.1, ?_⟩
          intro p l e R s m args below meth cd Q ad D tys base nL as0 k0 s0 hC hf hl hk hs hc hsl hE
          have hok1' := hok1
          obtain ⟨b1, b2, b3, -⟩ := hok1'
          have hWG := hok2.2.2.2 p l e R s m args below meth cd Q ad D tys base nL as0 k0 s0 hC hf hl (by omega) (by omega) hc hsl hE
          obtain ⟨hx, hb⟩ := e_cc hM hq hC
          have d2 := hok2.2.1
          have d3 := hok2.2.2.1
          intro as ws H locs ls ys hS
          obtain ⟨h1, h2, h3, h4, h5, h6, h7⟩ := hS
          obtain ⟨tc, rc, rfl, ht1, ht2, ht3⟩ := e_st_app h2
          have hrv := e_st_rev ht2
          rw [htr] at hrv
          obtain ⟨x0, tc0, htc0, hrel0, hst0⟩ := e_st_cons hrv
          obtain ⟨b0, hb0, rfl⟩ := e_ref hrel0
          have htc : tc = tc0.reverse ++ [.ref b0] := by rw [← List.reverse_reverse tc, htc0, List.reverse_cons]
          have hlen0 : tc0.length = n := by
            have e1 := congrArg List.length htc
            simp [ht1, ht0] at e1
            omega
          have hwd : (rc.map fun v => v.category).sum ≤ 8 := by rw [e_stw_t ht3]; exact hst8
          have hM9 := e_met (ad := ad) (D := D) (tys := tys) (base := base) (as0 := as) (ws0 := ws) (l := l) hok1 hy hplain hC.1 hlal hla h3 h5
          have hpre : ∀ U : State, U.heap = H → s.WarmedH U.vm → e_Pc (y, F.2.1 - 1, F.2.2.1 - (mm + 19), F.2.2.2) ad D tys base as ws (Sum.inr (Sum.inl (some q)) :: t0) (Value.ref b0 :: tc0).toArray U := fun U hU hW => ⟨Value.ref b0 :: tc0, rfl, ⟨hrel0, hst0⟩, by rw [hU]; exact h4, by rw [hU]; exact Nat.le_trans hC.2.2.2.2.2.1 h6.1, e_Kx_warm hW hC.2.2.2.2.1, by
            rw [hU]
            exact e_sf_moved hW.alike (fun q hq hA => h6.2.1 q hq hA) (e_sf_F rfl hC.2.2.2.2.2.2.1)⟩
          rw [htr] at hM9
          have hrun := va_runVN (e := e) (below := below) (meth := meth) (C := C) (As := tc0) (b := b0) (rest := rc) (Ts := e_ws) (own := own) (H := H) (locs := locs) (cells := c.2.1 - k0) (slots := c.2.2 - s0) (g := F0 m pc ls (tc ++ rc)) ⟨hx, hb, rfl, e_own hM ho hC, hC.2.2.2.1⟩ hM9 ⟨va_cnB n hC.2.2.2.1 (e_good hcode) rfl rfl rfl (hC.2.2.2.2.1.2.2.1 _ (List.mem_filter.mpr ⟨hlink, rfl⟩)) (e_wd hC hini rfl) hdn ⟨by show F.2.1 - 1 + 1 ≤ R.frames; omega, by show 8 + (mm + 11) + (F.2.2.1 - (mm + 19)) ≤ R.locals; omega⟩, e_wd hC hinst rfl, e_wd hC hsel rfl⟩ ⟨e_Pc_blind, e_recv hC h3 h4 hb0 hc9 hcl, hpre⟩ rfl hlen0 (h1.2.choose_spec.1.1.trans (by obtain ⟨-, -, -, -, -, -, -, q9, -, -, r3, -⟩ := hC; exact r3.symm)) (by rw [htc]; simp) (lv_room hwd) hd ⟨by omega, by omega⟩
          refine e_runW hrun h6 (fun as1 ws1 H1 locs1 xo q1 q2 q3 q4 q5 q6 => ?_)
          have hfin := hWG as1 ws1 H1 locs1 ls (xo ++ rc) ⟨e_lo_mono h1 q1, by cases q6; exact e_st_mono q1 ht3, q2, q3, q4, q5, List.IsPrefix.trans h7 q1⟩
          subst hnx
          rw [show c.2.1 - k0 + (c1.2.1 - c.2.1) = c1.2.1 - k0 by omega, show c.2.2 - s0 + (c1.2.2 - c.2.2) = c1.2.2 - s0 by omega]
          exact hfin
        · obtain ⟨z2, w2, c2, hK2, hok2⟩ := hg _ _ _ _ _ _ _ hres
          refine ⟨z2, w2, c2, hK2, Nat.le_trans hok1.1 hok2.1, Nat.le_trans hok1.2.1 hok2.2.1, Nat.le_trans hok1.2.2.1 hok2.2.2.1, ?_⟩
          intro p l e R s m args below meth cd Q ad D tys base nL as0 k0 s0 hC hf hl hk hs hc hsl hE
          have hok1' := hok1
          obtain ⟨b1, b2, b3, -⟩ := hok1'
          have hWG := hok2.2.2.2 p l e R s m args below meth cd Q ad D tys base nL as0 k0 s0 hC hf hl (by omega) (by omega) hc hsl hE
          obtain ⟨hx, hb⟩ := e_cc hM hq hC
          have d2 := hok2.2.1
          have d3 := hok2.2.2.1
          intro as ws H locs ls ys hS
          obtain ⟨h1, h2, h3, h4, h5, h6, h7⟩ := hS
          obtain ⟨tc, rc, rfl, ht1, ht2, ht3⟩ := e_st_app h2
          have hrv := e_st_rev ht2
          rw [htr] at hrv
          obtain ⟨x0, tc0, htc0, hrel0, hst0⟩ := e_st_cons hrv
          obtain ⟨b0, hb0, rfl⟩ := e_ref hrel0
          have htc : tc = tc0.reverse ++ [.ref b0] := by rw [← List.reverse_reverse tc, htc0, List.reverse_cons]
          have hlen0 : tc0.length = n := by
            have e1 := congrArg List.length htc
            simp [ht1, ht0] at e1
            omega
          have hwd : (rc.map fun v => v.category).sum ≤ 8 := by rw [e_stw_t ht3]; exact hst8
          have hM9 := e_met (ad := ad) (D := D) (tys := tys) (base := base) (as0 := as) (ws0 := ws) (l := l) hok1 hy hplain hC.1 hlal hla h3 h5
          have hpre : ∀ U : State, U.heap = H → s.WarmedH U.vm → e_Pc (y, F.2.1 - 1, F.2.2.1 - (mm + 19), F.2.2.2) ad D tys base as ws (Sum.inr (Sum.inl (some q)) :: t0) (Value.ref b0 :: tc0).toArray U := fun U hU hW => ⟨Value.ref b0 :: tc0, rfl, ⟨hrel0, hst0⟩, by rw [hU]; exact h4, by rw [hU]; exact Nat.le_trans hC.2.2.2.2.2.1 h6.1, e_Kx_warm hW hC.2.2.2.2.1, by
            rw [hU]
            exact e_sf_moved hW.alike (fun q hq hA => h6.2.1 q hq hA) (e_sf_F rfl hC.2.2.2.2.2.2.1)⟩
          rw [htr] at hM9
          have hrun := va_runVN (e := e) (below := below) (meth := meth) (C := C) (As := tc0) (b := b0) (rest := rc) (Ts := e_ws) (own := own) (H := H) (locs := locs) (cells := c.2.1 - k0) (slots := c.2.2 - s0) (g := F0 m pc ls (tc ++ rc)) ⟨hx, hb, rfl, e_own hM ho hC, hC.2.2.2.1⟩ hM9 ⟨va_cnB n hC.2.2.2.1 (e_good hcode) rfl rfl rfl (hC.2.2.2.2.1.2.2.1 _ (List.mem_filter.mpr ⟨hlink, rfl⟩)) (e_wd hC hini rfl) hdn ⟨by show F.2.1 - 1 + 1 ≤ R.frames; omega, by show 8 + (mm + 11) + (F.2.2.1 - (mm + 19)) ≤ R.locals; omega⟩, e_wd hC hinst rfl, e_wd hC hsel rfl⟩ ⟨e_Pc_blind, e_recv hC h3 h4 hb0 hc9 hcl, hpre⟩ rfl hlen0 (h1.2.choose_spec.1.1.trans (by obtain ⟨-, -, -, -, -, -, -, q9, -, -, r3, -⟩ := hC; exact r3.symm)) (by rw [htc]; simp) (lv_room hwd) hd ⟨by omega, by omega⟩
          refine e_runW hrun h6 (fun as1 ws1 H1 locs1 xo q1 q2 q3 q4 q5 q6 => ?_)
          have hfin := hWG as1 ws1 H1 locs1 ls (xo ++ rc) ⟨e_lo_mono h1 q1, by obtain ⟨x, rfl, hx9⟩ := q6; exact ⟨hx9, e_st_mono q1 ht3⟩, q2, q3, q4, q5, List.IsPrefix.trans h7 q1⟩
          subst hnx
          rw [show c.2.1 - k0 + (c1.2.1 - c.2.1) = c1.2.1 - k0 by omega, show c.2.2 - s0 + (c1.2.2 - c.2.2) = c1.2.2 - s0 by omega]
          exact hfin
        · cases hres
      · cases h
    · cases h
  · cases h

end SN
