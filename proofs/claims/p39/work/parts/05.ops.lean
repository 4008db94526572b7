/-! THE HEAP'S PICTURE, THE FRAME, AND THE OPERATIONS -/
noncomputable def e_rat (rs : List (Nat × e_V)) (j : Nat) : Option e_V := e_rget rs j j
/-- what an array holds; tc: int, boolean, long, references -/
noncomputable def e_arr (ad : Nat → Nat) (as : List Nat) (rs : List (Nat × e_V)) (tc : Nat) (f : (Nat → Int32) ⊕ (Nat → Int64) ⊕ (Nat → UInt32) ⊕ (Nat → UInt64) ⊕ (Nat → Option Nat)) : Prop := match tc, f with
  | 0, .inl f => ∀ (j : Nat) (v : e_V), e_rat rs j = some v → e_rel ad as v (.int (f j))
  | 1, .inl f => ∀ (j : Nat) (v : e_V), e_rat rs j = some v → e_rel ad as v (.int (f j))
  | 2, .inr (.inl f) => ∀ (j : Nat) (v : e_V), e_rat rs j = some v → e_rel ad as v (.long (f j))
  | _ + 3, .inr (.inr (.inr (.inr f))) => ∀ (j : Nat) (v : e_V), e_rat rs j = some v → e_rel ad as v (va_rf (f j))
  | _, _ => False
theorem e_arr_mono {ad : Nat → Nat} {as as' : List Nat} (hp : as <+: as') {rs : List (Nat × e_V)} : ∀ {tc : Nat} {f : (Nat → Int32) ⊕ (Nat → Int64) ⊕ (Nat → UInt32) ⊕ (Nat → UInt64) ⊕ (Nat → Option Nat)}, e_arr ad as rs tc f → e_arr ad as' rs tc f
  | 0, .inl _, h => fun j v hv => e_rel_mono (h j v hv) hp
  | 1, .inl _, h => fun j v hv => e_rel_mono (h j v hv) hp
  | 2, .inr (.inl _), h => fun j v hv => e_rel_mono (h j v hv) hp
  | _ + 3, .inr (.inr (.inr (.inr _))), h => fun j v hv => e_rel_mono (h j v hv) hp
  | 0, .inr _, h => h.elim
  | 1, .inr _, h => h.elim
  | 2, .inl _, h => h.elim
  | 2, .inr (.inr _), h => h.elim
  | _ + 3, .inl _, h => h.elim
  | _ + 3, .inr (.inl _), h => h.elim
  | _ + 3, .inr (.inr (.inl _)), h => h.elim
  | _ + 3, .inr (.inr (.inr (.inl _))), h => h.elim
/-- a cell of the picture, and one of the world -/
noncomputable def e_ent (ad : Nat → Nat) (as : List Nat) (tys : List (ClassId × FieldType)) (x : e_C) (e : va_E) : Prop := match x, e with
  | .inl (ci, fs), .inr (cj, vs) => ci = cj ∧ fs.length = vs.length ∧ ∀ (k : Nat) (v : e_V), fs[k]? = some v → ∃ y, vs[k]? = some y ∧ e_rel ad as v y
  | .inr (tc, rs), .inl (cA, n, f) => (∃ ty, tys[tc]? = some (cA, ty)) ∧ n = e_rlen rs ∧ n < 2147483648 ∧ e_arr ad as rs tc f
  | _, _ => False
theorem e_ent_mono {ad : Nat → Nat} {as as' : List Nat} {tys : List (ClassId × FieldType)} (hp : as <+: as') : ∀ {x : e_C} {e : va_E}, e_ent ad as tys x e → e_ent ad as' tys x e
  | .inl (_, _), .inr (_, _), h => ⟨h.1, h.2.1, fun k v hv => by obtain ⟨y, a, b⟩ := h.2.2 k v hv; exact ⟨y, a, e_rel_mono b hp⟩⟩
  | .inr (_, _), .inl (_, _, _), h => ⟨h.1, h.2.1, h.2.2.1, e_arr_mono hp h.2.2.2⟩
  | .inl (_, _), .inl _, h => h.elim
  | .inr (_, _), .inr _, h => h.elim
noncomputable def e_wk (ad : Nat → Nat) (as : List Nat) (tys : List (ClassId × FieldType)) (w : e_W) (n : Nat) (ws : va_W) : Prop :=
  ws.map (·.1) = as ∧ ws.length = n ∧ n ≤ 8192 ∧ ∀ (i : Nat) (q : Nat × va_E), ws[i]? = some q → e_ent ad as tys (e_tget 13 w i) q.2
/-- the frame's picture: locals, stack, heap -/
noncomputable def e_S (ad : Nat → Nat) (D : va_G) (cl : List vw_C) (tys : List (ClassId × FieldType)) (A : Nat → Prop) (H0 : Heap) (nL : Nat) (as0 : List Nat) (al : e_A) (st : List e_V) (w : e_W) (n : Nat) (as : List Nat) (ws : va_W) (H : Heap) (locs : List Loc) (ls : Array Slot) (ys : List Value) : Prop :=
  e_lo ad as al ls nL ∧ e_st ad as st ys ∧ e_wk ad as tys w n ws ∧ va_P D cl ws H ∧ va_D A ws ∧ va_S A H0 H locs ∧ as0 <+: as
section EO
variable {p : Program} {l : Launch} {e : Env} {R : Room} {s : State} {m : MethodId} {args : Array Value} {below : List Frame} {meth : Method} {cd : Code} {Q : State → Prop} {cc : ByteArray}
variable {ad : Nat → Nat} {D : va_G} {cl : List vw_C} {tys : List (ClassId × FieldType)} {A : Nat → Prop} {H0 : Heap} {nL : Nat} {as0 : List Nat}
/-- from each state of the picture the frame comes to Q -/
noncomputable def e_WG (p : Program) (l : Launch) (e : Env) (R : Room) (s : State) (m : MethodId) (args : Array Value) (below : List Frame) (meth : Method) (cd : Code) (Q : State → Prop) (ad : Nat → Nat) (D : va_G) (cl : List vw_C) (tys : List (ClassId × FieldType)) (A : Nat → Prop) (H0 : Heap) (nL : Nat) (as0 : List Nat) (k0 s0 : Nat)
    (pc : Nat) (al : e_A) (st : List e_V) (w : e_W) (c : e_Q) : Prop :=
  ∀ (as : List Nat) (ws : va_W) (H : Heap) (locs : List Loc) (ls : Array Slot) (ys : List Value), e_S ad D cl tys A H0 nL as0 al st w c.1 as ws H locs ls ys →
    W p l e R s m args below meth cd H locs (c.2.1 - k0) (c.2.2 - s0) Q (F0 m pc ls ys)
variable {k0 s0 : Nat} {pc : Nat} {al : e_A} {st : List e_V} {w : e_W} {c : e_Q}
theorem e_iload {n nx : Nat} {v : e_V} (hx : p.tables.exec = Jvm.exec) (hb : cd.code = cc) {i : Instr} {len : Nat} (hd : decode cc pc = .ok (i, len)) (hnx : nx = pc + len) (hi : i = .iload n ∧ len = 2 ∨ (∃ k : Fin 4, k.val = n ∧ i = .iload_n k ∧ len = 1)) (hv : e_nth al n = some (some v)) (ok : e_okI v = true)
    (h : e_WG p l e R s m args below meth cd Q ad D cl tys A H0 nL as0 k0 s0 nx al (v :: st) w c) : e_WG p l e R s m args below meth cd Q ad D cl tys A H0 nL as0 k0 s0 pc al st w c := by
  intro as ws H locs ls ys hS
  obtain ⟨h1, h2, h3⟩ := hS
  obtain ⟨x, hl, hr⟩ := e_lo_at h1 hv
  obtain ⟨z, rfl⟩ := e_rel_I hr ok
  subst hnx
  rcases hi with ⟨rfl, rfl⟩ | ⟨k, hk, rfl, rfl⟩
  · exact lv_iload hx hb hd hl (h as ws H locs ls (.int z :: ys) ⟨h1, ⟨hr, h2⟩, h3⟩)
  · exact lv_iload_n hx hb hd hk hl (h as ws H locs ls (.int z :: ys) ⟨h1, ⟨hr, h2⟩, h3⟩)
theorem e_lload {n nx : Nat} {v : e_V} (hx : p.tables.exec = Jvm.exec) (hb : cd.code = cc) {i : Instr} {len : Nat} (hd : decode cc pc = .ok (i, len)) (hnx : nx = pc + len) (hi : i = .lload n ∧ len = 2 ∨ (∃ k : Fin 4, k.val = n ∧ i = .lload_n k ∧ len = 1)) (hv : e_nth al n = some (some v)) (ok : e_okL v = true)
    (h : e_WG p l e R s m args below meth cd Q ad D cl tys A H0 nL as0 k0 s0 nx al (v :: st) w c) : e_WG p l e R s m args below meth cd Q ad D cl tys A H0 nL as0 k0 s0 pc al st w c := by
  intro as ws H locs ls ys hS
  obtain ⟨h1, h2, h3⟩ := hS
  obtain ⟨x, hl, hr⟩ := e_lo_at h1 hv
  obtain ⟨z, rfl⟩ := e_rel_L hr ok
  subst hnx
  rcases hi with ⟨rfl, rfl⟩ | ⟨k, hk, rfl, rfl⟩
  · exact lv_lload hx hb hd hl (h as ws H locs ls (.long z :: ys) ⟨h1, ⟨hr, h2⟩, h3⟩)
  · exact lv_lload_n hx hb hd hk hl (h as ws H locs ls (.long z :: ys) ⟨h1, ⟨hr, h2⟩, h3⟩)
theorem e_aload {n nx : Nat} {v : e_V} (hx : p.tables.exec = Jvm.exec) (hb : cd.code = cc) {i : Instr} {len : Nat} (hd : decode cc pc = .ok (i, len)) (hnx : nx = pc + len) (hi : i = .aload n ∧ len = 2 ∨ (∃ k : Fin 4, k.val = n ∧ i = .aload_n k ∧ len = 1)) (hv : e_nth al n = some (some v)) (ok : e_okR v = true)
    (h : e_WG p l e R s m args below meth cd Q ad D cl tys A H0 nL as0 k0 s0 nx al (v :: st) w c) : e_WG p l e R s m args below meth cd Q ad D cl tys A H0 nL as0 k0 s0 pc al st w c := by
  intro as ws H locs ls ys hS
  obtain ⟨h1, h2, h3⟩ := hS
  obtain ⟨x, hl, hr⟩ := e_lo_at h1 hv
  subst hnx
  rcases hi with ⟨rfl, rfl⟩ | ⟨k, hk, rfl, rfl⟩ <;> rcases e_rel_R hr ok with rfl | ⟨a, rfl⟩
  · exact lv_aloadN hx hb hd hl (h as ws H locs ls (.null :: ys) ⟨h1, ⟨hr, h2⟩, h3⟩)
  · exact lv_aload hx hb hd hl (h as ws H locs ls (.ref a :: ys) ⟨h1, ⟨hr, h2⟩, h3⟩)
  · exact lv_aload_nN hx hb hd hk hl (h as ws H locs ls (.null :: ys) ⟨h1, ⟨hr, h2⟩, h3⟩)
  · exact lv_aload_n hx hb hd hk hl (h as ws H locs ls (.ref a :: ys) ⟨h1, ⟨hr, h2⟩, h3⟩)
/-- a store of one word -/
theorem e_lo_store {as : List Nat} {al al' : e_A} {ls ls' : Array Slot} {n : Nat} {v : e_V} {x : Value} {lv lv' : List (Nat × Value)} (hl : al.length = nL) (hr : e_rel ad as v x)
    (h3 : ∀ (i : Nat) (v : e_V), al[i]? = some (some v) → ∃ x, (i, x) ∈ lv ∧ e_rel ad as v x)
    (e1 : al'.length = al.length) (e2 : ∀ (j : Nat) (u : e_V), al'[j]? = some (some u) → (j = n ∧ some v = some u) ∨ (j ≠ n ∧ ∃ t, al[j]? = some (some t) ∧ (j + 1 ≠ n → t = u) ∧ (j + 1 = n → e_c1 (some t) = some u)))
    (hv : lv_has ls' nL lv') (hlv : (n, x) :: lv.filter (fun q => !(q.1 == n) && !(q.1 + 1 == n && q.2.category == 2)) = lv') : e_lo ad as al' ls' nL := by
  refine ⟨e1.trans hl, lv', hv, fun j u hj => ?_⟩
  subst hlv
  rcases e2 j u hj with ⟨rfl, e⟩ | ⟨hne, t, ht, f1, f2⟩
  · cases e
    exact ⟨x, List.mem_cons_self, hr⟩
  · obtain ⟨y, hy, hry⟩ := h3 j t ht
    by_cases hj1 : j + 1 = n
    · obtain ⟨rfl, hc⟩ := e_rel_1 hry (f2 hj1)
      exact ⟨y, List.mem_cons_of_mem _ (List.mem_filter.mpr ⟨hy, by simp [hne, hc]⟩), hry⟩
    · rw [← f1 hj1]
      exact ⟨y, List.mem_cons_of_mem _ (List.mem_filter.mpr ⟨hy, by simp [hne, hj1]⟩), hry⟩
theorem e_istore {n nx : Nat} {v : e_V} {al' : e_A} (hx : p.tables.exec = Jvm.exec) (hb : cd.code = cc) {i : Instr} {len : Nat} (hd : decode cc pc = .ok (i, len)) (hnx : nx = pc + len) (hi : i = .istore n ∧ len = 2 ∨ (∃ k : Fin 4, k.val = n ∧ i = .istore_n k ∧ len = 1)) (ok : e_okI v = true)
    (e1 : al'.length = al.length) (e3 : n < al.length) (e2 : ∀ (j : Nat) (u : e_V), al'[j]? = some (some u) → (j = n ∧ some v = some u) ∨ (j ≠ n ∧ ∃ t, al[j]? = some (some t) ∧ (j + 1 ≠ n → t = u) ∧ (j + 1 = n → e_c1 (some t) = some u)))
    (h : e_WG p l e R s m args below meth cd Q ad D cl tys A H0 nL as0 k0 s0 nx al' st w c) : e_WG p l e R s m args below meth cd Q ad D cl tys A H0 nL as0 k0 s0 pc al (v :: st) w c := by
  intro as ws H locs ls ys hS
  obtain ⟨⟨hl, lv, hlv, h3⟩, h2, h4⟩ := hS
  obtain ⟨x, ys, rfl, hr, h5⟩ := e_st_cons h2
  obtain ⟨z, rfl⟩ := e_rel_I hr ok
  subst hnx
  rcases hi with ⟨rfl, rfl⟩ | ⟨k, hk, rfl, rfl⟩
  · exact lv_istore hx hb hd hlv (by omega) rfl fun ls' hls' => h as ws H locs ls' ys ⟨e_lo_store (ls := ls) hl hr h3 e1 e2 hls' rfl, h5, h4⟩
  · exact lv_istore_n hx hb hd hk hlv (by omega) rfl fun ls' hls' => h as ws H locs ls' ys ⟨e_lo_store (ls := ls) hl hr h3 e1 e2 hls' rfl, h5, h4⟩
theorem e_astore {n nx : Nat} {v : e_V} {al' : e_A} (hx : p.tables.exec = Jvm.exec) (hb : cd.code = cc) {i : Instr} {len : Nat} (hd : decode cc pc = .ok (i, len)) (hnx : nx = pc + len) (hi : i = .astore n ∧ len = 2 ∨ (∃ k : Fin 4, k.val = n ∧ i = .astore_n k ∧ len = 1)) (ok : e_okR v = true)
    (e1 : al'.length = al.length) (e3 : n < al.length) (e2 : ∀ (j : Nat) (u : e_V), al'[j]? = some (some u) → (j = n ∧ some v = some u) ∨ (j ≠ n ∧ ∃ t, al[j]? = some (some t) ∧ (j + 1 ≠ n → t = u) ∧ (j + 1 = n → e_c1 (some t) = some u)))
    (h : e_WG p l e R s m args below meth cd Q ad D cl tys A H0 nL as0 k0 s0 nx al' st w c) : e_WG p l e R s m args below meth cd Q ad D cl tys A H0 nL as0 k0 s0 pc al (v :: st) w c := by
  intro as ws H locs ls ys hS
  obtain ⟨⟨hl, lv, hlv, h3⟩, h2, h4⟩ := hS
  obtain ⟨x, ys, rfl, hr, h5⟩ := e_st_cons h2
  subst hnx
  rcases hi with ⟨rfl, rfl⟩ | ⟨k, hk, rfl, rfl⟩ <;> rcases e_rel_R hr ok with rfl | ⟨a, rfl⟩
  · exact lv_astoreN hx hb hd hlv (by omega) rfl fun ls' hls' => h as ws H locs ls' ys ⟨e_lo_store (ls := ls) hl hr h3 e1 e2 hls' rfl, h5, h4⟩
  · exact lv_astore hx hb hd hlv (by omega) rfl fun ls' hls' => h as ws H locs ls' ys ⟨e_lo_store (ls := ls) hl hr h3 e1 e2 hls' rfl, h5, h4⟩
  · exact lv_astore_nN hx hb hd hk hlv (by omega) rfl fun ls' hls' => h as ws H locs ls' ys ⟨e_lo_store (ls := ls) hl hr h3 e1 e2 hls' rfl, h5, h4⟩
  · exact lv_astore_n hx hb hd hk hlv (by omega) rfl fun ls' hls' => h as ws H locs ls' ys ⟨e_lo_store (ls := ls) hl hr h3 e1 e2 hls' rfl, h5, h4⟩
/-- an instruction that changes the stack alone, or jumps -/
theorem e_pure {nx : Nat} {st' : List e_V} (hrow : ∀ (as : List Nat) (ys : List Value), e_st ad as st ys → ∃ ys', e_st ad as st' ys' ∧ ∀ (H : Heap) (locs : List Loc) (cells slots : Nat) (ls : Array Slot), W p l e R s m args below meth cd H locs cells slots Q (F0 m nx ls ys') → W p l e R s m args below meth cd H locs cells slots Q (F0 m pc ls ys))
    (h : e_WG p l e R s m args below meth cd Q ad D cl tys A H0 nL as0 k0 s0 nx al st' w c) : e_WG p l e R s m args below meth cd Q ad D cl tys A H0 nL as0 k0 s0 pc al st w c := by
  intro as ws H locs ls ys hS
  obtain ⟨h1, h2, h3⟩ := hS
  obtain ⟨ys', h4, h5⟩ := hrow as ys h2
  exact h5 _ _ _ _ _ (h as ws H locs ls ys' ⟨h1, h4, h3⟩)
theorem e_push1 {nx : Nat} {v : e_V} {x : Value} (hr : ∀ as, e_rel ad as v x) (hrow : ∀ (H : Heap) (locs : List Loc) (cells slots : Nat) (ls : Array Slot) (ys : List Value), W p l e R s m args below meth cd H locs cells slots Q (F0 m nx ls (x :: ys)) → W p l e R s m args below meth cd H locs cells slots Q (F0 m pc ls ys))
    (h : e_WG p l e R s m args below meth cd Q ad D cl tys A H0 nL as0 k0 s0 nx al (v :: st) w c) : e_WG p l e R s m args below meth cd Q ad D cl tys A H0 nL as0 k0 s0 pc al st w c := e_pure (st' := v :: st) (fun as ys h2 => ⟨x :: ys, ⟨hr as, h2⟩, fun H locs cells slots ls k => hrow H locs cells slots ls ys k⟩) h
theorem e_iconst {nx z : Nat} {n : Int} (hx : p.tables.exec = Jvm.exec) (hb : cd.code = cc) (hd : decode cc pc = .ok (.iconst n, 1)) (hnx : nx = pc + 1) (hz : Int32.ofInt n = e_i z ∧ z < 4294967296) (h : e_WG p l e R s m args below meth cd Q ad D cl tys A H0 nL as0 k0 s0 nx al (.inl z :: st) w c) : e_WG p l e R s m args below meth cd Q ad D cl tys A H0 nL as0 k0 s0 pc al st w c :=
  e_push1 (v := .inl z) (x := .int (e_i z)) (fun _ => ⟨hz.2, rfl⟩) (fun H locs cells slots ls ys k => by subst hnx; exact lv_iconst hx hb hd hz.1 k) h
theorem e_bipush {nx z : Nat} {n : Int} (hx : p.tables.exec = Jvm.exec) (hb : cd.code = cc) (hd : decode cc pc = .ok (.bipush n, 2)) (hnx : nx = pc + 2) (hz : (Int8.ofInt n).toInt32 = e_i z ∧ z < 4294967296) (h : e_WG p l e R s m args below meth cd Q ad D cl tys A H0 nL as0 k0 s0 nx al (.inl z :: st) w c) : e_WG p l e R s m args below meth cd Q ad D cl tys A H0 nL as0 k0 s0 pc al st w c :=
  e_push1 (v := .inl z) (x := .int (e_i z)) (fun _ => ⟨hz.2, rfl⟩) (fun H locs cells slots ls ys k => by subst hnx; exact lv_bipush hx hb hd hz.1 k) h
theorem e_sipush {nx z : Nat} {n : Int} (hx : p.tables.exec = Jvm.exec) (hb : cd.code = cc) (hd : decode cc pc = .ok (.sipush n, 3)) (hnx : nx = pc + 3) (hz : (Int16.ofInt n).toInt32 = e_i z ∧ z < 4294967296) (h : e_WG p l e R s m args below meth cd Q ad D cl tys A H0 nL as0 k0 s0 nx al (.inl z :: st) w c) : e_WG p l e R s m args below meth cd Q ad D cl tys A H0 nL as0 k0 s0 pc al st w c :=
  e_push1 (v := .inl z) (x := .int (e_i z)) (fun _ => ⟨hz.2, rfl⟩) (fun H locs cells slots ls ys k => by subst hnx; exact lv_sipush hx hb hd hz.1 k) h
theorem e_lconst {nx z : Nat} {n : Fin 2} (hx : p.tables.exec = Jvm.exec) (hb : cd.code = cc) (hd : decode cc pc = .ok (.lconst n, 1)) (hnx : nx = pc + 1) (hz : Int64.ofNat (n : Nat) = e_l z ∧ z < 18446744073709551616) (h : e_WG p l e R s m args below meth cd Q ad D cl tys A H0 nL as0 k0 s0 nx al (.inr (.inr (.inl z)) :: st) w c) : e_WG p l e R s m args below meth cd Q ad D cl tys A H0 nL as0 k0 s0 pc al st w c :=
  e_push1 (v := .inr (.inr (.inl z))) (x := .long (e_l z)) (fun _ => ⟨hz.2, rfl⟩) (fun H locs cells slots ls ys k => by subst hnx; exact lv_lconst hx hb hd hz.1 k) h
theorem e_ldc2 {nx z index : Nat} {own : String} {v : Int64} (hx : p.tables.exec = Jvm.exec) (hb : cd.code = cc) (hown : s.vm.findClass own = some m.cls) (hconst : (Jvm.Cond.constantLong own index v).before args s = true) (hd : decode cc pc = .ok (.ldc2_w index, 3)) (hnx : nx = pc + 3) (hz : v = e_l z ∧ z < 18446744073709551616) (h : e_WG p l e R s m args below meth cd Q ad D cl tys A H0 nL as0 k0 s0 nx al (.inr (.inr (.inl z)) :: st) w c) : e_WG p l e R s m args below meth cd Q ad D cl tys A H0 nL as0 k0 s0 pc al st w c :=
  e_push1 (v := .inr (.inr (.inl z))) (x := .long (e_l z)) (fun _ => ⟨hz.2, rfl⟩) (fun H locs cells slots ls ys k => by subst hnx; rw [← hz.1] at k; exact lv_ldc2 hx hb hown hconst hd k) h
theorem e_ldc {nx z index : Nat} {own : String} {v : Int32} (hx : p.tables.exec = Jvm.exec) (hb : cd.code = cc) (hown : s.vm.findClass own = some m.cls) (hconst : (Jvm.Cond.constant own index v).before args s = true) (hd : decode cc pc = .ok (.ldc index, 2)) (hnx : nx = pc + 2) (hz : v = e_i z ∧ z < 4294967296) (h : e_WG p l e R s m args below meth cd Q ad D cl tys A H0 nL as0 k0 s0 nx al (.inl z :: st) w c) : e_WG p l e R s m args below meth cd Q ad D cl tys A H0 nL as0 k0 s0 pc al st w c :=
  e_push1 (v := .inl z) (x := .int (e_i z)) (fun _ => ⟨hz.2, rfl⟩) (fun H locs cells slots ls ys k => by subst hnx; rw [← hz.1] at k; exact lv_ldc hx hb hown hconst hd k) h
theorem e_null {nx : Nat} (hx : p.tables.exec = Jvm.exec) (hb : cd.code = cc) (hd : decode cc pc = .ok (.aconst_null, 1)) (hnx : nx = pc + 1) (h : e_WG p l e R s m args below meth cd Q ad D cl tys A H0 nL as0 k0 s0 nx al (.inr (.inl none) :: st) w c) : e_WG p l e R s m args below meth cd Q ad D cl tys A H0 nL as0 k0 s0 pc al st w c :=
  e_push1 (v := .inr (.inl none)) (x := .null) (fun _ => rfl) (fun H locs cells slots ls ys k => by subst hnx; exact lv_null hx hb hd k) h
theorem e_is1_t {as : List Nat} {v : e_V} {x : Value} (h : e_rel ad as v x) (h1 : e_is1 v = true) : x.category = 1 := by
  unfold e_is1 at h1
  split at h1
  · next u hu => exact (e_rel_1 h hu).2
  · cases h1
theorem e_dup {nx : Nat} {v : e_V} {r : List e_V} (hx : p.tables.exec = Jvm.exec) (hb : cd.code = cc) (hd : decode cc pc = .ok (.dup, 1)) (hnx : nx = pc + 1) (h1 : e_is1 v = true) (h : e_WG p l e R s m args below meth cd Q ad D cl tys A H0 nL as0 k0 s0 nx al (v :: v :: r) w c) : e_WG p l e R s m args below meth cd Q ad D cl tys A H0 nL as0 k0 s0 pc al (v :: r) w c :=
  e_pure (st' := v :: v :: r) (fun as ys h2 => by
    obtain ⟨x, y, rfl, a, b⟩ := e_st_cons h2
    exact ⟨x :: x :: y, ⟨a, a, b⟩, fun H locs cells slots ls k => by subst hnx; exact lv_dup hx hb hd (e_is1_t a h1) k⟩) h
theorem e_dup_x1 {nx : Nat} {v u : e_V} {r : List e_V} (hx : p.tables.exec = Jvm.exec) (hb : cd.code = cc) (hd : decode cc pc = .ok (.dup_x1, 1)) (hnx : nx = pc + 1) (h1 : e_is1 v = true) (h6 : e_is1 u = true) (h : e_WG p l e R s m args below meth cd Q ad D cl tys A H0 nL as0 k0 s0 nx al (v :: u :: v :: r) w c) : e_WG p l e R s m args below meth cd Q ad D cl tys A H0 nL as0 k0 s0 pc al (v :: u :: r) w c :=
  e_pure (st' := v :: u :: v :: r) (fun as ys h2 => by
    obtain ⟨x, y, rfl, a, h2⟩ := e_st_cons h2
    obtain ⟨x2, y, rfl, a2, b⟩ := e_st_cons h2
    exact ⟨x :: x2 :: x :: y, ⟨a, a2, a, b⟩, fun H locs cells slots ls k => by subst hnx; exact lv_dup_x1 hx hb hd (e_is1_t a h1) (e_is1_t a2 h6) k⟩) h
theorem e_dup2 {nx : Nat} {v u : e_V} {r : List e_V} (hx : p.tables.exec = Jvm.exec) (hb : cd.code = cc) (hd : decode cc pc = .ok (.dup2, 1)) (hnx : nx = pc + 1) (h1 : e_is1 v = true) (h6 : e_is1 u = true) (h : e_WG p l e R s m args below meth cd Q ad D cl tys A H0 nL as0 k0 s0 nx al (v :: u :: v :: u :: r) w c) : e_WG p l e R s m args below meth cd Q ad D cl tys A H0 nL as0 k0 s0 pc al (v :: u :: r) w c :=
  e_pure (st' := v :: u :: v :: u :: r) (fun as ys h2 => by
    obtain ⟨x, y, rfl, a, h2⟩ := e_st_cons h2
    obtain ⟨x2, y, rfl, a2, b⟩ := e_st_cons h2
    exact ⟨x :: x2 :: x :: x2 :: y, ⟨a, a2, a, a2, b⟩, fun H locs cells slots ls k => by subst hnx; exact lv_dup2_11 hx hb hd (e_is1_t a h1) (e_is1_t a2 h6) k⟩) h
theorem e_pop {nx : Nat} {v : e_V} {r : List e_V} (hx : p.tables.exec = Jvm.exec) (hb : cd.code = cc) (hd : decode cc pc = .ok (.pop, 1)) (hnx : nx = pc + 1) (h1 : e_is1 v = true) (h : e_WG p l e R s m args below meth cd Q ad D cl tys A H0 nL as0 k0 s0 nx al r w c) : e_WG p l e R s m args below meth cd Q ad D cl tys A H0 nL as0 k0 s0 pc al (v :: r) w c :=
  e_pure (st' := r) (fun as ys h2 => by
    obtain ⟨x, y, rfl, a, b⟩ := e_st_cons h2
    exact ⟨y, b, fun H locs cells slots ls k => by subst hnx; exact lv_pop hx hb hd (e_is1_t a h1) k⟩) h
/-- two ints that give one -/
theorem e_b2 {nx : Nat} {a b v : e_V} {r : List e_V} (g : Int32 → Int32 → Int32) (hg : ∀ as x y, e_rel ad as a x → e_rel ad as b y → ∃ x1 y1, x = .int x1 ∧ y = .int y1 ∧ e_rel ad as v (.int (g x1 y1)))
    (hrow : ∀ (x y : Int32), (∃ as, e_rel ad as b (.int y)) → ∀ (H : Heap) (locs : List Loc) (cells slots : Nat) (ls : Array Slot) (ys : List Value), W p l e R s m args below meth cd H locs cells slots Q (F0 m nx ls (.int (g x y) :: ys)) → W p l e R s m args below meth cd H locs cells slots Q (F0 m pc ls (.int y :: .int x :: ys)))
    (h : e_WG p l e R s m args below meth cd Q ad D cl tys A H0 nL as0 k0 s0 nx al (v :: r) w c) : e_WG p l e R s m args below meth cd Q ad D cl tys A H0 nL as0 k0 s0 pc al (b :: a :: r) w c :=
  e_pure (st' := v :: r) (fun as ys h2 => by
    obtain ⟨y, ys, rfl, hy, h3⟩ := e_st_cons h2
    obtain ⟨x, ys, rfl, hx, h4⟩ := e_st_cons h3
    obtain ⟨x1, y1, rfl, rfl, hv⟩ := hg as x y hx hy
    exact ⟨.int (g x1 y1) :: ys, ⟨hv, h4⟩, fun H locs cells slots ls k => hrow x1 y1 ⟨as, hy⟩ H locs cells slots ls ys k⟩) h
theorem e_b2L {nx : Nat} {a b v : e_V} {r : List e_V} (g : Int64 → Int64 → Int64) (hg : ∀ as x y, e_rel ad as a x → e_rel ad as b y → ∃ x1 y1, x = .long x1 ∧ y = .long y1 ∧ e_rel ad as v (.long (g x1 y1)))
    (hrow : ∀ (x y : Int64), (∃ as, e_rel ad as b (.long y)) → ∀ (H : Heap) (locs : List Loc) (cells slots : Nat) (ls : Array Slot) (ys : List Value), W p l e R s m args below meth cd H locs cells slots Q (F0 m nx ls (.long (g x y) :: ys)) → W p l e R s m args below meth cd H locs cells slots Q (F0 m pc ls (.long y :: .long x :: ys)))
    (h : e_WG p l e R s m args below meth cd Q ad D cl tys A H0 nL as0 k0 s0 nx al (v :: r) w c) : e_WG p l e R s m args below meth cd Q ad D cl tys A H0 nL as0 k0 s0 pc al (b :: a :: r) w c :=
  e_pure (st' := v :: r) (fun as ys h2 => by
    obtain ⟨y, ys, rfl, hy, h3⟩ := e_st_cons h2
    obtain ⟨x, ys, rfl, hx, h4⟩ := e_st_cons h3
    obtain ⟨x1, y1, rfl, rfl, hv⟩ := hg as x y hx hy
    exact ⟨.long (g x1 y1) :: ys, ⟨hv, h4⟩, fun H locs cells slots ls k => hrow x1 y1 ⟨as, hy⟩ H locs cells slots ls ys k⟩) h
theorem e_u1 {nx : Nat} {a v : e_V} {r : List e_V} (hg : ∀ as x, e_rel ad as a x → ∃ x2, e_rel ad as v x2 ∧ ∀ (H : Heap) (locs : List Loc) (cells slots : Nat) (ls : Array Slot) (ys : List Value), W p l e R s m args below meth cd H locs cells slots Q (F0 m nx ls (x2 :: ys)) → W p l e R s m args below meth cd H locs cells slots Q (F0 m pc ls (x :: ys)))
    (h : e_WG p l e R s m args below meth cd Q ad D cl tys A H0 nL as0 k0 s0 nx al (v :: r) w c) : e_WG p l e R s m args below meth cd Q ad D cl tys A H0 nL as0 k0 s0 pc al (a :: r) w c :=
  e_pure (st' := v :: r) (fun as ys h2 => by
    obtain ⟨x, ys, rfl, hx, h2⟩ := e_st_cons h2
    obtain ⟨x2, hv, hr⟩ := hg as x hx
    exact ⟨x2 :: ys, ⟨hv, h2⟩, fun H locs cells slots ls k => hr H locs cells slots ls ys k⟩) h
theorem e_iadd {nx : Nat} {a b v : e_V} {r : List e_V} (hx : p.tables.exec = Jvm.exec) (hb : cd.code = cc) (hd : decode cc pc = .ok (.iadd, 1)) (hnx : nx = pc + 1) (hg : ∀ as x y, e_rel ad as a x → e_rel ad as b y → ∃ x1 y1, x = .int x1 ∧ y = .int y1 ∧ e_rel ad as v (.int ((fun x y : Int32 => x + y) x1 y1))) (h : e_WG p l e R s m args below meth cd Q ad D cl tys A H0 nL as0 k0 s0 nx al (v :: r) w c) : e_WG p l e R s m args below meth cd Q ad D cl tys A H0 nL as0 k0 s0 pc al (b :: a :: r) w c :=
  e_b2 (fun x y : Int32 => x + y) hg (fun x y _ H locs cells slots ls ys k => by subst hnx; exact lv_iadd hx hb hd k) h
theorem e_isub {nx : Nat} {a b v : e_V} {r : List e_V} (hx : p.tables.exec = Jvm.exec) (hb : cd.code = cc) (hd : decode cc pc = .ok (.isub, 1)) (hnx : nx = pc + 1) (hg : ∀ as x y, e_rel ad as a x → e_rel ad as b y → ∃ x1 y1, x = .int x1 ∧ y = .int y1 ∧ e_rel ad as v (.int ((fun x y : Int32 => x - y) x1 y1))) (h : e_WG p l e R s m args below meth cd Q ad D cl tys A H0 nL as0 k0 s0 nx al (v :: r) w c) : e_WG p l e R s m args below meth cd Q ad D cl tys A H0 nL as0 k0 s0 pc al (b :: a :: r) w c :=
  e_b2 (fun x y : Int32 => x - y) hg (fun x y _ H locs cells slots ls ys k => by subst hnx; exact lv_isub hx hb hd k) h
theorem e_imul {nx : Nat} {a b v : e_V} {r : List e_V} (hx : p.tables.exec = Jvm.exec) (hb : cd.code = cc) (hd : decode cc pc = .ok (.imul, 1)) (hnx : nx = pc + 1) (hg : ∀ as x y, e_rel ad as a x → e_rel ad as b y → ∃ x1 y1, x = .int x1 ∧ y = .int y1 ∧ e_rel ad as v (.int ((fun x y : Int32 => x * y) x1 y1))) (h : e_WG p l e R s m args below meth cd Q ad D cl tys A H0 nL as0 k0 s0 nx al (v :: r) w c) : e_WG p l e R s m args below meth cd Q ad D cl tys A H0 nL as0 k0 s0 pc al (b :: a :: r) w c :=
  e_b2 (fun x y : Int32 => x * y) hg (fun x y _ H locs cells slots ls ys k => by subst hnx; exact lv_imul hx hb hd k) h
theorem e_iand {nx : Nat} {a b v : e_V} {r : List e_V} (hx : p.tables.exec = Jvm.exec) (hb : cd.code = cc) (hd : decode cc pc = .ok (.iand, 1)) (hnx : nx = pc + 1) (hg : ∀ as x y, e_rel ad as a x → e_rel ad as b y → ∃ x1 y1, x = .int x1 ∧ y = .int y1 ∧ e_rel ad as v (.int ((fun x y : Int32 => x &&& y) x1 y1))) (h : e_WG p l e R s m args below meth cd Q ad D cl tys A H0 nL as0 k0 s0 nx al (v :: r) w c) : e_WG p l e R s m args below meth cd Q ad D cl tys A H0 nL as0 k0 s0 pc al (b :: a :: r) w c :=
  e_b2 (fun x y : Int32 => x &&& y) hg (fun x y _ H locs cells slots ls ys k => by subst hnx; exact lv_iand hx hb hd k) h
theorem e_ior {nx : Nat} {a b v : e_V} {r : List e_V} (hx : p.tables.exec = Jvm.exec) (hb : cd.code = cc) (hd : decode cc pc = .ok (.ior, 1)) (hnx : nx = pc + 1) (hg : ∀ as x y, e_rel ad as a x → e_rel ad as b y → ∃ x1 y1, x = .int x1 ∧ y = .int y1 ∧ e_rel ad as v (.int ((fun x y : Int32 => x ||| y) x1 y1))) (h : e_WG p l e R s m args below meth cd Q ad D cl tys A H0 nL as0 k0 s0 nx al (v :: r) w c) : e_WG p l e R s m args below meth cd Q ad D cl tys A H0 nL as0 k0 s0 pc al (b :: a :: r) w c :=
  e_b2 (fun x y : Int32 => x ||| y) hg (fun x y _ H locs cells slots ls ys k => by subst hnx; exact lv_ior hx hb hd k) h
theorem e_ixor {nx : Nat} {a b v : e_V} {r : List e_V} (hx : p.tables.exec = Jvm.exec) (hb : cd.code = cc) (hd : decode cc pc = .ok (.ixor, 1)) (hnx : nx = pc + 1) (hg : ∀ as x y, e_rel ad as a x → e_rel ad as b y → ∃ x1 y1, x = .int x1 ∧ y = .int y1 ∧ e_rel ad as v (.int ((fun x y : Int32 => x ^^^ y) x1 y1))) (h : e_WG p l e R s m args below meth cd Q ad D cl tys A H0 nL as0 k0 s0 nx al (v :: r) w c) : e_WG p l e R s m args below meth cd Q ad D cl tys A H0 nL as0 k0 s0 pc al (b :: a :: r) w c :=
  e_b2 (fun x y : Int32 => x ^^^ y) hg (fun x y _ H locs cells slots ls ys k => by subst hnx; exact lv_ixor hx hb hd k) h
theorem e_ishl {nx : Nat} {a b v : e_V} {r : List e_V} (hx : p.tables.exec = Jvm.exec) (hb : cd.code = cc) (hd : decode cc pc = .ok (.ishl, 1)) (hnx : nx = pc + 1) (hg : ∀ as x y, e_rel ad as a x → e_rel ad as b y → ∃ x1 y1, x = .int x1 ∧ y = .int y1 ∧ e_rel ad as v (.int ((fun x y : Int32 => x <<< (y &&& 31)) x1 y1))) (h : e_WG p l e R s m args below meth cd Q ad D cl tys A H0 nL as0 k0 s0 nx al (v :: r) w c) : e_WG p l e R s m args below meth cd Q ad D cl tys A H0 nL as0 k0 s0 pc al (b :: a :: r) w c :=
  e_b2 (fun x y : Int32 => x <<< (y &&& 31)) hg (fun x y _ H locs cells slots ls ys k => by subst hnx; exact lv_ishl hx hb hd k) h
theorem e_ishr {nx : Nat} {a b v : e_V} {r : List e_V} (hx : p.tables.exec = Jvm.exec) (hb : cd.code = cc) (hd : decode cc pc = .ok (.ishr, 1)) (hnx : nx = pc + 1) (hg : ∀ as x y, e_rel ad as a x → e_rel ad as b y → ∃ x1 y1, x = .int x1 ∧ y = .int y1 ∧ e_rel ad as v (.int ((fun x y : Int32 => x >>> (y &&& 31)) x1 y1))) (h : e_WG p l e R s m args below meth cd Q ad D cl tys A H0 nL as0 k0 s0 nx al (v :: r) w c) : e_WG p l e R s m args below meth cd Q ad D cl tys A H0 nL as0 k0 s0 pc al (b :: a :: r) w c :=
  e_b2 (fun x y : Int32 => x >>> (y &&& 31)) hg (fun x y _ H locs cells slots ls ys k => by subst hnx; exact lv_ishr hx hb hd k) h
theorem e_iushr {nx : Nat} {a b v : e_V} {r : List e_V} (hx : p.tables.exec = Jvm.exec) (hb : cd.code = cc) (hd : decode cc pc = .ok (.iushr, 1)) (hnx : nx = pc + 1) (hg : ∀ as x y, e_rel ad as a x → e_rel ad as b y → ∃ x1 y1, x = .int x1 ∧ y = .int y1 ∧ e_rel ad as v (.int ((fun x y : Int32 => (x.toUInt32 >>> (y.toUInt32 &&& Int32.toUInt32 31)).toInt32) x1 y1))) (h : e_WG p l e R s m args below meth cd Q ad D cl tys A H0 nL as0 k0 s0 nx al (v :: r) w c) : e_WG p l e R s m args below meth cd Q ad D cl tys A H0 nL as0 k0 s0 pc al (b :: a :: r) w c :=
  e_b2 (fun x y : Int32 => (x.toUInt32 >>> (y.toUInt32 &&& Int32.toUInt32 31)).toInt32) hg (fun x y _ H locs cells slots ls ys k => by subst hnx; exact lv_iushr hx hb hd rfl k) h
theorem e_idiv {nx : Nat} {a b v : e_V} {r : List e_V} (hx : p.tables.exec = Jvm.exec) (hb : cd.code = cc) (hd : decode cc pc = .ok (.idiv, 1)) (hnx : nx = pc + 1) (h0 : ∀ as y, e_rel ad as b (.int y) → ¬ y = 0) (hg : ∀ as x y, e_rel ad as a x → e_rel ad as b y → ∃ x1 y1, x = .int x1 ∧ y = .int y1 ∧ e_rel ad as v (.int ((fun x y : Int32 => x / y) x1 y1))) (h : e_WG p l e R s m args below meth cd Q ad D cl tys A H0 nL as0 k0 s0 nx al (v :: r) w c) : e_WG p l e R s m args below meth cd Q ad D cl tys A H0 nL as0 k0 s0 pc al (b :: a :: r) w c :=
  e_b2 (fun x y : Int32 => x / y) hg (fun x y hy H locs cells slots ls ys k => by subst hnx; obtain ⟨as, hy⟩ := hy; exact lv_idiv hx hb hd (h0 as y hy) k) h
theorem e_irem {nx : Nat} {a b v : e_V} {r : List e_V} (hx : p.tables.exec = Jvm.exec) (hb : cd.code = cc) (hd : decode cc pc = .ok (.irem, 1)) (hnx : nx = pc + 1) (h0 : ∀ as y, e_rel ad as b (.int y) → ¬ y = 0) (hg : ∀ as x y, e_rel ad as a x → e_rel ad as b y → ∃ x1 y1, x = .int x1 ∧ y = .int y1 ∧ e_rel ad as v (.int ((fun x y : Int32 => x - x / y * y) x1 y1))) (h : e_WG p l e R s m args below meth cd Q ad D cl tys A H0 nL as0 k0 s0 nx al (v :: r) w c) : e_WG p l e R s m args below meth cd Q ad D cl tys A H0 nL as0 k0 s0 pc al (b :: a :: r) w c :=
  e_b2 (fun x y : Int32 => x - x / y * y) hg (fun x y hy H locs cells slots ls ys k => by subst hnx; obtain ⟨as, hy⟩ := hy; exact lv_irem hx hb hd (h0 as y hy) k) h
theorem e_ladd {nx : Nat} {a b v : e_V} {r : List e_V} (hx : p.tables.exec = Jvm.exec) (hb : cd.code = cc) (hd : decode cc pc = .ok (.ladd, 1)) (hnx : nx = pc + 1) (hg : ∀ as x y, e_rel ad as a x → e_rel ad as b y → ∃ x1 y1, x = .long x1 ∧ y = .long y1 ∧ e_rel ad as v (.long ((fun x y : Int64 => x + y) x1 y1))) (h : e_WG p l e R s m args below meth cd Q ad D cl tys A H0 nL as0 k0 s0 nx al (v :: r) w c) : e_WG p l e R s m args below meth cd Q ad D cl tys A H0 nL as0 k0 s0 pc al (b :: a :: r) w c :=
  e_b2L (fun x y : Int64 => x + y) hg (fun x y _ H locs cells slots ls ys k => by subst hnx; exact lv_ladd hx hb hd k) h
theorem e_lsub {nx : Nat} {a b v : e_V} {r : List e_V} (hx : p.tables.exec = Jvm.exec) (hb : cd.code = cc) (hd : decode cc pc = .ok (.lsub, 1)) (hnx : nx = pc + 1) (hg : ∀ as x y, e_rel ad as a x → e_rel ad as b y → ∃ x1 y1, x = .long x1 ∧ y = .long y1 ∧ e_rel ad as v (.long ((fun x y : Int64 => x - y) x1 y1))) (h : e_WG p l e R s m args below meth cd Q ad D cl tys A H0 nL as0 k0 s0 nx al (v :: r) w c) : e_WG p l e R s m args below meth cd Q ad D cl tys A H0 nL as0 k0 s0 pc al (b :: a :: r) w c :=
  e_b2L (fun x y : Int64 => x - y) hg (fun x y _ H locs cells slots ls ys k => by subst hnx; exact lv_lsub hx hb hd k) h
theorem e_lmul {nx : Nat} {a b v : e_V} {r : List e_V} (hx : p.tables.exec = Jvm.exec) (hb : cd.code = cc) (hd : decode cc pc = .ok (.lmul, 1)) (hnx : nx = pc + 1) (hg : ∀ as x y, e_rel ad as a x → e_rel ad as b y → ∃ x1 y1, x = .long x1 ∧ y = .long y1 ∧ e_rel ad as v (.long ((fun x y : Int64 => x * y) x1 y1))) (h : e_WG p l e R s m args below meth cd Q ad D cl tys A H0 nL as0 k0 s0 nx al (v :: r) w c) : e_WG p l e R s m args below meth cd Q ad D cl tys A H0 nL as0 k0 s0 pc al (b :: a :: r) w c :=
  e_b2L (fun x y : Int64 => x * y) hg (fun x y _ H locs cells slots ls ys k => by subst hnx; exact lv_lmul hx hb hd k) h
theorem e_ldiv {nx : Nat} {a b v : e_V} {r : List e_V} (hx : p.tables.exec = Jvm.exec) (hb : cd.code = cc) (hd : decode cc pc = .ok (.ldiv, 1)) (hnx : nx = pc + 1) (h0 : ∀ as y, e_rel ad as b (.long y) → ¬ y = 0) (hg : ∀ as x y, e_rel ad as a x → e_rel ad as b y → ∃ x1 y1, x = .long x1 ∧ y = .long y1 ∧ e_rel ad as v (.long ((fun x y : Int64 => x / y) x1 y1))) (h : e_WG p l e R s m args below meth cd Q ad D cl tys A H0 nL as0 k0 s0 nx al (v :: r) w c) : e_WG p l e R s m args below meth cd Q ad D cl tys A H0 nL as0 k0 s0 pc al (b :: a :: r) w c :=
  e_b2L (fun x y : Int64 => x / y) hg (fun x y hy H locs cells slots ls ys k => by subst hnx; obtain ⟨as, hy⟩ := hy; exact lv_ldiv hx hb hd (h0 as y hy) k) h
end EO
