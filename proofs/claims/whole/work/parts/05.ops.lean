/-! THE HEAP'S PICTURE, THE FRAME, AND THE OPERATIONS -/
def e_rat (rs : List (Nat × e_V)) (j : Nat) : Option e_V := e_rget rs j j
/-- what an array holds; tc: int, boolean, long, references -/
def e_arr (ad : Nat → Nat) (as : List Nat) (rs : List (Nat × e_V)) (tc : Nat) (f : (Nat → Int32) ⊕ (Nat → Int64) ⊕ (Nat → UInt32) ⊕ (Nat → UInt64) ⊕ (Nat → Option Nat)) : Prop := match tc, f with
  | 0, .inl f => ∀ (j : Nat) (v : e_V), e_rat rs j = some v → e_rel ad as v (.int (f j))
  | 1, .inl f => ∀ (j : Nat) (v : e_V), e_rat rs j = some v → e_rel ad as v (.int (f j))
  | 2, .inr (.inl f) => ∀ (j : Nat) (v : e_V), e_rat rs j = some v → e_rel ad as v (.long (f j))
  | _ + 3, .inr (.inr (.inr (.inr f))) => ∀ (j : Nat) (v : e_V), e_rat rs j = some v → e_rel ad as v (va_rf (f j))
  | _, _ => False
theorem e_arr_mono {ad : Nat → Nat} {as as' : List Nat} (hp : as <+: as') {rs : List (Nat × e_V)} : ∀ {tc : Nat} {f : (Nat → Int32) ⊕ (Nat → Int64) ⊕ (Nat → UInt32) ⊕ (Nat → UInt64) ⊕ (Nat → Option Nat)}, e_arr ad as rs tc f → e_arr ad as' rs tc f
  | 0, .inl _, h => fun j v hv => e_rel_mono (h j v hv) hp
  | 1, .inl _, h => fun j v hv => e_rel_mono (h j v hv) hp
  | 2, .inr (.inl _), h => fun j v hv => e_rel_mono (h j v hv) hp
  | _ + 3, .inr (.inr (.inr (.inr _))), h => fun j v hv => e_rel_mono (h j v hv) hp
  | 0, .inr _, h => h.elim
  | 1, .inr _, h => h.elim
  | 2, .inl _, h => h.elim
  | 2, .inr (.inr _), h => h.elim
  | _ + 3, .inl _, h => h.elim
  | _ + 3, .inr (.inl _), h => h.elim
  | _ + 3, .inr (.inr (.inl _)), h => h.elim
  | _ + 3, .inr (.inr (.inr (.inl _))), h => h.elim
/-- a cell of the picture, and one of the world -/
def e_ent (ad : Nat → Nat) (as : List Nat) (tys : List (ClassId × FieldType)) (x : e_C) (e : va_E) : Prop := match x, e with
  | .inl (ci, fs), .inr (cj, vs) => ci = cj ∧ fs.length = vs.length ∧ ∀ (k : Nat) (v : e_V), fs[k]? = some v → ∃ y, vs[k]? = some y ∧ e_rel ad as v y
  | .inr (tc, rs), .inl (cA, n, f) => (∃ ty, tys[tc]? = some (cA, ty)) ∧ n = e_rlen rs ∧ n < 2147483648 ∧ e_arr ad as rs tc f
  | _, _ => False
theorem e_ent_mono {ad : Nat → Nat} {as as' : List Nat} {tys : List (ClassId × FieldType)} (hp : as <+: as') : ∀ {x : e_C} {e : va_E}, e_ent ad as tys x e → e_ent ad as' tys x e
  | .inl (_, _), .inr (_, _), h => ⟨h.1, h.2.1, fun k v hv => by obtain ⟨y, a, b⟩ := h.2.2 k v hv; exact ⟨y, a, e_rel_mono b hp⟩⟩
  | .inr (_, _), .inl (_, _, _), h => ⟨h.1, h.2.1, h.2.2.1, e_arr_mono hp h.2.2.2⟩
  | .inl (_, _), .inl _, h => h.elim
  | .inr (_, _), .inr _, h => h.elim
def e_wk (ad : Nat → Nat) (as : List Nat) (tys : List (ClassId × FieldType)) (w : e_W) (n : Nat) (ws : va_W) : Prop :=
  ws.map (·.1) = as ∧ ws.length = n ∧ n ≤ 512 ∧ ∀ (i : Nat) (q : Nat × va_E), ws[i]? = some q → e_ent ad as tys (e_tget 9 w i) q.2
/-- the frame's picture: locals, stack, heap -/
def e_S (ad : Nat → Nat) (D : va_G) (cl : List vw_C) (tys : List (ClassId × FieldType)) (A : Nat → Prop) (H0 : Heap) (nL : Nat) (as0 : List Nat) (al : e_A) (st : List e_V) (w : e_W) (n : Nat) (as : List Nat) (ws : va_W) (H : Heap) (locs : List Loc) (ls : Array Slot) (ys : List Value) : Prop :=
  e_lo ad as al ls nL ∧ e_st ad as st ys ∧ e_wk ad as tys w n ws ∧ va_P D cl ws H ∧ va_D A ws ∧ va_S A H0 H locs ∧ as0 <+: as
section EO
variable {p : Program} {l : Launch} {e : Env} {R : Room} {s : State} {m : MethodId} {args : Array Value} {below : List Frame} {meth : Method} {cd : Code} {Q : State → Prop} {cc : ByteArray}
variable {ad : Nat → Nat} {D : va_G} {cl : List vw_C} {tys : List (ClassId × FieldType)} {A : Nat → Prop} {H0 : Heap} {nL : Nat} {as0 : List Nat}
/-- from each state of the picture the frame comes to Q -/
def e_WG (p : Program) (l : Launch) (e : Env) (R : Room) (s : State) (m : MethodId) (args : Array Value) (below : List Frame) (meth : Method) (cd : Code) (Q : State → Prop) (ad : Nat → Nat) (D : va_G) (cl : List vw_C) (tys : List (ClassId × FieldType)) (A : Nat → Prop) (H0 : Heap) (nL : Nat) (as0 : List Nat) (k0 s0 : Nat)
    (pc : Nat) (al : e_A) (st : List e_V) (w : e_W) (c : e_Q) : Prop :=
  ∀ (as : List Nat) (ws : va_W) (H : Heap) (locs : List Loc) (ls : Array Slot) (ys : List Value), e_S ad D cl tys A H0 nL as0 al st w c.1 as ws H locs ls ys →
    W p l e R s m args below meth cd H locs (c.2.1 - k0) (c.2.2 - s0) Q (F0 m pc ls ys)
variable {k0 s0 : Nat} {pc : Nat} {al : e_A} {st : List e_V} {w : e_W} {c : e_Q}
theorem e_iload {n nx : Nat} {v : e_V} (hx : p.tables.exec = Jvm.exec) (hb : cd.code = cc) {i : Instr} {len : Nat} (hd : decode cc pc = .ok (i, len)) (hnx : nx = pc + len) (hi : i = .iload n ∧ len = 2 ∨ (∃ k : Fin 4, k.val = n ∧ i = .iload_n k ∧ len = 1)) (hv : e_nth al n = some (some v)) (ok : e_okI v = true)
    (h : e_WG p l e R s m args below meth cd Q ad D cl tys A H0 nL as0 k0 s0 nx al (v :: st) w c) : e_WG p l e R s m args below meth cd Q ad D cl tys A H0 nL as0 k0 s0 pc al st w c := by
  intro as ws H locs ls ys hS
  obtain ⟨h1, h2, h3⟩ := hS
  obtain ⟨x, hl, hr⟩ := e_lo_at h1 hv
  obtain ⟨z, rfl⟩ := e_rel_I hr ok
  subst hnx
  rcases hi with ⟨rfl, rfl⟩ | ⟨k, hk, rfl, rfl⟩
  · exact lv_iload hx hb hd hl (h as ws H locs ls (.int z :: ys) ⟨h1, ⟨hr, h2⟩, h3⟩)
  · exact lv_iload_n hx hb hd hk hl (h as ws H locs ls (.int z :: ys) ⟨h1, ⟨hr, h2⟩, h3⟩)
theorem e_lload {n nx : Nat} {v : e_V} (hx : p.tables.exec = Jvm.exec) (hb : cd.code = cc) {i : Instr} {len : Nat} (hd : decode cc pc = .ok (i, len)) (hnx : nx = pc + len) (hi : i = .lload n ∧ len = 2 ∨ (∃ k : Fin 4, k.val = n ∧ i = .lload_n k ∧ len = 1)) (hv : e_nth al n = some (some v)) (ok : e_okL v = true)
    (h : e_WG p l e R s m args below meth cd Q ad D cl tys A H0 nL as0 k0 s0 nx al (v :: st) w c) : e_WG p l e R s m args below meth cd Q ad D cl tys A H0 nL as0 k0 s0 pc al st w c := by
  intro as ws H locs ls ys hS
  obtain ⟨h1, h2, h3⟩ := hS
  obtain ⟨x, hl, hr⟩ := e_lo_at h1 hv
  obtain ⟨z, rfl⟩ := e_rel_L hr ok
  subst hnx
  rcases hi with ⟨rfl, rfl⟩ | ⟨k, hk, rfl, rfl⟩
  · exact lv_lload hx hb hd hl (h as ws H locs ls (.long z :: ys) ⟨h1, ⟨hr, h2⟩, h3⟩)
  · exact lv_lload_n hx hb hd hk hl (h as ws H locs ls (.long z :: ys) ⟨h1, ⟨hr, h2⟩, h3⟩)
theorem e_aload {n nx : Nat} {v : e_V} (hx : p.tables.exec = Jvm.exec) (hb : cd.code = cc) {i : Instr} {len : Nat} (hd : decode cc pc = .ok (i, len)) (hnx : nx = pc + len) (hi : i = .aload n ∧ len = 2 ∨ (∃ k : Fin 4, k.val = n ∧ i = .aload_n k ∧ len = 1)) (hv : e_nth al n = some (some v)) (ok : e_okR v = true)
    (h : e_WG p l e R s m args below meth cd Q ad D cl tys A H0 nL as0 k0 s0 nx al (v :: st) w c) : e_WG p l e R s m args below meth cd Q ad D cl tys A H0 nL as0 k0 s0 pc al st w c := by
  intro as ws H locs ls ys hS
  obtain ⟨h1, h2, h3⟩ := hS
  obtain ⟨x, hl, hr⟩ := e_lo_at h1 hv
  subst hnx
  rcases hi with ⟨rfl, rfl⟩ | ⟨k, hk, rfl, rfl⟩ <;> rcases e_rel_R hr ok with rfl | ⟨a, rfl⟩
  · exact lv_aloadN hx hb hd hl (h as ws H locs ls (.null :: ys) ⟨h1, ⟨hr, h2⟩, h3⟩)
  · exact lv_aload hx hb hd hl (h as ws H locs ls (.ref a :: ys) ⟨h1, ⟨hr, h2⟩, h3⟩)
  · exact lv_aload_nN hx hb hd hk hl (h as ws H locs ls (.null :: ys) ⟨h1, ⟨hr, h2⟩, h3⟩)
  · exact lv_aload_n hx hb hd hk hl (h as ws H locs ls (.ref a :: ys) ⟨h1, ⟨hr, h2⟩, h3⟩)
/-- a store of one word -/
theorem e_lo_store {as : List Nat} {al al' : e_A} {ls ls' : Array Slot} {n : Nat} {v : e_V} {x : Value} {lv lv' : List (Nat × Value)} (hl : al.length = nL) (hr : e_rel ad as v x)
    (h3 : ∀ (i : Nat) (v : e_V), al[i]? = some (some v) → ∃ x, (i, x) ∈ lv ∧ e_rel ad as v x)
    (e1 : al'.length = al.length) (e2 : ∀ (j : Nat) (u : e_V), al'[j]? = some (some u) → (j = n ∧ some v = some u) ∨ (j ≠ n ∧ ∃ t, al[j]? = some (some t) ∧ (j + 1 ≠ n → t = u) ∧ (j + 1 = n → e_c1 (some t) = some u)))
    (hv : lv_has ls' nL lv') (hlv : (n, x) :: lv.filter (fun q => !(q.1 == n) && !(q.1 + 1 == n && q.2.category == 2)) = lv') : e_lo ad as al' ls' nL := by
  refine ⟨e1.trans hl, lv', hv, fun j u hj => ?_⟩
  subst hlv
  rcases e2 j u hj with ⟨rfl, e⟩ | ⟨hne, t, ht, f1, f2⟩
  · cases e
    exact ⟨x, List.mem_cons_self, hr⟩
  · obtain ⟨y, hy, hry⟩ := h3 j t ht
    by_cases hj1 : j + 1 = n
    · obtain ⟨rfl, hc⟩ := e_rel_1 hry (f2 hj1)
      exact ⟨y, List.mem_cons_of_mem _ (List.mem_filter.mpr ⟨hy, by simp [hne, hc]⟩), hry⟩
    · rw [← f1 hj1]
      exact ⟨y, List.mem_cons_of_mem _ (List.mem_filter.mpr ⟨hy, by simp [hne, hj1]⟩), hry⟩
theorem e_istore {n nx : Nat} {v : e_V} {al' : e_A} (hx : p.tables.exec = Jvm.exec) (hb : cd.code = cc) {i : Instr} {len : Nat} (hd : decode cc pc = .ok (i, len)) (hnx : nx = pc + len) (hi : i = .istore n ∧ len = 2 ∨ (∃ k : Fin 4, k.val = n ∧ i = .istore_n k ∧ len = 1)) (ok : e_okI v = true)
    (e1 : al'.length = al.length) (e3 : n < al.length) (e2 : ∀ (j : Nat) (u : e_V), al'[j]? = some (some u) → (j = n ∧ some v = some u) ∨ (j ≠ n ∧ ∃ t, al[j]? = some (some t) ∧ (j + 1 ≠ n → t = u) ∧ (j + 1 = n → e_c1 (some t) = some u)))
    (h : e_WG p l e R s m args below meth cd Q ad D cl tys A H0 nL as0 k0 s0 nx al' st w c) : e_WG p l e R s m args below meth cd Q ad D cl tys A H0 nL as0 k0 s0 pc al (v :: st) w c := by
  intro as ws H locs ls ys hS
  obtain ⟨⟨hl, lv, hlv, h3⟩, h2, h4⟩ := hS
  obtain ⟨x, ys, rfl, hr, h5⟩ := e_st_cons h2
  obtain ⟨z, rfl⟩ := e_rel_I hr ok
  subst hnx
  rcases hi with ⟨rfl, rfl⟩ | ⟨k, hk, rfl, rfl⟩
  · exact lv_istore hx hb hd hlv (by omega) rfl fun ls' hls' => h as ws H locs ls' ys ⟨e_lo_store (ls := ls) hl hr h3 e1 e2 hls' rfl, h5, h4⟩
  · exact lv_istore_n hx hb hd hk hlv (by omega) rfl fun ls' hls' => h as ws H locs ls' ys ⟨e_lo_store (ls := ls) hl hr h3 e1 e2 hls' rfl, h5, h4⟩
theorem e_astore {n nx : Nat} {v : e_V} {al' : e_A} (hx : p.tables.exec = Jvm.exec) (hb : cd.code = cc) {i : Instr} {len : Nat} (hd : decode cc pc = .ok (i, len)) (hnx : nx = pc + len) (hi : i = .astore n ∧ len = 2 ∨ (∃ k : Fin 4, k.val = n ∧ i = .astore_n k ∧ len = 1)) (ok : e_okR v = true)
    (e1 : al'.length = al.length) (e3 : n < al.length) (e2 : ∀ (j : Nat) (u : e_V), al'[j]? = some (some u) → (j = n ∧ some v = some u) ∨ (j ≠ n ∧ ∃ t, al[j]? = some (some t) ∧ (j + 1 ≠ n → t = u) ∧ (j + 1 = n → e_c1 (some t) = some u)))
    (h : e_WG p l e R s m args below meth cd Q ad D cl tys A H0 nL as0 k0 s0 nx al' st w c) : e_WG p l e R s m args below meth cd Q ad D cl tys A H0 nL as0 k0 s0 pc al (v :: st) w c := by
  intro as ws H locs ls ys hS
  obtain ⟨⟨hl, lv, hlv, h3⟩, h2, h4⟩ := hS
  obtain ⟨x, ys, rfl, hr, h5⟩ := e_st_cons h2
  subst hnx
  rcases hi with ⟨rfl, rfl⟩ | ⟨k, hk, rfl, rfl⟩ <;> rcases e_rel_R hr ok with rfl | ⟨a, rfl⟩
  · exact lv_astoreN hx hb hd hlv (by omega) rfl fun ls' hls' => h as ws H locs ls' ys ⟨e_lo_store (ls := ls) hl hr h3 e1 e2 hls' rfl, h5, h4⟩
  · exact lv_astore hx hb hd hlv (by omega) rfl fun ls' hls' => h as ws H locs ls' ys ⟨e_lo_store (ls := ls) hl hr h3 e1 e2 hls' rfl, h5, h4⟩
  · exact lv_astore_nN hx hb hd hk hlv (by omega) rfl fun ls' hls' => h as ws H locs ls' ys ⟨e_lo_store (ls := ls) hl hr h3 e1 e2 hls' rfl, h5, h4⟩
  · exact lv_astore_n hx hb hd hk hlv (by omega) rfl fun ls' hls' => h as ws H locs ls' ys ⟨e_lo_store (ls := ls) hl hr h3 e1 e2 hls' rfl, h5, h4⟩
end EO
