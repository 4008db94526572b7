section SN
/-! THE FRAME'S CONTEXT; what an evaluation says of the machine -/
noncomputable def e_fcs : List (List (Nat × e_V)) := [[(5, e_I 2147483665), (1, e_I 2147483649), (2, e_I 2147483665), (1, e_I 2147483649), (2, e_I 2147483652), (1, e_I 2147483716), (1, e_I 2147483649), (1, e_I 2147483648), (1, e_I 2147483684), (1, e_I 2147483651), (1, e_I 2147483667), (1, e_I 2147483955), (1, e_I 2147483667), (1, e_I 2147488019), (3, e_I 2147483648), (1, e_I 2147483665), (1, e_I 2147488017), (1, e_I 2147483649), (1, e_I 2147483665), (1, e_I 2147483648), (4, e_I 2147483665), (1, e_I 2148602129), (1, e_I 2147483648), (1, e_I 2147488017), (6, e_I 2147483648), (1, e_I 2147488017), (6, e_I 2147483649), (1, e_I 2147483665), (2, e_I 2147483649), (1, e_I 2147483921), (1, e_I 2147483648)], [(2, e_I 2147483648), (2, e_I 2147484160)], []]
noncomputable def e_sv : List (String × String × String × Nat) := [("Plateroomprinter$Engine", "OPERANDS", "[I", 1), ("Plateroomprinter", "PAGE_YS", "[I", 2), ("java/util/ArrayList", "DEFAULTCAPACITY_EMPTY_ELEMENTDATA", "[Ljava/lang/Object;", 3), ("java/lang/Integer$IntegerCache", "cache", "[Ljava/lang/Integer;", 260)]
noncomputable def e_xs : List String := ["java/lang/IllegalArgumentException", "java/lang/IllegalStateException", "java/lang/IndexOutOfBoundsException"]
noncomputable def e_xn (E : Nat) : Option String := e_xs[E]?
noncomputable def e_A0 (base : Nat) : Nat → Prop := fun q => base ≤ q
/-- the cells that aren't ours, and the static fields that lead to them -/
noncomputable def e_sf (F : e_F) (ad : Nat → Nat) (base : Nat) (s : State) (H : Heap) : Prop :=
  (∀ k, k ≤ e_fcs.length → ∃ (ty : FieldType) (f : Nat → Value), (k < 3 → ty = .int) ∧ va_T ty (ad k) (e_rlen (e_fc e_fcs F k)) f (e_A0 base) s H ∧ ∀ (j : Nat) (v : e_V), e_rat (e_fc e_fcs F k) j = some v → e_rel ad [] v (f j)) ∧
  (∀ q ∈ e_sv, va_Z q.1 q.2.1 q.2.2.1 (.ref (ad q.2.2.2)) (e_A0 base) s H) ∧ vx_Zq Bundle.tN "UNASSIGNED_STACK" Bundle.steD (e_A0 base) s H ∧ vx_Zq Bundle.tN "SUPPRESSED_SENTINEL" Bundle.listD (e_A0 base) s H ∧
  vb_C (fun j => ad (j + 4)) (e_A0 base) s H ∧ va_T (.object "java/lang/Integer") (ad 260) 256 (fun j => .ref (ad (j + 4))) (e_A0 base) s H ∧ va_Z "java/lang/Integer$IntegerCache" "high" "I" (.int 127) (e_A0 base) s H ∧ va_Mi "[Ljava/lang/Object;" (ad 261) s
/-- what the tables say, of the classes and the method M -/
noncomputable def e_Kx (D : va_G) (tys : List (ClassId × FieldType)) (s : State) : Prop := va_K D e_cl tys s ∧ tys.map (·.2) = e_kt ∧ (∀ w ∈ e_nw, va_Nw w s) ∧ (∀ q ∈ e_sr, ∃ sa, vk_R q.1 q.2.1 q.2.2 sa s) ∧ (∀ q ∈ e_nc, va_Nc q.1 q.2 s) ∧ ∀ q ∈ e_fw, va_Fw q.1 q.2.1 q.2.2 s
/-- the exception table, as the words have it -/
noncomputable def e_Et (y : MethodName) (cd : Code) : Prop := (∀ (b : ByteArray) (mL : Nat) (rt : Option FieldType), Jvm.Cond.code y b mL rt ∈ e_ws → cd.exceptionTable.toList = []) ∧ ∀ (b : ByteArray) (mL : Nat) (rt : Option FieldType) (hh : List (Nat × Nat × Nat × Nat)), Jvm.Cond.codeWith y b mL rt hh ∈ e_ws → cd.exceptionTable.toList = tableOf hh
noncomputable def e_Cx (F : e_F) (p : Program) (l : Launch) (s : State) (m : MethodId) (args : Array Value) (meth : Method) (cd : Code) (ad : Nat → Nat) (D : va_G) (tys : List (ClassId × FieldType)) (base nL : Nat) : Prop :=
  l.flags = flags0 ∧ p.tables.exec = Jvm.exec ∧ meth.locks = false ∧ (∀ w ∈ e_ws, w.before args s = true) ∧ e_Kx D tys s ∧ base ≤ s.heap.size ∧ e_sf F ad base s s.heap ∧
  ∃ q, e_ml[F.1]? = some q ∧ cd.code = q.2.1 ∧ cd.maxLocals = nL ∧ q.2.2.1 = nL ∧ s.vm.findClass q.1.cls = some m.cls ∧ meth.sig.returnType = q.2.2.2 ∧ meth.name = q.1.name ∧ e_Et q.1 cd
abbrev e_wg (p : Program) (l : Launch) (e : Env) (R : Room) (s : State) (m : MethodId) (args : Array Value) (below : List Frame) (meth : Method) (cd : Code) (Q : State → Prop) (ad : Nat → Nat) (D : va_G) (tys : List (ClassId × FieldType)) (base nL : Nat) (as0 : List Nat) (k0 s0 : Nat) (pc : Nat) (al : e_A) (st : List e_V) (w : e_W) (c : e_Q) : Prop := e_WG p l e R s m args below meth cd Q ad D e_cl tys (e_A0 base) s.heap nL as0 k0 s0 pc al st w c
/-- the heap's part of a state -/
noncomputable def e_H (ad : Nat → Nat) (D : va_G) (tys : List (ClassId × FieldType)) (A : Nat → Prop) (H0 : Heap) (as0 : List Nat) (w : e_W) (n : Nat) (as : List Nat) (ws : va_W) (H : Heap) (locs : List Loc) : Prop :=
  e_wk ad as tys w n ws ∧ va_P D e_cl ws H ∧ va_D A ws ∧ va_S A H0 H locs ∧ as0 <+: as
noncomputable def e_nm : List String := ["java/lang/RuntimeException", "java/lang/Exception"]
/-- a throw of X at pc: 'new; dup; ldc; invokespecial; athrow', its words and its room -/
noncomputable def e_Th (l : Launch) (R : Room) (s : State) (m : MethodId) (args : Array Value) (cd : Code) (X : String) (pc : Nat) (ls : Array Slot) (ys : List Value) : Prop := ∃ (own text : String) (ik is ic sa : Nat), s.vm.findClass own = some m.cls ∧ Bundle.fit X = true ∧ (Cond.classLink own ik X).before args s = true ∧ (Cond.initialized X).before args s = true ∧ vk_R own is text sa s ∧ (∀ w ∈ vx_atS own ic X e_nm, w.before args s = true) ∧ (∀ w ∈ Cond.classLink own ik X :: Cond.initialized X :: vx_atS own ic X e_nm, vx_ot w = true) ∧
  decode cd.code pc = .ok (.new ik, 3) ∧ decode cd.code (pc + 3) = .ok (.dup, 1) ∧ (decode cd.code (pc + 4) = .ok (.ldc is, 2) ∧ decode cd.code (pc + 6) = .ok (.invokespecial ic, 3) ∧ decode cd.code (pc + 9) = .ok (.athrow, 1) ∨ decode cd.code (pc + 4) = .ok (.ldc_w is, 3) ∧ decode cd.code (pc + 7) = .ok (.invokespecial ic, 3) ∧ decode cd.code (pc + 10) = .ok (.athrow, 1)) ∧ cd.exceptionTable.toList = [] ∧ ls.size = cd.maxLocals ∧ (ys.map fun v => v.category).sum ≤ 8 ∧ 5 < R.frames ∧ 90 ≤ R.locals
/-- a place of the law where the walk is cut: the place, the locals, the stack -/
noncomputable def e_spP : Nat := 36
noncomputable def e_spA : e_A := [some (e_B 0), some (e_R 0), some (e_R 331), some (e_R 349), some (e_I 2147483648), none, none]
noncomputable def e_spS : List e_V := [e_I 2147483648, e_B 0]
/-- what is owed where the frame ends with z (1000: it stands at the cut) -/
noncomputable def e_En (p : Program) (l : Launch) (e : Env) (R : Room) (s : State) (m : MethodId) (args : Array Value) (below : List Frame) (meth : Method) (cd : Code) (Q : State → Prop) (ad : Nat → Nat) (D : va_G) (tys : List (ClassId × FieldType)) (base nL : Nat) (as0 : List Nat) (k0 s0 : Nat) (z : e_Z) (w : e_W) (c : e_Q) : Prop := ∀ (as : List Nat) (ws : va_W) (H : Heap) (locs : List Loc), e_H ad D tys (e_A0 base) s.heap as0 w c.1 as ws H locs → match z with
  | .inl (some v) => ∀ (pc : Nat) (ls : Array Slot) (x : Value), e_rel ad as v x → ((∃ y, x = .int y ∧ (meth.sig.returnType = some .int ∨ meth.sig.returnType = some .boolean ∧ (y = 0 ∨ y = 1))) ∧ decode cd.code pc = .ok (.ireturn, 1) ∨ (∃ y, x = .long y ∧ meth.sig.returnType = some .long) ∧ decode cd.code pc = .ok (.lreturn, 1) ∨ ((x = .null ∨ ∃ a, x = .ref a) ∧ ∃ rt, meth.sig.returnType = some rt ∧ ((∃ n, rt = .object n) ∨ ∃ t, rt = .array t)) ∧ decode cd.code pc = .ok (.areturn, 1)) → W p l e R s m args below meth cd H locs (c.2.1 - k0) (c.2.2 - s0) Q (F0 m pc ls [x])
  | .inl none => ∀ (pc : Nat) (ls : Array Slot), meth.sig.returnType = none → decode cd.code pc = .ok (.return_, 1) → W p l e R s m args below meth cd H locs (c.2.1 - k0) (c.2.2 - s0) Q (F0 m pc ls [])
  | .inr E => (E = 1000 → ∀ (ls : Array Slot) (ys : List Value), e_lo ad as e_spA ls nL → e_st ad as e_spS ys → W p l e R s m args below meth cd H locs (c.2.1 - k0) (c.2.2 - s0) Q (F0 m e_spP ls ys)) ∧ ∀ (pc : Nat) (ls : Array Slot) (ys : List Value) (X : String) (n1 n2 : Nat), e_xn E = some X → e_Th l R s m args cd X pc ls ys → n1 + 1 ≤ c.2.1 - k0 → n2 + 6 ≤ c.2.2 - s0 → W p l e R s m args below meth cd H locs n1 n2 Q (F0 m pc ls ys)
noncomputable def e_Ok (F : e_F) (pc : Nat) (al : e_A) (st : List e_V) (w : e_W) (c : e_Q) (z : e_Z) (w' : e_W) (c' : e_Q) : Prop :=
  c.1 ≤ c'.1 ∧ c.2.1 ≤ c'.2.1 ∧ c.2.2 ≤ c'.2.2 ∧ ∀ (p : Program) (l : Launch) (e : Env) (R : Room) (s : State) (m : MethodId) (args : Array Value) (below : List Frame) (meth : Method) (cd : Code) (Q : State → Prop) (ad : Nat → Nat) (D : va_G) (tys : List (ClassId × FieldType)) (base nL : Nat) (as0 : List Nat) (k0 s0 : Nat), e_Cx F p l s m args meth cd ad D tys base nL → F.2.1 ≤ R.frames → F.2.2.1 ≤ R.locals → k0 ≤ c.2.1 → s0 ≤ c.2.2 → c'.2.1 - k0 ≤ R.cells → c'.2.2 - s0 ≤ R.slots → e_En p l e R s m args below meth cd Q ad D tys base nL as0 k0 s0 z w' c' → e_wg p l e R s m args below meth cd Q ad D tys base nL as0 k0 s0 pc al st w c
noncomputable def e_Gd (g : e_G) : Prop := ∀ (F : e_F) (pc : Nat) (al : e_A) (st : List e_V) (w : e_W) (c : e_Q) (K : e_K), g F pc al st w c K = true → ∃ z w' c', K z w' c' = true ∧ e_Ok F pc al st w c z w' c'
noncomputable def e_Sn (M pc : Nat) (o : e_O) : Prop := ∀ g, e_Gd g → ∀ (F : e_F) (al : e_A) (st : List e_V) (w : e_W) (c : e_Q) (K : e_K), F.1 = M → o g F al st w c K = true → ∃ z w' c', K z w' c' = true ∧ e_Ok F pc al st w c z w' c'
noncomputable def e_Tb (M : Nat) (f : e_X) : Prop := ∀ pc o, f pc = some o → e_Sn M pc o
noncomputable def e_TT (t : Nat → e_X) : Prop := ∀ M, e_Tb M (t M)
theorem e_lfT {M q : Nat} {o : e_O} (h : e_Sn M q o) : e_Tb M (e_lf q o) := by
  intro pc o' ho
  unfold e_lf at ho
  cases hb : Nat.beq pc q with
  | false => rw [hb, cond_false] at ho; cases ho
  | true =>
    rw [hb, cond_true] at ho
    cases ho
    cases Nat.eq_of_beq_eq_true hb
    exact h
theorem e_brT {M k : Nat} {a b : e_X} (ha : e_Tb M a) (hb : e_Tb M b) : e_Tb M (e_br k a b) := by
  intro pc o ho
  unfold e_br at ho
  cases hc : Nat.ble k pc with
  | false => rw [hc, cond_false] at ho; exact ha pc o ho
  | true => rw [hc, cond_true] at ho; exact hb pc o ho
theorem e_noT {M : Nat} : e_Tb M e_no := fun _ _ h => by cases h
theorem e_lmT {q : Nat} {f : e_X} (h : e_Tb q f) : e_TT (e_lm q f) := by
  intro M
  unfold e_lm
  cases hb : Nat.beq M q with
  | false => rw [cond_false]; exact e_noT
  | true => rw [cond_true]; cases Nat.eq_of_beq_eq_true hb; exact h
theorem e_bmT {k : Nat} {a b : Nat → e_X} (ha : e_TT a) (hb : e_TT b) : e_TT (e_bm k a b) := by
  intro M
  unfold e_bm
  cases hc : Nat.ble k M with
  | false => rw [cond_false]; exact ha M
  | true => rw [cond_true]; exact hb M
/-- THE EVALUATOR IS SOUND, if each row of the tables is -/
theorem e_sound {tab : Nat → e_X} (ht : e_TT tab) : ∀ fuel, e_Gd (e_run tab fuel) := by
  intro fuel
  induction fuel with
  | zero => intro F pc al st w c K h; cases h
  | succ n ih =>
    intro F pc al st w c K h
    have h1 : (match tab F.1 pc with
      | some o => o (e_run tab n) F al st w c K
      | none => false) = true := h
    split at h1
    · next o ho => exact ht F.1 pc o ho _ ih F al st w c K rfl h1
    · cases h1
/-- a step that makes nothing -/
theorem e_step {F : e_F} {pc nx : Nat} {al al' : e_A} {st st' : List e_V} {w w1 w' : e_W} {c c' : e_Q} {z : e_Z} (hok : e_Ok F nx al' st' w1 c z w' c')
    (hrow : ∀ (p : Program) (l : Launch) (e : Env) (R : Room) (s : State) (m : MethodId) (args : Array Value) (below : List Frame) (meth : Method) (cd : Code) (Q : State → Prop) (ad : Nat → Nat) (D : va_G) (tys : List (ClassId × FieldType)) (base nL : Nat) (as0 : List Nat) (k0 s0 : Nat), e_Cx F p l s m args meth cd ad D tys base nL → e_wg p l e R s m args below meth cd Q ad D tys base nL as0 k0 s0 nx al' st' w1 c → e_wg p l e R s m args below meth cd Q ad D tys base nL as0 k0 s0 pc al st w c) : e_Ok F pc al st w c z w' c' := by
  obtain ⟨h1, h2, h3, h4⟩ := hok
  refine ⟨h1, h2, h3, ?_⟩
  intro p l e R s m args below meth cd Q ad D tys base nL as0 k0 s0 hC hf hl hk hs hc hsl hE
  exact hrow p l e R s m args below meth cd Q ad D tys base nL as0 k0 s0 hC (h4 p l e R s m args below meth cd Q ad D tys base nL as0 k0 s0 hC hf hl hk hs hc hsl hE)

theorem e_cc {F : e_F} {M nL base : Nat} {cc : ByteArray} {p : Program} {l : Launch} {s : State} {m : MethodId} {args : Array Value} {meth : Method} {cd : Code} {ad : Nat → Nat} {D : va_G} {tys : List (ClassId × FieldType)} (hM : F.1 = M) (hq : (e_ml[M]?).map (·.2.1) = some cc) (hC : e_Cx F p l s m args meth cd ad D tys base nL) : p.tables.exec = Jvm.exec ∧ cd.code = cc := by
  obtain ⟨-, hx, -, -, -, -, -, q, h1, h2, -⟩ := hC
  rw [hM] at h1
  rw [h1] at hq
  cases hq
  exact ⟨hx, h2⟩
theorem e_own {F : e_F} {M nL base : Nat} {own : String} {p : Program} {l : Launch} {s : State} {m : MethodId} {args : Array Value} {meth : Method} {cd : Code} {ad : Nat → Nat} {D : va_G} {tys : List (ClassId × FieldType)} (hM : F.1 = M) (ho : (e_ml[M]?).map (·.1.cls) = some own) (hC : e_Cx F p l s m args meth cd ad D tys base nL) : s.vm.findClass own = some m.cls := by
  obtain ⟨-, hx, -, -, -, -, -, q, h1, h2, -, -, h5, -⟩ := hC
  rw [hM] at h1
  rw [h1] at ho
  cases ho
  exact h5
theorem e_wd {F : e_F} {nL base : Nat} {p : Program} {l : Launch} {s : State} {m : MethodId} {args : Array Value} {meth : Method} {cd : Code} {ad : Nat → Nat} {D : va_G} {tys : List (ClassId × FieldType)} (hC : e_Cx F p l s m args meth cd ad D tys base nL) {w : Jvm.Cond} (hw : w ∈ lw_tbl) (hg : goodWord w = true) : w.before args s = true := hC.2.2.2.1 w (List.mem_filter.mpr ⟨hw, hg⟩)
variable {M pc : Nat} {cc : ByteArray}
theorem s_iload {n nx len : Nat} {i : Instr} (hq : (e_ml[M]?).map (·.2.1) = some cc) (hd : decode cc pc = .ok (i, len)) (hnx : nx = pc + len) (hi : i = .iload n ∧ len = 2 ∨ (∃ k : Fin 4, k.val = n ∧ i = .iload_n k ∧ len = 1)) : e_Sn M pc (o_load e_okI n nx) := by
  intro g hg F al st w c K hM h
  unfold o_load at h
  split at h
  · next v hv =>
    cases ho : e_okI v with
    | false => rw [ho] at h; cases h
    | true =>
      rw [ho] at h
      replace h : g F nx al (v :: st) w c K = true := h
      obtain ⟨z, w', c', hK, hok⟩ := hg _ _ _ _ _ _ _ h
      refine ⟨z, w', c', hK, e_step hok ?_⟩
      intro p l e R s m args below meth cd Q ad D tys base nL as0 k0 s0 hC hW
      obtain ⟨hx, hb⟩ := e_cc hM hq hC
      exact e_iload hx hb hd hnx hi hv ho hW
  · cases h
theorem s_lload {n nx len : Nat} {i : Instr} (hq : (e_ml[M]?).map (·.2.1) = some cc) (hd : decode cc pc = .ok (i, len)) (hnx : nx = pc + len) (hi : i = .lload n ∧ len = 2 ∨ (∃ k : Fin 4, k.val = n ∧ i = .lload_n k ∧ len = 1)) : e_Sn M pc (o_load e_okL n nx) := by
  intro g hg F al st w c K hM h
  unfold o_load at h
  split at h
  · next v hv =>
    cases ho : e_okL v with
    | false => rw [ho] at h; cases h
    | true =>
      rw [ho] at h
      replace h : g F nx al (v :: st) w c K = true := h
      obtain ⟨z, w', c', hK, hok⟩ := hg _ _ _ _ _ _ _ h
      refine ⟨z, w', c', hK, e_step hok ?_⟩
      intro p l e R s m args below meth cd Q ad D tys base nL as0 k0 s0 hC hW
      obtain ⟨hx, hb⟩ := e_cc hM hq hC
      exact e_lload hx hb hd hnx hi hv ho hW
  · cases h
theorem s_aload {n nx len : Nat} {i : Instr} (hq : (e_ml[M]?).map (·.2.1) = some cc) (hd : decode cc pc = .ok (i, len)) (hnx : nx = pc + len) (hi : i = .aload n ∧ len = 2 ∨ (∃ k : Fin 4, k.val = n ∧ i = .aload_n k ∧ len = 1)) : e_Sn M pc (o_load e_okR n nx) := by
  intro g hg F al st w c K hM h
  unfold o_load at h
  split at h
  · next v hv =>
    cases ho : e_okR v with
    | false => rw [ho] at h; cases h
    | true =>
      rw [ho] at h
      replace h : g F nx al (v :: st) w c K = true := h
      obtain ⟨z, w', c', hK, hok⟩ := hg _ _ _ _ _ _ _ h
      refine ⟨z, w', c', hK, e_step hok ?_⟩
      intro p l e R s m args below meth cd Q ad D tys base nL as0 k0 s0 hC hW
      obtain ⟨hx, hb⟩ := e_cc hM hq hC
      exact e_aload hx hb hd hnx hi hv ho hW
  · cases h
theorem s_istore {n nx len : Nat} {i : Instr} (hq : (e_ml[M]?).map (·.2.1) = some cc) (hd : decode cc pc = .ok (i, len)) (hnx : nx = pc + len) (hi : i = .istore n ∧ len = 2 ∨ (∃ k : Fin 4, k.val = n ∧ i = .istore_n k ∧ len = 1)) : e_Sn M pc (o_store e_okI n nx) := by
  intro g hg F al st w c K hM h
  unfold o_store at h
  split at h
  · next v r =>
    cases ho : e_okI v with
    | false => rw [ho] at h; cases h
    | true =>
      rw [ho] at h
      replace h : e_lst (some v) al n (fun ls' => g F nx ls' r w c K) = true := h
      obtain ⟨al', h, e1, e3, e2⟩ := e_lst_t h
      obtain ⟨z, w', c', hK, hok⟩ := hg _ _ _ _ _ _ _ h
      refine ⟨z, w', c', hK, e_step hok ?_⟩
      intro p l e R s m args below meth cd Q ad D tys base nL as0 k0 s0 hC hW
      obtain ⟨hx, hb⟩ := e_cc hM hq hC
      exact e_istore hx hb hd hnx hi ho e1 e3 e2 hW
  · cases h
theorem s_astore {n nx len : Nat} {i : Instr} (hq : (e_ml[M]?).map (·.2.1) = some cc) (hd : decode cc pc = .ok (i, len)) (hnx : nx = pc + len) (hi : i = .astore n ∧ len = 2 ∨ (∃ k : Fin 4, k.val = n ∧ i = .astore_n k ∧ len = 1)) : e_Sn M pc (o_store e_okR n nx) := by
  intro g hg F al st w c K hM h
  unfold o_store at h
  split at h
  · next v r =>
    cases ho : e_okR v with
    | false => rw [ho] at h; cases h
    | true =>
      rw [ho] at h
      replace h : e_lst (some v) al n (fun ls' => g F nx ls' r w c K) = true := h
      obtain ⟨al', h, e1, e3, e2⟩ := e_lst_t h
      obtain ⟨z, w', c', hK, hok⟩ := hg _ _ _ _ _ _ _ h
      refine ⟨z, w', c', hK, e_step hok ?_⟩
      intro p l e R s m args below meth cd Q ad D tys base nL as0 k0 s0 hC hW
      obtain ⟨hx, hb⟩ := e_cc hM hq hC
      exact e_astore hx hb hd hnx hi ho e1 e3 e2 hW
  · cases h
end SN
