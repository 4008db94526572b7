section
/-! ===== BEGIN words of one list among another's, by their places ===== -/
theorem goodIn_r {big : List Cond} (ws : List Cond) (ps : List Nat) (hp : ws = ps.filterMap (fun i => big[i]?)) (h : ws.all goodWord = true) : GoodIn big ws := by
  intro w hw
  have h1 := List.all_eq_true.mp h w hw
  rw [hp] at hw
  obtain ⟨i, -, hi⟩ := List.mem_filterMap.mp hw
  have hm : w ∈ big := by first | exact List.mem_of_getElem? hi | exact List.getElem?_mem hi
  exact ⟨hm, good_of_word h1⟩
theorem goodIn_app {big a b : List Cond} (ha : GoodIn big a) (hb : GoodIn big b) : GoodIn big (a ++ b) := fun w h => (List.mem_append.mp h).elim (ha w) (hb w)
theorem goodIn_ca {big a b : List Cond} {c : Cond} (ha : GoodIn big (c :: a)) (hb : GoodIn big b) : GoodIn big (c :: (a ++ b)) := fun w h => (List.mem_cons.mp h).elim (fun e => ha w (List.mem_cons.mpr (Or.inl e))) (fun h => (List.mem_append.mp h).elim (fun h => ha w (List.mem_cons.mpr (Or.inr h))) (hb w))
theorem goodIn_sub {big ws : List Cond} (hm : ∀ w ∈ ws, w ∈ big) (h : ws.all goodWord = true) : GoodIn big ws := fun w hw => ⟨hm w hw, good_of_word (List.all_eq_true.mp h w hw)⟩
/-! ===== END ===== -/

/-! ===== BEGIN exceptions that leave a method, and their catching by the caller (launches without stack traces) ===== -/
section VXA
/-! The laws vx_back, vx_callV, vx_callS, vx_callSW, vx_throw0, vx_throwS follow proofs of the library, with one case more: JvmDerived/Free/Laws.lean (Back.of_free), Shelf42/LK1.lean (callV, callS), Shelf/KitTraced.lean (throwNew0V, throwNewS). -/
/-- where a method has thrown q: the class by its name, the cell, what was written, the world -/
def vx_T (XC : String → State → State → Prop) (st : State) (q : Addr) (t : State) (mc ms : Nat) (free : Addr → Prop) : Prop :=
  ∃ (E : String) (ce : Cell) (L : List Loc), XC E st t ∧ t.heap[q]? = some ce ∧ ce.vm = .none ∧ st.vm.findClass E = some ce.cls ∧ st.WarmedH t.vm ∧ st.sameButNew ({ t with vm := st.vm } : State) L mc ms ∧ ∀ z ∈ L, free z.base
def vx_Q (Qc : Array Value → State → Outcome → State → Prop) (XC : String → State → State → Prop) (mc ms : Nat) (free : Addr → Prop) : Array Value → State → Outcome → State → Prop := fun a st o t =>
  (Qc a st o t ∧ ∃ L, FrameEnd st o t L mc ms ∧ ∀ q ∈ L, free q.base) ∨ ∃ q, o = .threw q ∧ vx_T XC st q t mc ms free
/-- a callee that returns or throws -/
def vx_Met (l : Launch) (y : MethodName) (ws : List Cond) (rm : Room) (Pc : Array Value → State → Prop) (Qc : Array Value → State → Outcome → State → Prop) (XC : String → State → State → Prop) (mc ms : Nat) (free : Addr → Prop) : Prop :=
  MetFree l y (headSpec ws rm) Pc (fun _ _ _ _ _ => True) (vx_Q Qc XC mc ms free)
def vx_Post (XC : String → State → State → Prop) (mc ms : Nat) (free : Addr → Prop) : Pt → Array Value → Addr → Pt → Prop := fun A a q B =>
  ∃ (g : JFrame) (mk : MethodId) (t : State) (L : List Loc) (E : String) (ce : Cell), B.U.heap = t.heap ∧ B.U.vm = t.vm ∧ XC E (A.U.calling g mk a) t ∧ t.heap[q]? = some ce ∧ ce.vm = .none ∧ A.U.vm.findClass E = some ce.cls ∧ B.locs = A.locs ++ L ∧ (∀ z ∈ L, free z.base) ∧ B.cells = A.cells + mc ∧ B.slots = A.slots + ms
def vx_Back (l : Launch) (R : Room) (p : Program) (e : Env) (below : List Frame) (s : State) (sargs : Array Value) (y : MethodName) (len W9 : Nat)
    (Pre : Pt → Array Value → Prop) (Post : Pt → Array Value → Option Value → Pt → Prop) (PostX : Pt → Array Value → Addr → Pt → Prop) : Prop :=
  ∀ (m : MethodId) (meth : Method) (c : Code) (A : Pt) (g : JFrame) (ig : Instr) (mk : MethodId) (a : Array Value),
    Stand p l e R s m sargs below meth c A.U A.locs A.cells A.slots → g.method = m → g.locals.size = c.maxLocals → decode c.code g.pc = .ok (ig, len) →
    2 * g.monitorRoom + (g.stack.map fun v => v.category).sum ≤ W9 → A.U.methodNamed? y = some mk → Pre A a →
    (∃ (v : Option Value) (B : Pt), Stand p l e R s m sargs below meth c B.U B.locs B.cells B.slots ∧ Post A a v B ∧
      Steps p.tables e below (doInvoke e (A.U.setTop g) [] mk a).1 (B.U.setTop { g with pc := g.pc + len, stack := v.toList ++ g.stack })) ∨
    (∃ (q : Addr) (B : Pt), Stand p l e R s m sargs below meth c B.U B.locs B.cells B.slots ∧ PostX A a q B ∧
      Steps p.tables e below (doInvoke e (A.U.setTop g) [] mk a).1 ((B.U.setTop g).pushFrame (.throwing q)))
section Payer
variable {l : Launch} {R : Room} {p : Program} {e : Env} {below : List Frame} {s : State} {sargs : Array Value} {y : MethodName} {len W9 : Nat}
theorem vx_back {ws : List Cond} {rm : Room} {Pc : Array Value → State → Prop} {Qc : Array Value → State → Outcome → State → Prop} {XC : String → State → State → Prop} {mc ms : Nat} {free : Addr → Prop} {bytes : ByteArray} {maxL : Nat} {ret : Option FieldType}
    (hM : vx_Met l y ws rm Pc Qc XC mc ms free) (hblind : FrameBlind Pc) (hrc : rm.cells = mc) (hrs : rm.slots = ms)
    (hframes : rm.frames + 1 ≤ R.frames) (hlocals : W9 + (maxL + 11) + rm.locals ≤ R.locals)
    (hws : ∀ w ∈ ws, ∀ a' U, s.WarmedH U.vm → w.before a' U = true) (hcode : Cond.code y bytes maxL ret ∈ ws) (hinit : ∀ a' U, s.WarmedH U.vm → (Cond.initialized y.cls).before a' U = true) :
    vx_Back l R p e below s sargs y len W9 (PreOf R mc ms Pc) (PostOf Qc mc ms free) (vx_Post XC mc ms free) := by
  intro m meth c A g ig mk a X hg hsize hdg hW hn hp
  have h1 : (headSpec ws rm).pre.before a A.U = true := atoms_intro fun w hw => hws w hw _ _ X.warmed
  have h2 : (Cond.code y bytes maxL ret).before a A.U = true := hws _ hcode _ _ X.warmed
  have h3 : (Cond.initialized y.cls).before a A.U = true := hinit _ _ X.warmed
  have h4 : A.cells + (headSpec ws rm).room.cells ≤ R.cells := by rw [show (headSpec ws rm).room.cells = mc from hrc]; exact hp.1
  have h5 : A.slots + (headSpec ws rm).room.slots ≤ R.slots := by rw [show (headSpec ws rm).room.slots = ms from hrs]; exact hp.2.1
  have hPc : Pc a (A.U.calling g mk a) := hblind _ _ _ _ hp.2.2
  obtain ⟨U, Ls, c0, s0⟩ := A
  dsimp only [Pt.U, Pt.locs, Pt.cells, Pt.slots] at h1 h2 h3 h4 h5 X hn hPc ⊢
  obtain ⟨methY, cY, hmY, hcY, -, hlY, -, -, -, -⟩ := Cond.code_spec hn h2
  obtain ⟨kY, hkY, -⟩ := className_of_methodNamed hn
  have hinitY : kY.init = .initialized := Cond.initialized_spec (findClass_of_methodNamed hn) hkY h3
  have h : At U g.method c below := by rw [hg]; exact X.here
  have hlocals9 : W9 + (maxL + 11) + (headSpec ws rm).room.locals ≤ R.locals := hlocals
  have happ : (headSpec ws rm).appliesLoose y e.platform (U.calling g mk a) = true :=
    Spec.appliesLoose_calling (g := g) h hdg hn hkY hinitY
      (X.room_calling (g := g) (R' := (headSpec ws rm).room) hsize hmY hcY hframes (by rw [hlY]; omega) h4 h5) h1
  obtain ⟨mid, hmid⟩ := h.above
  have hfr : (U.setTop g).frames = (.java g :: mid) ++ below := by rw [State.frames_setTop' g h.top, hmid]; rfl
  obtain ⟨o, s₂, hsteps, -, hend, hq⟩ := Steps.callFree hM p X.admits X.cas X.clock (acts := []) hfr happ hPc trivial
  have hq' : vx_Q Qc XC mc ms free a (U.calling g mk a) o s₂ := hq
  rw [State.frames_setTop' g h.top] at hend
  obtain ⟨g₀, hg0⟩ := Option.isSome_iff_exists.mp h.top
  obtain ⟨r, hr⟩ := State.topJava?_eq_some.mp hg0
  have hr' : (({ U with heap := s₂.heap, slotsUsed := s₂.slotsUsed } : State).setVm s₂.vm).frames = .java g₀ :: r := hr
  rcases hq' with ⟨hqc, L, hfe, hL⟩ | ⟨q, rfl, E, ce, L, hx, hce, hcv, hcl, hW₂, hsm, hL⟩
  · obtain ⟨⟨v, rfl⟩, hW₂, e2, q2, q3, q4, q5, q6⟩ := id hfe
    have e3 : s₂ = ({ (U.calling g mk a).setFrames s₂.frames with heap := s₂.heap, slotsUsed := s₂.slotsUsed } : State).setVm s₂.vm := by
      have : s₂ = ({ s₂ with vm := (U.calling g mk a).vm } : State).setVm s₂.vm := rfl
      rw [e2] at this
      exact this
    obtain ⟨c₂, i₂, len₂, hc₂, hd₂, hf₂⟩ := hend
    have hW' : U.WarmedH s₂.vm := hW₂
    have hcc : c₂ = c := by
      have h1 : s₂.code? g.method = U.code? g.method := by
        rw [State.code?_eq, State.code?_eq, hW'.alike.method?]
      exact Option.some.inj (hc₂.symm.trans (h1.trans h.code))
    subst hcc
    have hlen : len₂ = len := by rw [hdg] at hd₂; cases hd₂; rfl
    subst hlen
    have hs₂ : s₂ = (({ U with heap := s₂.heap, slotsUsed := s₂.slotsUsed } : State).setVm s₂.vm).setTop { g with pc := g.pc + len₂, stack := v.toList ++ g.stack } := by
      refine e3.trans ?_
      rw [hf₂, State.calling_eq h.top, State.setFrames_setFrames, State.setTop_of_frames _ hr', hr]
      rfl
    have hsame : U.sameButNew ({ U with heap := s₂.heap, slotsUsed := s₂.slotsUsed } : State) L mc ms := by
      refine ⟨?_, q2, q3, q4, q5, q6⟩
      obtain ⟨t, ht, -⟩ := State.frames_cons hr
      show ({ U with heap := s₂.heap, slotsUsed := s₂.slotsUsed } : State) = { U.setFrames U.frames with heap := s₂.heap, slotsUsed := s₂.slotsUsed }
      rw [State.setFrames_self ht]
    subst hg
    refine Or.inl ⟨v, ⟨(({ U with heap := s₂.heap, slotsUsed := s₂.slotsUsed } : State).setVm s₂.vm), Ls ++ L, c0 + mc, s0 + ms⟩,
      ⟨X.admits, X.cas, X.clock, X.frames, X.room, X.hears, X.method, X.code, (X.here.setHeapUsed s₂.heap s₂.slotsUsed).setVm hW'.alike, X.tail, State.WarmedH.trans X.warmed hW', X.limits, X.bytes, X.same.trans (hsame.setVm s.vm)⟩,
      ⟨g, mk, s₂, L, rfl, rfl, hqc, rfl, hL, rfl, rfl⟩, ?_⟩
    show Steps p.tables e below _ ((({ U with heap := s₂.heap, slotsUsed := s₂.slotsUsed } : State).setVm s₂.vm).setTop { g with pc := g.pc + len₂, stack := v.toList ++ g.stack })
    rw [← hs₂]
    exact hsteps
  · obtain ⟨e2, q2, q3, q4, q5, q6⟩ := id hsm
    have e3 : s₂ = ({ (U.calling g mk a).setFrames s₂.frames with heap := s₂.heap, slotsUsed := s₂.slotsUsed } : State).setVm s₂.vm := by
      have : s₂ = ({ s₂ with vm := (U.calling g mk a).vm } : State).setVm s₂.vm := rfl
      rw [e2] at this
      exact this
    have hf₂ : s₂.frames = .throwing q :: .java g :: U.frames.tail := hend
    have hW' : U.WarmedH s₂.vm := hW₂
    have hs₂ : s₂ = ((({ U with heap := s₂.heap, slotsUsed := s₂.slotsUsed } : State).setVm s₂.vm).setTop g).pushFrame (.throwing q) := by
      refine e3.trans ?_
      rw [hf₂, State.calling_eq h.top, State.setFrames_setFrames, State.pushFrame, State.frames_setTop _ hr', State.setTop_of_frames _ hr', State.setFrames_setFrames, hr]
      rfl
    have hsame : U.sameButNew ({ U with heap := s₂.heap, slotsUsed := s₂.slotsUsed } : State) L mc ms := by
      refine ⟨?_, q2, q3, q4, q5, q6⟩
      obtain ⟨t, ht, -⟩ := State.frames_cons hr
      show ({ U with heap := s₂.heap, slotsUsed := s₂.slotsUsed } : State) = { U.setFrames U.frames with heap := s₂.heap, slotsUsed := s₂.slotsUsed }
      rw [State.setFrames_self ht]
    subst hg
    refine Or.inr ⟨q, ⟨(({ U with heap := s₂.heap, slotsUsed := s₂.slotsUsed } : State).setVm s₂.vm), Ls ++ L, c0 + mc, s0 + ms⟩,
      ⟨X.admits, X.cas, X.clock, X.frames, X.room, X.hears, X.method, X.code, (X.here.setHeapUsed s₂.heap s₂.slotsUsed).setVm hW'.alike, X.tail, State.WarmedH.trans X.warmed hW', X.limits, X.bytes, X.same.trans (hsame.setVm s.vm)⟩,
      ⟨g, mk, s₂, L, E, ce, rfl, rfl, hx, hce, hcv, hcl, rfl, hL, rfl, rfl⟩, ?_⟩
    show Steps p.tables e below _ (((({ U with heap := s₂.heap, slotsUsed := s₂.slotsUsed } : State).setVm s₂.vm).setTop g).pushFrame (.throwing q))
    rw [← hs₂]
    exact hsteps
end Payer
section Calls
variable {p : Program} {l : Launch} {e : Env} {R : Room} {s : State} {m : MethodId} {args : Array Value} {below : List Frame} {meth : Method} {c : Code} {T : State} {locs : List Loc} {cells slots : Nat}
theorem vx_callV (X : Stand p l e R s m args below meth c T locs cells slots) (hexec : p.tables.exec = Jvm.exec) {own C : String} {index : Nat} {y : MethodName} {bytes : ByteArray} {maxL : Nat} {ret : Option FieldType}
    (hown : s.vm.findClass own = some m.cls) (hlink : (Cond.methodLink own index y).before args s = true) (hinst : (Cond.instanceMethod y).before args s = true) (hsel : (Cond.selects C y y).before args s = true)
    (hcode : (Cond.code y bytes maxL ret).before args s = true) (hy : y.cls ≠ "java/lang/invoke/MethodHandle" ∧ y.cls ≠ "java/lang/invoke/VarHandle")
    {W9 : Nat} {Pre : Pt → Array Value → Prop} {Post : Pt → Array Value → Option Value → Pt → Prop} {PostX : Pt → Array Value → Addr → Pt → Prop} (hK : vx_Back l R p e below s args y 3 W9 Pre Post PostX)
    {b : Addr} {cellB : Cell} (hcell : T.heap[b]? = some cellB) (hobj : cellB.vm.isStatics = false) (hcls : s.vm.findClass C = some cellB.cls)
    {g : JFrame} (hg : g.method = m) (hsize : g.locals.size = c.maxLocals) {argsL rest : List Value} (hlen : ∀ sig, parseMethodDescriptor y.desc = some sig → argsL.length = sig.parameters.length)
    (hstack : g.stack = argsL.reverse ++ .ref b :: rest) (hW : 2 * g.monitorRoom + (rest.map fun v => v.category).sum ≤ W9) (hdg : decode c.code g.pc = .ok (.invokevirtual index, 3))
    (hpre : ∀ vm₁, s.WarmedH vm₁ → Pre ⟨T.setVm vm₁, locs, cells, slots⟩ (Value.ref b :: argsL).toArray) :
    (∃ (v : Option Value) (vm₁ : Vm) (B : Pt), s.WarmedH vm₁ ∧ Stand p l e R s m args below meth c B.U B.locs B.cells B.slots ∧ Post ⟨T.setVm vm₁, locs, cells, slots⟩ (Value.ref b :: argsL).toArray v B ∧
      ∀ target, Steps p.tables e below (B.U.setTop { g with pc := g.pc + 3, stack := v.toList ++ rest }) target → Steps p.tables e below (T.setTop g) target) ∨
    (∃ (q : Addr) (vm₁ : Vm) (B : Pt), s.WarmedH vm₁ ∧ Stand p l e R s m args below meth c B.U B.locs B.cells B.slots ∧ PostX ⟨T.setVm vm₁, locs, cells, slots⟩ (Value.ref b :: argsL).toArray q B ∧
      Steps p.tables e below (T.setTop g) ((B.U.setTop { g with stack := rest }).pushFrame (.throwing q))) := by
  obtain ⟨mk, methM, hnamed, hmethM, hstM, habM⟩ := Cond.instanceMethod_spec hinst
  obtain ⟨methM', cM, hmethM', -, -, -, -, -, -, hsigM⟩ := Cond.code_spec hnamed hcode
  cases hmethM.symm.trans hmethM'
  obtain ⟨c2, r2, m2, q1, q2, q3, q4, kP, hkP, hkPi⟩ := Cond.selects_spec hsel
  cases hcls.symm.trans q1
  cases (State.methodFound?_of_named hnamed hy).symm.trans q2
  cases hnamed.symm.trans q3
  have hselP : selectMethod e.platform s.vm cellB.cls mk = .method mk := by rw [Launch.admits_selectMethod X.admits]; exact q4
  obtain ⟨vm₁, X₁, hstep₁⟩ := X.invokevirtual hexec hown hlink hnamed hmethM hstM hkP hkPi hy (a := b) (cell := cellB) hcell
    (fun z h => by rw [h] at hobj; cases hobj) hselP hmethM habM hkP hkPi (g := g) hg (argsL := argsL) (rest := rest) (hlen _ hsigM) hstack hdg
  rcases hK m meth c ⟨T.setVm vm₁, locs, cells, slots⟩ { g with stack := rest } (.invokevirtual index) mk (Value.ref b :: argsL).toArray X₁ hg hsize hdg hW (X₁.named hnamed) (hpre vm₁ X₁.warmed) with ⟨v, B, X', hpost, hsteps⟩ | ⟨q, B, X', hpost, hsteps⟩
  · exact Or.inl ⟨v, vm₁, B, X₁.warmed, X', hpost, fun target h => hstep₁ _ fun acts => by rw [doInvoke_state]; exact hsteps.trans h⟩
  · exact Or.inr ⟨q, vm₁, B, X₁.warmed, X', hpost, hstep₁ _ fun acts => by rw [doInvoke_state]; exact hsteps⟩
theorem vx_callS (X : Stand p l e R s m args below meth c T locs cells slots) (hexec : p.tables.exec = Jvm.exec) {own : String} {index : Nat} {y : MethodName} {bytes : ByteArray} {maxL : Nat} {ret : Option FieldType}
    (hown : s.vm.findClass own = some m.cls) (hlink : (Cond.methodLink own index y).before args s = true) (hstat : (Cond.static y).before args s = true) (hinit : (Cond.initialized y.cls).before args s = true)
    (hcode : (Cond.code y bytes maxL ret).before args s = true) (hy : y.cls ≠ "java/lang/invoke/MethodHandle" ∧ y.cls ≠ "java/lang/invoke/VarHandle")
    {W9 : Nat} {Pre : Pt → Array Value → Prop} {Post : Pt → Array Value → Option Value → Pt → Prop} {PostX : Pt → Array Value → Addr → Pt → Prop} (hK : vx_Back l R p e below s args y 3 W9 Pre Post PostX)
    {g : JFrame} (hg : g.method = m) (hsize : g.locals.size = c.maxLocals) {argsL rest : List Value} (hlen : ∀ sig, parseMethodDescriptor y.desc = some sig → argsL.length = sig.parameters.length)
    (hstack : g.stack = argsL.reverse ++ rest) (hW : 2 * g.monitorRoom + (rest.map fun v => v.category).sum ≤ W9) (hdg : decode c.code g.pc = .ok (.invokestatic index, 3))
    (hpre : ∀ vm₁, s.WarmedH vm₁ → Pre ⟨T.setVm vm₁, locs, cells, slots⟩ argsL.toArray) :
    (∃ (v : Option Value) (vm₁ : Vm) (B : Pt), s.WarmedH vm₁ ∧ Stand p l e R s m args below meth c B.U B.locs B.cells B.slots ∧ Post ⟨T.setVm vm₁, locs, cells, slots⟩ argsL.toArray v B ∧
      ∀ target, Steps p.tables e below (B.U.setTop { g with pc := g.pc + 3, stack := v.toList ++ rest }) target → Steps p.tables e below (T.setTop g) target) ∨
    (∃ (q : Addr) (vm₁ : Vm) (B : Pt), s.WarmedH vm₁ ∧ Stand p l e R s m args below meth c B.U B.locs B.cells B.slots ∧ PostX ⟨T.setVm vm₁, locs, cells, slots⟩ argsL.toArray q B ∧
      Steps p.tables e below (T.setTop g) ((B.U.setTop { g with stack := rest }).pushFrame (.throwing q))) := by
  obtain ⟨mk, hnamed⟩ := Cond.code_named hcode
  obtain ⟨methM, cM, hmethM, -, -, -, -, -, -, hsigM⟩ := Cond.code_spec hnamed hcode
  have hstatic : methM.isStatic = true := Cond.static_spec hnamed hmethM hstat
  obtain ⟨kP, hkP, -⟩ := className_of_methodNamed hnamed
  have hinitP : kP.init = .initialized := Cond.initialized_spec (findClass_of_methodNamed hnamed) hkP hinit
  obtain ⟨vm₁, X₁, hstep₁⟩ := X.invokestatic hexec hown hlink hnamed hmethM hstatic hkP hinitP hy (g := g) hg (argsL := argsL) (rest := rest) (hlen _ hsigM) hstack hdg
  rcases hK m meth c ⟨T.setVm vm₁, locs, cells, slots⟩ { g with stack := rest } (.invokestatic index) mk argsL.toArray X₁ hg hsize hdg hW (X₁.named hnamed) (hpre vm₁ X₁.warmed) with ⟨v, B, X', hpost, hsteps⟩ | ⟨q, B, X', hpost, hsteps⟩
  · exact Or.inl ⟨v, vm₁, B, X₁.warmed, X', hpost, fun target h => hstep₁ _ fun acts => by rw [doInvoke_state]; exact hsteps.trans h⟩
  · exact Or.inr ⟨q, vm₁, B, X₁.warmed, X', hpost, hstep₁ _ fun acts => by rw [doInvoke_state]; exact hsteps⟩
end Calls
theorem vx_cls {s : State} {T : State} {vm₁ : Vm} {E : String} {k : ClassId} (hW : s.WarmedH vm₁) (h : (T.setVm vm₁).vm.findClass E = some k) : s.vm.findClass E = some k := by
  have h1 : vm₁.findClass E = some k := h
  rw [hW.alike.findClass] at h1
  exact h1
/-- the method's frame g, with q thrown over it -/
def vx_W (p : Program) (l : Launch) (e : Env) (R : Room) (s : State) (m : MethodId) (args : Array Value) (below : List Frame) (meth : Method) (c : Code) (H : Heap) (locs : List Loc) (cells slots : Nat) (Q : State → Prop) (g : JFrame) (q : Addr) : Prop :=
  ∀ T : State, T.heap = H → Stand p l e R s m args below meth c T locs cells slots → ∃ t, Steps p.tables e below ((T.setTop g).pushFrame (.throwing q)) t ∧ Q t
def vx_Run (p : Program) (l : Launch) (e : Env) (R : Room) (s : State) (m : MethodId) (args : Array Value) (below : List Frame) (meth : Method) (c : Code) (H : Heap) (locs : List Loc) (cells slots mc ms : Nat) (g : JFrame) (rest : List Value) (Qa : State → Outcome → State → Prop) (XC : String → State → State → Prop) (free : Addr → Prop) : Prop :=
  ∀ T : State, T.heap = H → Stand p l e R s m args below meth c T locs cells slots →
    (∃ (v : Option Value) (st₀ t T' : State) (L : List Loc), st₀.heap = H ∧ Stand p l e R s m args below meth c T' (locs ++ L) (cells + mc) (slots + ms) ∧ (∀ q ∈ L, free q.base) ∧ T'.heap = t.heap ∧ T'.vm = t.vm ∧ Qa st₀ (.returned v) t ∧
      Goes p e below T g T' { g with pc := g.pc + 3, stack := v.toList ++ rest }) ∨
    (∃ (q : Addr) (st₀ t T' : State) (L : List Loc) (E : String) (ce : Cell), st₀.heap = H ∧ Stand p l e R s m args below meth c T' (locs ++ L) (cells + mc) (slots + ms) ∧ (∀ z ∈ L, free z.base) ∧ T'.heap = t.heap ∧ T'.vm = t.vm ∧ XC E st₀ t ∧ t.heap[q]? = some ce ∧ ce.vm = .none ∧ s.vm.findClass E = some ce.cls ∧
      Steps p.tables e below (T.setTop g) ((T'.setTop { g with stack := rest }).pushFrame (.throwing q)))
def vx_X {S : Type} (px : S → Prop) (B : String → S → State → Prop) (A : Nat → Prop) : String → State → State → Prop := fun E st t => ∃ u : S, px u ∧ B E u t ∧ va_F A st t
section Runs
variable {p : Program} {l : Launch} {e : Env} {R : Room} {s : State} {m : MethodId} {args : Array Value} {below : List Frame} {meth : Method} {c : Code} {H : Heap} {locs : List Loc} {cells slots : Nat}
variable {y : MethodName} {bytes cc : ByteArray} {maxL nL mc ms n index : Nat} {ret : Option FieldType} {ws : List Cond} {rm : Room} {Pc : Array Value → State → Prop} {Qc : Array Value → State → Outcome → State → Prop} {XC : String → State → State → Prop} {free : Addr → Prop} {Ts : List Cond} {own C : String} {b : Addr} {As rest : List Value} {g : JFrame}
theorem vx_callBack (cb : CallB R s args own index y bytes maxL ret ws rm mc ms n) (hM : vx_Met l y ws rm Pc Qc XC mc ms free) (hbl : FrameBlind Pc) : vx_Back l R p e below s args y 3 8 (PreOf R mc ms Pc) (PostOf Qc mc ms free) (vx_Post XC mc ms free) := by
  obtain ⟨hrc, hrs, hfr, hlo, hws, hcw, -, hini, -⟩ := cb
  exact vx_back (bytes := bytes) (maxL := maxL) (ret := ret) hM hbl hrc hrs hfr hlo hws hcw (fun a' U hW => word_at hW (Or.inl (by first | rfl | simp [Cond.onTables, Cond.keeps, Cond.steady])) hini)
theorem vx_runV (S : CallFix p m c cc nL s args Ts own) (hM : vx_Met l y ws rm Pc Qc XC mc ms free) (cw : CallW R s args own C index y bytes maxL ret ws rm mc ms n) (hp : PreV s H C b Pc As)
    (hg : g.method = m) (hn : As.length = n) (hsize : g.locals.size = nL) (hstack : g.stack = As.reverse ++ .ref b :: rest) (hW : 2 * g.monitorRoom + (rest.map fun v => v.category).sum ≤ 8) (hdg : decode cc g.pc = .ok (.invokevirtual index, 3)) (hf : cells + mc ≤ R.cells ∧ slots + ms ≤ R.slots) :
    vx_Run p l e R s m args below meth c H locs cells slots mc ms g rest (Qc (Value.ref b :: As).toArray) XC free := by
  have hK : vx_Back l R p e below s args y 3 8 (PreOf R mc ms Pc) (PostOf Qc mc ms free) (vx_Post XC mc ms free) := vx_callBack cw.1 hM hp.1
  obtain ⟨⟨-, -, -, -, -, -, hcode, -, hy, hlen, hl⟩, hin, hse⟩ := cw
  obtain ⟨hx, hb, hml, ho, -⟩ := S
  obtain ⟨-, ⟨cellB, hcB, hoB, hclB⟩, hPc⟩ := hp
  intro T hT X
  rcases vx_callV X hx (C := C) (bytes := bytes) (maxL := maxL) (ret := ret) ho hl hin hse hcode hy hK (by rw [hT]; exact hcB) hoB hclB hg (hsize.trans hml.symm) (argsL := As) (rest := rest) (fun sig h => hn.trans (hlen sig h)) hstack hW (by rw [hb]; exact hdg)
    (fun vm₁ hW₁ => ⟨hf.1, hf.2, hPc (T.setVm vm₁) hT hW₁⟩) with ⟨v, vm₁, ⟨U', l2, c2, s2⟩, hW₁, X', ⟨g', mk, t, L, e1, e2, hq, h1, hL, h2, h3⟩, st⟩ | ⟨q, vm₁, ⟨U', l2, c2, s2⟩, hW₁, X', ⟨g', mk, t, L, E, ce, e1, e2, hq, hce, hcv, hcl, h1, hL, h2, h3⟩, st⟩
  · dsimp only [Pt.U, Pt.locs, Pt.cells, Pt.slots] at X' e1 e2 h1 h2 h3 st
    subst h1; subst h2; subst h3
    exact Or.inl ⟨v, (T.setVm vm₁).calling g' mk (Value.ref b :: As).toArray, t, U', L, hT, X', hL, e1, e2, hq, st⟩
  · dsimp only [Pt.U, Pt.locs, Pt.cells, Pt.slots] at X' e1 e2 h1 h2 h3 st hcl
    subst h1; subst h2; subst h3
    exact Or.inr ⟨q, (T.setVm vm₁).calling g' mk (Value.ref b :: As).toArray, t, U', L, E, ce, hT, X', hL, e1, e2, hq, hce, hcv, vx_cls hW₁ hcl, st⟩
theorem vx_runS (S : CallFix p m c cc nL s args Ts own) (hM : vx_Met l y ws rm Pc Qc XC mc ms free) (cw : CallB R s args own index y bytes maxL ret ws rm mc ms n ∧ (Cond.static y).before args s = true) (hp : PreS s H Pc As)
    (hg : g.method = m) (hn : As.length = n) (hsize : g.locals.size = nL) (hstack : g.stack = As.reverse ++ rest) (hW : 2 * g.monitorRoom + (rest.map fun v => v.category).sum ≤ 8) (hdg : decode cc g.pc = .ok (.invokestatic index, 3)) (hf : cells + mc ≤ R.cells ∧ slots + ms ≤ R.slots) :
    vx_Run p l e R s m args below meth c H locs cells slots mc ms g rest (Qc As.toArray) XC free := by
  have hK : vx_Back l R p e below s args y 3 8 (PreOf R mc ms Pc) (PostOf Qc mc ms free) (vx_Post XC mc ms free) := vx_callBack cw.1 hM hp.1
  obtain ⟨⟨-, -, -, -, -, -, hcode, hini, hy, hlen, hl⟩, hstt⟩ := cw
  obtain ⟨hx, hb, hml, ho, -⟩ := S
  intro T hT X
  rcases vx_callS X hx (bytes := bytes) (maxL := maxL) (ret := ret) ho hl hstt hini hcode hy hK hg (hsize.trans hml.symm) (argsL := As) (rest := rest) (fun sig h => hn.trans (hlen sig h)) hstack hW (by rw [hb]; exact hdg)
    (fun vm₁ hW₁ => ⟨hf.1, hf.2, hp.2 (T.setVm vm₁) hT hW₁⟩) with ⟨v, vm₁, ⟨U', l2, c2, s2⟩, hW₁, X', ⟨g', mk, t, L, e1, e2, hq, h1, hL, h2, h3⟩, st⟩ | ⟨q, vm₁, ⟨U', l2, c2, s2⟩, hW₁, X', ⟨g', mk, t, L, E, ce, e1, e2, hq, hce, hcv, hcl, h1, hL, h2, h3⟩, st⟩
  · dsimp only [Pt.U, Pt.locs, Pt.cells, Pt.slots] at X' e1 e2 h1 h2 h3 st
    subst h1; subst h2; subst h3
    exact Or.inl ⟨v, (T.setVm vm₁).calling g' mk As.toArray, t, U', L, hT, X', hL, e1, e2, hq, st⟩
  · dsimp only [Pt.U, Pt.locs, Pt.cells, Pt.slots] at X' e1 e2 h1 h2 h3 st hcl
    subst h1; subst h2; subst h3
    exact Or.inr ⟨q, (T.setVm vm₁).calling g' mk As.toArray, t, U', L, E, ce, hT, X', hL, e1, e2, hq, hce, hcv, vx_cls hW₁ hcl, st⟩
end Runs
section Rows
variable {p : Program} {l : Launch} {e : Env} {R : Room} {s : State} {m : MethodId} {args : Array Value} {below : List Frame} {meth : Method} {c : Code} {H : Heap} {locs : List Loc} {cells slots : Nat} {Q : State → Prop}
variable {mc ms : Nat} {free : Addr → Prop} {A0 A1 : Nat → Prop} {H0 : Heap} {a : Array Value} {pc : Nat} {ls : Array Slot} {st0 rest : List Value}
theorem vx_keep {st₀ t T' : State} {L : List Loc} (h0 : st₀.heap = H) (e1 : T'.heap = t.heap) (hS : va_S A0 H0 H locs) (hA : ∀ q, q < H.size → A1 q → A0 q) (hf : ∀ q, free q → A0 q) (hL : ∀ q ∈ L, free q.base) (hF : va_F A1 st₀ t) :
    H.size ≤ T'.heap.size ∧ (∀ q : Nat, q < H.size → ¬ A1 q → T'.heap[q]? = H[q]?) ∧ va_S A0 H0 T'.heap (locs ++ L) := by
  obtain ⟨hz, hk⟩ := hF
  rw [h0] at hz hk
  exact ⟨by rw [e1]; exact hz, fun q h1 h2 => by rw [e1]; exact hk q h1 h2,
    ⟨Nat.le_trans hS.1 (by rw [e1]; exact hz), fun q h1 h2 => by rw [e1, hk q (Nat.lt_of_lt_of_le h1 hS.1) (fun z => h2 (hA q (Nat.lt_of_lt_of_le h1 hS.1) z))]; exact hS.2.1 q h1 h2, fun q hq => by
      rcases List.mem_append.mp hq with h | h
      · exact hS.2.2 q h
      · exact hf _ (hL q h)⟩⟩
theorem vx_calli {S SX : Type} {post : Int32 → S → Prop} {px : SX → Prop} {B : S → State → Prop} {BX : String → SX → State → Prop} {AX : Nat → Prop} (hr : vx_Run p l e R s m args below meth c H locs cells slots mc ms (F0 m pc ls st0) rest (va_Qi post B A1 a) (vx_X px BX AX) free) (hS : va_S A0 H0 H locs) (hA : ∀ q, q < H.size → A1 q → A0 q) (hf : ∀ q, free q → A0 q) (hAX : ∀ q, q < H.size → AX q → A0 q)
    (kx : ∀ (E : String) (ce : Cell) (q9 : Addr) (u : SX) (t : State) (H1 : Heap) (locs1 : List Loc), t.heap = H1 → s.vm.Alike t.vm → px u → BX E u t → H.size ≤ H1.size → (∀ q : Nat, q < H.size → ¬ AX q → H1[q]? = H[q]?) → va_S A0 H0 H1 locs1 → H1[q9]? = some ce → ce.vm = .none → s.vm.findClass E = some ce.cls → vx_W p l e R s m args below meth c H1 locs1 (cells + mc) (slots + ms) Q (F0 m pc ls rest) q9)
    (kk : ∀ (r : Int32) (u : S) (t : State) (H1 : Heap) (locs1 : List Loc), t.heap = H1 → s.vm.Alike t.vm → post r u → B u t → H.size ≤ H1.size → (∀ q : Nat, q < H.size → ¬ A1 q → H1[q]? = H[q]?) → va_S A0 H0 H1 locs1 → W p l e R s m args below meth c H1 locs1 (cells + mc) (slots + ms) Q (F0 m (pc + 3) ls (.int r :: rest))) : W p l e R s m args below meth c H locs cells slots Q (F0 m pc ls st0) := by
  intro T hT X
  rcases hr T hT X with ⟨v, st₀, t, T', L, h0, X', hL, e1, e2, ⟨⟨r, u, hv, hp, hb⟩, hF⟩, st⟩ | ⟨q, st₀, t, T', L, E, ce, h0, X', hL, e1, e2, ⟨u, hp, hb, hF⟩, hce, hcv, hcl, st⟩
  · cases hv
    obtain ⟨k1, k2, k3⟩ := vx_keep h0 e1 hS hA hf hL hF
    obtain ⟨t2, a1, b1⟩ := kk r u t T'.heap (locs ++ L) e1.symm (by rw [← e2]; exact X'.warmed.alike) hp hb k1 k2 k3 T' rfl X'
    exact ⟨t2, st t2 a1, b1⟩
  · obtain ⟨k1, k2, k3⟩ := vx_keep h0 e1 hS hAX hf hL hF
    obtain ⟨t2, a1, b1⟩ := kx E ce q u t T'.heap (locs ++ L) e1.symm (by rw [← e2]; exact X'.warmed.alike) hp hb k1 k2 k3 (by rw [e1]; exact hce) hcv hcl T' rfl X'
    exact ⟨t2, st.trans a1, b1⟩
theorem vx_calll {S SX : Type} {post : Int64 → S → Prop} {px : SX → Prop} {B : S → State → Prop} {BX : String → SX → State → Prop} {AX : Nat → Prop} (hr : vx_Run p l e R s m args below meth c H locs cells slots mc ms (F0 m pc ls st0) rest (va_Ql post B A1 a) (vx_X px BX AX) free) (hS : va_S A0 H0 H locs) (hA : ∀ q, q < H.size → A1 q → A0 q) (hf : ∀ q, free q → A0 q) (hAX : ∀ q, q < H.size → AX q → A0 q)
    (kx : ∀ (E : String) (ce : Cell) (q9 : Addr) (u : SX) (t : State) (H1 : Heap) (locs1 : List Loc), t.heap = H1 → s.vm.Alike t.vm → px u → BX E u t → H.size ≤ H1.size → (∀ q : Nat, q < H.size → ¬ AX q → H1[q]? = H[q]?) → va_S A0 H0 H1 locs1 → H1[q9]? = some ce → ce.vm = .none → s.vm.findClass E = some ce.cls → vx_W p l e R s m args below meth c H1 locs1 (cells + mc) (slots + ms) Q (F0 m pc ls rest) q9)
    (kk : ∀ (r : Int64) (u : S) (t : State) (H1 : Heap) (locs1 : List Loc), t.heap = H1 → s.vm.Alike t.vm → post r u → B u t → H.size ≤ H1.size → (∀ q : Nat, q < H.size → ¬ A1 q → H1[q]? = H[q]?) → va_S A0 H0 H1 locs1 → W p l e R s m args below meth c H1 locs1 (cells + mc) (slots + ms) Q (F0 m (pc + 3) ls (.long r :: rest))) : W p l e R s m args below meth c H locs cells slots Q (F0 m pc ls st0) := by
  intro T hT X
  rcases hr T hT X with ⟨v, st₀, t, T', L, h0, X', hL, e1, e2, ⟨⟨r, u, hv, hp, hb⟩, hF⟩, st⟩ | ⟨q, st₀, t, T', L, E, ce, h0, X', hL, e1, e2, ⟨u, hp, hb, hF⟩, hce, hcv, hcl, st⟩
  · cases hv
    obtain ⟨k1, k2, k3⟩ := vx_keep h0 e1 hS hA hf hL hF
    obtain ⟨t2, a1, b1⟩ := kk r u t T'.heap (locs ++ L) e1.symm (by rw [← e2]; exact X'.warmed.alike) hp hb k1 k2 k3 T' rfl X'
    exact ⟨t2, st t2 a1, b1⟩
  · obtain ⟨k1, k2, k3⟩ := vx_keep h0 e1 hS hAX hf hL hF
    obtain ⟨t2, a1, b1⟩ := kx E ce q u t T'.heap (locs ++ L) e1.symm (by rw [← e2]; exact X'.warmed.alike) hp hb k1 k2 k3 (by rw [e1]; exact hce) hcv hcl T' rfl X'
    exact ⟨t2, st.trans a1, b1⟩
theorem vx_callf {S SX : Type} {post : UInt32 → S → Prop} {px : SX → Prop} {B : S → State → Prop} {BX : String → SX → State → Prop} {AX : Nat → Prop} (hr : vx_Run p l e R s m args below meth c H locs cells slots mc ms (F0 m pc ls st0) rest (va_Qf post B A1 a) (vx_X px BX AX) free) (hS : va_S A0 H0 H locs) (hA : ∀ q, q < H.size → A1 q → A0 q) (hf : ∀ q, free q → A0 q) (hAX : ∀ q, q < H.size → AX q → A0 q)
    (kx : ∀ (E : String) (ce : Cell) (q9 : Addr) (u : SX) (t : State) (H1 : Heap) (locs1 : List Loc), t.heap = H1 → s.vm.Alike t.vm → px u → BX E u t → H.size ≤ H1.size → (∀ q : Nat, q < H.size → ¬ AX q → H1[q]? = H[q]?) → va_S A0 H0 H1 locs1 → H1[q9]? = some ce → ce.vm = .none → s.vm.findClass E = some ce.cls → vx_W p l e R s m args below meth c H1 locs1 (cells + mc) (slots + ms) Q (F0 m pc ls rest) q9)
    (kk : ∀ (r : UInt32) (u : S) (t : State) (H1 : Heap) (locs1 : List Loc), t.heap = H1 → s.vm.Alike t.vm → post r u → B u t → H.size ≤ H1.size → (∀ q : Nat, q < H.size → ¬ A1 q → H1[q]? = H[q]?) → va_S A0 H0 H1 locs1 → W p l e R s m args below meth c H1 locs1 (cells + mc) (slots + ms) Q (F0 m (pc + 3) ls (.float r :: rest))) : W p l e R s m args below meth c H locs cells slots Q (F0 m pc ls st0) := by
  intro T hT X
  rcases hr T hT X with ⟨v, st₀, t, T', L, h0, X', hL, e1, e2, ⟨⟨r, u, hv, hp, hb⟩, hF⟩, st⟩ | ⟨q, st₀, t, T', L, E, ce, h0, X', hL, e1, e2, ⟨u, hp, hb, hF⟩, hce, hcv, hcl, st⟩
  · cases hv
    obtain ⟨k1, k2, k3⟩ := vx_keep h0 e1 hS hA hf hL hF
    obtain ⟨t2, a1, b1⟩ := kk r u t T'.heap (locs ++ L) e1.symm (by rw [← e2]; exact X'.warmed.alike) hp hb k1 k2 k3 T' rfl X'
    exact ⟨t2, st t2 a1, b1⟩
  · obtain ⟨k1, k2, k3⟩ := vx_keep h0 e1 hS hAX hf hL hF
    obtain ⟨t2, a1, b1⟩ := kx E ce q u t T'.heap (locs ++ L) e1.symm (by rw [← e2]; exact X'.warmed.alike) hp hb k1 k2 k3 (by rw [e1]; exact hce) hcv hcl T' rfl X'
    exact ⟨t2, st.trans a1, b1⟩
theorem vx_calld {S SX : Type} {post : UInt64 → S → Prop} {px : SX → Prop} {B : S → State → Prop} {BX : String → SX → State → Prop} {AX : Nat → Prop} (hr : vx_Run p l e R s m args below meth c H locs cells slots mc ms (F0 m pc ls st0) rest (va_Qd post B A1 a) (vx_X px BX AX) free) (hS : va_S A0 H0 H locs) (hA : ∀ q, q < H.size → A1 q → A0 q) (hf : ∀ q, free q → A0 q) (hAX : ∀ q, q < H.size → AX q → A0 q)
    (kx : ∀ (E : String) (ce : Cell) (q9 : Addr) (u : SX) (t : State) (H1 : Heap) (locs1 : List Loc), t.heap = H1 → s.vm.Alike t.vm → px u → BX E u t → H.size ≤ H1.size → (∀ q : Nat, q < H.size → ¬ AX q → H1[q]? = H[q]?) → va_S A0 H0 H1 locs1 → H1[q9]? = some ce → ce.vm = .none → s.vm.findClass E = some ce.cls → vx_W p l e R s m args below meth c H1 locs1 (cells + mc) (slots + ms) Q (F0 m pc ls rest) q9)
    (kk : ∀ (r : UInt64) (u : S) (t : State) (H1 : Heap) (locs1 : List Loc), t.heap = H1 → s.vm.Alike t.vm → post r u → B u t → H.size ≤ H1.size → (∀ q : Nat, q < H.size → ¬ A1 q → H1[q]? = H[q]?) → va_S A0 H0 H1 locs1 → W p l e R s m args below meth c H1 locs1 (cells + mc) (slots + ms) Q (F0 m (pc + 3) ls (.double r :: rest))) : W p l e R s m args below meth c H locs cells slots Q (F0 m pc ls st0) := by
  intro T hT X
  rcases hr T hT X with ⟨v, st₀, t, T', L, h0, X', hL, e1, e2, ⟨⟨r, u, hv, hp, hb⟩, hF⟩, st⟩ | ⟨q, st₀, t, T', L, E, ce, h0, X', hL, e1, e2, ⟨u, hp, hb, hF⟩, hce, hcv, hcl, st⟩
  · cases hv
    obtain ⟨k1, k2, k3⟩ := vx_keep h0 e1 hS hA hf hL hF
    obtain ⟨t2, a1, b1⟩ := kk r u t T'.heap (locs ++ L) e1.symm (by rw [← e2]; exact X'.warmed.alike) hp hb k1 k2 k3 T' rfl X'
    exact ⟨t2, st t2 a1, b1⟩
  · obtain ⟨k1, k2, k3⟩ := vx_keep h0 e1 hS hAX hf hL hF
    obtain ⟨t2, a1, b1⟩ := kx E ce q u t T'.heap (locs ++ L) e1.symm (by rw [← e2]; exact X'.warmed.alike) hp hb k1 k2 k3 (by rw [e1]; exact hce) hcv hcl T' rfl X'
    exact ⟨t2, st.trans a1, b1⟩
theorem vx_callv {S SX : Type} {post : S → Prop} {px : SX → Prop} {B : S → State → Prop} {BX : String → SX → State → Prop} {AX : Nat → Prop} (hr : vx_Run p l e R s m args below meth c H locs cells slots mc ms (F0 m pc ls st0) rest (va_Qv post B A1 a) (vx_X px BX AX) free) (hS : va_S A0 H0 H locs) (hA : ∀ q, q < H.size → A1 q → A0 q) (hf : ∀ q, free q → A0 q) (hAX : ∀ q, q < H.size → AX q → A0 q)
    (kx : ∀ (E : String) (ce : Cell) (q9 : Addr) (u : SX) (t : State) (H1 : Heap) (locs1 : List Loc), t.heap = H1 → s.vm.Alike t.vm → px u → BX E u t → H.size ≤ H1.size → (∀ q : Nat, q < H.size → ¬ AX q → H1[q]? = H[q]?) → va_S A0 H0 H1 locs1 → H1[q9]? = some ce → ce.vm = .none → s.vm.findClass E = some ce.cls → vx_W p l e R s m args below meth c H1 locs1 (cells + mc) (slots + ms) Q (F0 m pc ls rest) q9)
    (kk : ∀ (u : S) (t : State) (H1 : Heap) (locs1 : List Loc), t.heap = H1 → s.vm.Alike t.vm → post u → B u t → H.size ≤ H1.size → (∀ q : Nat, q < H.size → ¬ A1 q → H1[q]? = H[q]?) → va_S A0 H0 H1 locs1 → W p l e R s m args below meth c H1 locs1 (cells + mc) (slots + ms) Q (F0 m (pc + 3) ls (rest))) : W p l e R s m args below meth c H locs cells slots Q (F0 m pc ls st0) := by
  intro T hT X
  rcases hr T hT X with ⟨v, st₀, t, T', L, h0, X', hL, e1, e2, ⟨⟨u, hv, hp, hb⟩, hF⟩, st⟩ | ⟨q, st₀, t, T', L, E, ce, h0, X', hL, e1, e2, ⟨u, hp, hb, hF⟩, hce, hcv, hcl, st⟩
  · cases hv
    obtain ⟨k1, k2, k3⟩ := vx_keep h0 e1 hS hA hf hL hF
    obtain ⟨t2, a1, b1⟩ := kk u t T'.heap (locs ++ L) e1.symm (by rw [← e2]; exact X'.warmed.alike) hp hb k1 k2 k3 T' rfl X'
    exact ⟨t2, st t2 a1, b1⟩
  · obtain ⟨k1, k2, k3⟩ := vx_keep h0 e1 hS hAX hf hL hF
    obtain ⟨t2, a1, b1⟩ := kx E ce q u t T'.heap (locs ++ L) e1.symm (by rw [← e2]; exact X'.warmed.alike) hp hb k1 k2 k3 (by rw [e1]; exact hce) hcv hcl T' rfl X'
    exact ⟨t2, st.trans a1, b1⟩
/-- caught by the row x of this method's table; the rows ahead don't take it -/
theorem vx_catch {own name : String} {E : String} {ce : Cell} {q : Addr} (hown : s.vm.findClass own = some m.cls) (pre : List ExceptionTableEntry) (x : ExceptionTableEntry) (suf : List ExceptionTableEntry) (hsplit : c.exceptionTable.toList = pre ++ x :: suf)
    (hpass : ∀ z ∈ pre, covers z pc = false ∨ (z.catchType ≠ 0 ∧ ∃ nm : String, (Cond.classLink own z.catchType nm).before args s = true ∧ va_Nc E nm s)) (hx : covers x pc = true) (h0 : x.catchType ≠ 0)
    (hlink : (Cond.classLink own x.catchType name).before args s = true) (hcast : (Cond.castable E name).before args s = true) (hcell : H[q]? = some ce) (hv : ce.vm = .none) (hcl : s.vm.findClass E = some ce.cls)
    (kk : W p l e R s m args below meth c H locs cells slots Q (F0 m x.handlerPc ls [.ref q])) : vx_W p l e R s m args below meth c H locs cells slots Q (F0 m pc ls rest) q := by
  intro T hT X
  have hpl : e.platform.magicAccessors = ({} : Platform).magicAccessors := by rw [X.admits.platform]
  obtain ⟨c3, c4, hc3, hc4, hasg⟩ := Cond.castable_spec hcast
  cases Option.some.inj (hc3.symm.trans hcl)
  obtain ⟨c5, hc5, hcl5⟩ := Cond.classLink_spec hown hlink e.platform hpl
  cases Option.some.inj (hc4.symm.trans hc5)
  obtain ⟨vm', X', st⟩ := X.thenCaughtThrough q (g := F0 m pc ls rest) rfl (Steps.refl _) (by rw [hT]; exact hcell) (by rw [hv]; rfl) (by obtain ⟨k9, h9, -⟩ := Vm.findClass_spec hcl; exact ⟨k9, h9⟩) pre x suf hsplit
    (fun z hz => by
      rcases hpass z hz with h | ⟨hz0, nm, hl1, hn1⟩
      · exact Or.inl h
      · obtain ⟨c6, hc6, hcl6⟩ := Cond.classLink_spec hown hl1 e.platform hpl
        obtain ⟨a8, b8, h1, h2, h3⟩ := hn1
        cases Option.some.inj (h1.symm.trans hcl)
        cases Option.some.inj (h2.symm.trans hc6)
        exact Or.inr ⟨hz0, _, hcl6, h3⟩) hx (Or.inr ⟨h0, c4, hcl5, hasg⟩)
  obtain ⟨t, a1, b1⟩ := kk (T.setVm vm') hT X'
  exact ⟨t, st.trans a1, b1⟩
end Rows
section Ends
variable {p : Program} {l : Launch} {e : Env} {R : Room} {s : State} {m : MethodId} {args : Array Value} {below : List Frame} {meth : Method} {c : Code} {H : Heap} {locs : List Loc} {cells slots : Nat} {Q : State → Prop}
variable {mc ms : Nat} {free : Addr → Prop} {A0 A1 : Nat → Prop} {H0 : Heap} {a : Array Value} {ls : Array Slot} {st0 rest : List Value}
variable {Qc : Array Value → State → Outcome → State → Prop} {XC : String → State → State → Prop}
/-- what a body that may throw owes at its end -/
def vx_MQ (below : List Frame) (Qc : Array Value → State → Outcome → State → Prop) (XC : String → State → State → Prop) (a : Array Value) (s : State) (mc ms : Nat) (free : Addr → Prop) : State → Prop := fun t =>
  ∃ o, t.status = .running ∧ Ended t below o ∧ vx_Q Qc XC mc ms free a s o t
theorem vx_ret {g : JFrame} {mc ms : Nat} (k : W p l e R s m args below meth c H locs cells slots (MQ below Qc args s mc ms free) g) : W p l e R s m args below meth c H locs cells slots (vx_MQ below Qc XC args s mc ms free) g := by
  intro T hT X
  obtain ⟨t, a1, o, b1, b2, b3, b4⟩ := k T hT X
  exact ⟨t, a1, o, b1, b2, Or.inl ⟨b3, b4⟩⟩
/-- not caught here: it goes on to the caller -/
theorem vx_widen {g : JFrame} {q : Addr} {k n : Nat} (h1 : cells ≤ k) (h2 : slots ≤ n) (kk : vx_W p l e R s m args below meth c H locs k n Q g q) : vx_W p l e R s m args below meth c H locs cells slots Q g q := fun T hT X => kk T hT (stand_widen X h1 h2)
theorem vx_out {pc : Nat} {E : String} {ce : Cell} {q : Addr} {mc ms : Nat} (hout : ∀ x ∈ c.exceptionTable.toList, covers x pc = false) (hlocks : meth.locks = false) (hcell : H[q]? = some ce) (hv : ce.vm = .none) (hcl : s.vm.findClass E = some ce.cls)
    (hx : ∀ t : State, t.heap = H → s.vm.Alike t.vm → XC E s t) (hf : ∀ z ∈ locs, free z.base) (hc : cells ≤ mc) (hs : slots ≤ ms) :
    vx_W p l e R s m args below meth c H locs cells slots (vx_MQ below Qc XC args s mc ms free) (F0 m pc ls rest) q := by
  intro T hT X
  obtain ⟨st1, hrun, hend, hW, hsm⟩ := X.leaveThrown q (g := F0 m pc ls rest) rfl rfl rfl hout hlocks
  have hcell9 : (T.setFrames (.throwing q :: below)).heap[q]? = some ce := by
    show T.heap[q]? = some ce
    rw [hT]; exact hcell
  exact ⟨_, st1, .threw q, hrun, hend, Or.inr ⟨q, rfl, E, ce, locs, hx _ hT hW.alike, hcell9, hv, hcl, hW, hsm.mono hc hs, hf⟩⟩
theorem vx_frame {U : State} {k n : Nat} (h : s.sameButNew ({ U with vm := s.vm } : State) locs k n) : s.heap.size ≤ U.heap.size ∧ ∀ q : Nat, q < s.heap.size → (∀ z ∈ locs, z.base ≠ q) → U.heap[q]? = s.heap[q]? := by
  obtain ⟨-, h2, -, -, -, h6⟩ := h
  refine ⟨h2, fun q hq hz => ?_⟩
  obtain ⟨c9, e1, e2, e3, e4⟩ := h6 q _ (Array.getElem?_eq_getElem hq)
  have hs : c9.slots = (s.heap[q]).slots := Array.ext_getElem? fun i => e4 i fun hm => hz _ hm rfl
  have h9 : c9 = s.heap[q] := by
    rw [hs] at e2
    exact e2
  have e5 : U.heap[q]? = some c9 := e1
  rw [e5, h9, Array.getElem?_eq_getElem hq]
/-- the words of a throw but the four that speak of the heap -/
def vx_no (w : Cond) : Bool := decide (w ≠ .isRef (.static Bundle.tN "UNASSIGNED_STACK" Bundle.steD)) && decide (w ≠ .isRef (.static Bundle.tN "SUPPRESSED_SENTINEL" Bundle.listD)) && decide (w ≠ .laysStatic Bundle.tN "UNASSIGNED_STACK" Bundle.steD) && decide (w ≠ .laysStatic Bundle.tN "SUPPRESSED_SENTINEL" Bundle.listD)
def vx_at0 (own : String) (ic : Nat) (X : String) (names : List String) : List Cond := (Bundle.ownAtoms0 own ic X names).filter vx_no
def vx_atS (own : String) (ic : Nat) (X : String) (names : List String) : List Cond := (Bundle.ownAtoms own ic X names).filter vx_no
/-- a word that the tables alone decide, or a good one -/
def vx_ot (w : Cond) : Bool := w.onTables || goodWord w
theorem vx_ot_at {args a' : Array Value} {s U : State} {w : Cond} (hW : s.WarmedH U.vm) (hvm : s.vm = U.vm) (hg : vx_ot w = true) (h : w.before args s = true) : w.before a' U = true := by
  simp only [vx_ot, Bool.or_eq_true] at hg
  rcases hg with hg | hg
  · exact va_tabs hg hvm h
  · exact word_at hW (good_of_word hg) h
/-- a list's words: the good ones out of the method's own list, the others by premises of their own -/
theorem vx_hat {args : Array Value} {s : State} {L B : List Cond} (h1 : ∀ w ∈ L.filter goodWord, w.before args s = true) (h2 : ∀ w ∈ L.filter (fun w => !goodWord w), w ∈ B) (h3 : ∀ w ∈ B, w.before args s = true) : ∀ w ∈ L, w.before args s = true := by
  intro w hw
  by_cases g : goodWord w = true
  · exact h1 w (List.mem_filter.mpr ⟨hw, g⟩)
  · refine h3 w (h2 w (List.mem_filter.mpr ⟨hw, ?_⟩))
    show (!goodWord w) = true
    cases hgw : goodWord w
    · rfl
    · exact absurd hgw g
theorem vx_c {args : Array Value} {s : State} {w : Cond} {B : List Cond} (h : w.before args s = true) (t : ∀ w ∈ B, w.before args s = true) : ∀ w' ∈ w :: B, w'.before args s = true := fun w' h' => (List.mem_cons.mp h').elim (fun e => by rw [e]; exact h) (t w')
theorem vx_n {args : Array Value} {s : State} : ∀ w ∈ ([] : List Cond), w.before args s = true := fun _ h => nomatch h
theorem vx_own {args : Array Value} {s : State} {L : List Cond} (h1 : ∀ w ∈ L.filter vx_no, w.before args s = true)
    (hU : (Cond.isRef (.static Bundle.tN "UNASSIGNED_STACK" Bundle.steD)).before args s = true) (hN : (Cond.isRef (.static Bundle.tN "SUPPRESSED_SENTINEL" Bundle.listD)).before args s = true)
    (lU : (Cond.laysStatic Bundle.tN "UNASSIGNED_STACK" Bundle.steD).before args s = true) (lN : (Cond.laysStatic Bundle.tN "SUPPRESSED_SENTINEL" Bundle.listD).before args s = true) : ∀ w ∈ L, w.before args s = true := by
  intro w hw
  by_cases e1 : w = .isRef (.static Bundle.tN "UNASSIGNED_STACK" Bundle.steD)
  · rw [e1]; exact hU
  · by_cases e2 : w = .isRef (.static Bundle.tN "SUPPRESSED_SENTINEL" Bundle.listD)
    · rw [e2]; exact hN
    · by_cases e3 : w = .laysStatic Bundle.tN "UNASSIGNED_STACK" Bundle.steD
      · rw [e3]; exact lU
      · by_cases e4 : w = .laysStatic Bundle.tN "SUPPRESSED_SENTINEL" Bundle.listD
        · rw [e4]; exact lN
        · exact h1 w (List.mem_filter.mpr ⟨hw, by unfold vx_no; rw [decide_eq_true e1, decide_eq_true e2, decide_eq_true e3, decide_eq_true e4]; rfl⟩)
/-- where a static field lies, its class's statics cell in H -/
def vx_L (C n d : String) (A : Nat → Prop) (U : State) (H : Heap) : Prop := ∃ (c : ClassId) (k : Class) (i : Nat) (f : Field) (a : Nat) (cell : Cell), U.vm.findClass C = some c ∧ U.fieldFound? C n d = some (c, k, i, f) ∧ f.isStatic = true ∧ k.statics = some a ∧ H[a]? = some cell ∧ cell.vm.isStatics = true ∧ cell.cls = c ∧ f.slot < cell.slots.size ∧ k.staticTypes[f.slot]? = some f.type ∧ ¬ A a
theorem vx_L.moved {C n d : String} {A : Nat → Prop} {u U : State} {H : Heap} (hvm : u.vm.Alike U.vm) (h : vx_L C n d A u H) : vx_L C n d A U H := by
  obtain ⟨c, k, i, f, a, cell, h1, h2, h3, h4, h5, h6, h7, h8, h9, h10⟩ := h
  obtain ⟨k', hi', he⟩ := State.fieldFound?_setVm hvm h2
  exact ⟨c, k', i, f, a, cell, by rw [hvm.findClass]; exact h1, hi', h3, by rw [he]; exact h4, h5, h6, h7, h8, by rw [he]; exact h9, h10⟩
theorem vx_L.kept {C n d : String} {A : Nat → Prop} {U : State} {H H1 : Heap} (h : vx_L C n d A U H) (hq : ∀ a : Nat, a < H.size → ¬ A a → H1[a]? = H[a]?) : vx_L C n d A U H1 := by
  obtain ⟨c, k, i, f, a, cell, h1, h2, h3, h4, h5, h6, h7, h8, h9, h10⟩ := h
  exact ⟨c, k, i, f, a, cell, h1, h2, h3, h4, by rw [hq a (Array.getElem?_eq_some_iff.mp h5).1 h10]; exact h5, h6, h7, h8, h9, h10⟩
theorem vx_L.narrow {C n d : String} {A B : Nat → Prop} {U : State} {H : Heap} (h : vx_L C n d A U H) (hAB : ∀ q, B q → A q) : vx_L C n d B U H := by
  obtain ⟨c, k, i, f, a, cell, h1, h2, h3, h4, h5, h6, h7, h8, h9, h10⟩ := h
  exact ⟨c, k, i, f, a, cell, h1, h2, h3, h4, h5, h6, h7, h8, h9, fun z => h10 (hAB _ z)⟩
theorem vx_L.word {C n d : String} {A : Nat → Prop} {s : State} {args : Array Value} (h : vx_L C n d A s s.heap) : (Cond.laysStatic C n d).before args s = true := by
  obtain ⟨c, k, i, f, a, cell, h1, h2, h3, h4, h5, h6, h7, h8, h9, -⟩ := h
  show (Cond.laysStatic C n d).holds args s none s [] = true
  exact Cond.laysStatic_of h1 h2 h3 h4 h5 h6 h7 h8 h9
/-- .. and what it holds: null or some reference -/
def vx_Zq (C n d : String) (A : Nat → Prop) (U : State) (H : Heap) : Prop := va_Zq C n d A U H ∧ vx_L C n d A U H
theorem vx_Zq.moved {C n d : String} {A : Nat → Prop} {u U : State} {H : Heap} (hvm : u.vm.Alike U.vm) (h : vx_Zq C n d A u H) : vx_Zq C n d A U H := ⟨va_Zq.moved hvm h.1, vx_L.moved hvm h.2⟩
theorem vx_Zq.kept {C n d : String} {A : Nat → Prop} {U : State} {H H1 : Heap} (h : vx_Zq C n d A U H) (hq : ∀ a : Nat, a < H.size → ¬ A a → H1[a]? = H[a]?) : vx_Zq C n d A U H1 := ⟨va_Zq.kept h.1 hq, vx_L.kept h.2 hq⟩
theorem vx_Zq.narrow {C n d : String} {A B : Nat → Prop} {U : State} {H : Heap} (h : vx_Zq C n d A U H) (hAB : ∀ q, B q → A q) : vx_Zq C n d B U H := ⟨va_Zq.narrow h.1 hAB, vx_L.narrow h.2 hAB⟩
theorem vx_Zqof {args : Array Value} {s : State} {C n d : String} {A : Nat → Prop} (hl : (Cond.laysStatic C n d).before args s = true) (hini : (Cond.initialized C).before args s = true) (h : (Cond.isRef (.static C n d)).before args s = true) (hA : ∀ a : Nat, a < s.heap.size → ¬ A a) : vx_Zq C n d A s s.heap := by
  refine ⟨va_Zqof hl hini h hA, ?_⟩
  obtain ⟨c, k, i, f, a, cell, h1, h2, h3, h4, h5, h6, h7, h8, h9⟩ := Cond.laysStatic_spec hl
  exact ⟨c, k, i, f, a, cell, h1, h2, h3, h4, h5, h6, h7, h8, h9, hA a (Array.getElem?_eq_some_iff.mp h5).1⟩
theorem vx_isRef {C n d : String} {v : Value} {A : Nat → Prop} {s : State} {args : Array Value} (h : va_Z C n d v A s s.heap) (hv : v.isRef = true) : (Cond.isRef (.static C n d)).before args s = true := by
  obtain ⟨cf, kf, fi, f, a, cell, h1, h2, h3, h4, h5, h6, h7, -⟩ := h
  have he : (Term.static C n d).eval args s none [] s = some v := by
    simp [Term.eval, State.fieldNamed?, h1, h2, h4, h5, h6, h7]
  simp only [Cond.before, Cond.holds, Cond.value, he]
  cases v <;> simp_all [Value.isRef]
theorem vx_isRefq {C n d : String} {A : Nat → Prop} {s : State} {args : Array Value} (h : va_Zq C n d A s s.heap) : (Cond.isRef (.static C n d)).before args s = true := by
  rcases h with h | ⟨t, h⟩
  · exact vx_isRef h rfl
  · exact vx_isRef h rfl
/-- the same frame, seen from here: as if the method were called anew in this heap -/
theorem vx_rebase {T : State} (X : Stand p l e R s m args below meth c T locs cells slots) {R' : Room} (hf : R'.frames ≤ R.frames) (hl : R'.locals ≤ R.locals) (hc : cells + R'.cells ≤ R.cells) (hs : slots + R'.slots ≤ R.slots) :
    Stand p l e R' ((T.setVm s.vm).setFrames (.invoking m args :: below)) m args below meth c T [] 0 0 := by
  have htop : (T.setVm s.vm).topJava?.isSome := X.here.top
  have hF : ((T.setVm s.vm).setFrames (.invoking m args :: below)).frames = .invoking m args :: below := State.frames_setFrames _ (State.cur_lt_of_top htop)
  obtain ⟨g₀, hg0⟩ := Option.isSome_iff_exists.mp htop
  obtain ⟨r, hr⟩ := State.topJava?_eq_some.mp hg0
  have hl9 : e.platform.stackLimits (T.setVm s.vm).me = e.platform.stackLimits s.me := X.limits
  have hb9 : (T.setVm s.vm).me.stackBytes = s.me.stackBytes := X.bytes
  refine ⟨X.admits, X.cas, X.clock, hF, ?_, X.hears, X.method, X.code, X.here, X.tail, X.warmed, ?_, ?_, ?_⟩
  · have h := X.room
    have hU : ((T.setVm s.vm).setFrames (.invoking m args :: below)).localsInUse = s.localsInUse := by
      rw [State.localsInUse_invoking hF (meth := meth) (c := c) X.method X.code, State.localsInUse_invoking X.frames X.method X.code]
    simp only [State.hasRoom, Bool.and_eq_true, decide_eq_true_eq] at h ⊢
    obtain ⟨⟨⟨⟨h1, h2, h3, h4, h5, h6⟩, h7⟩, h8⟩, h9⟩ := h
    rw [X.frames, List.length_cons] at h2 h3
    have q1 := X.heapSize
    have q2 := X.used
    simp only [hF, hU, List.length_cons, State.stackLimits_setFrames, State.stackBytes_setFrames, hl9, hb9]
    refine ⟨⟨⟨⟨by omega, by omega, by omega, by omega, by omega, h6⟩, ?_⟩, ?_⟩, X.book⟩
    · show T.heap.size + R'.cells ≤ e.platform.maxCells
      omega
    · show T.slotsUsed + R'.slots ≤ e.platform.maxSlots
      omega
  · rw [State.stackLimits_setFrames]; rfl
  · rw [State.stackBytes_setFrames]; rfl
  · refine ⟨?_, Nat.le_refl _, Nat.le_refl _, ?_, ?_, fun a c9 h9 => ⟨c9, h9, rfl, rfl, fun _ _ => rfl⟩⟩
    · obtain ⟨t, ht, -⟩ := State.frames_cons hr
      show T.setVm s.vm = { ((T.setVm s.vm).setFrames (.invoking m args :: below)).setFrames (T.setVm s.vm).frames with heap := T.heap, slotsUsed := T.slotsUsed }
      rw [State.setFrames_setFrames, State.setFrames_self ht]
      rfl
    · show T.slotsUsed = T.slotsUsed + ((T.heap.toList.drop T.heap.size).map (·.slots.size)).sum
      rw [List.drop_eq_nil_of_le (Nat.le_of_eq Array.length_toList)]
      rfl
    · show ((T.heap.toList.drop T.heap.size).map (·.slots.size)).sum ≤ 0
      rw [List.drop_eq_nil_of_le (Nat.le_of_eq Array.length_toList)]
      exact Nat.le_refl _
/-- 'throw new E()': new; dup; invokespecial; athrow -/
theorem vx_throw0 {cc : ByteArray} {pc : Nat} (hexec : p.tables.exec = Jvm.exec) (hb : c.code = cc) (hl : l.stackTraces = false) {own cls : String} {names : List String} {ik ic mc ms : Nat} {A : Nat → Prop}
    (hown : s.vm.findClass own = some m.cls) (hcls : Bundle.fit cls = true) (hnames : ∀ n ∈ names, Bundle.fit n = true)
    (hk : (Cond.classLink own ik cls).before args s = true) (hini : (Cond.initialized cls).before args s = true) (hat : ∀ w ∈ vx_at0 own ic cls names, w.before args s = true)
    (hgood : ∀ w ∈ Cond.classLink own ik cls :: Cond.initialized cls :: vx_at0 own ic cls names, vx_ot w = true)
    (hU : vx_Zq Bundle.tN "UNASSIGNED_STACK" Bundle.steD A s s.heap) (hN : vx_Zq Bundle.tN "SUPPRESSED_SENTINEL" Bundle.listD A s s.heap) (hS : va_S A s.heap H locs) (hsize : ls.size = c.maxLocals)
    (d0 : decode cc pc = .ok (.new ik, 3)) (d3 : decode cc (pc + 3) = .ok (.dup, 1)) (d4 : decode cc (pc + 4) = .ok (.invokespecial ic, 3)) (d7 : decode cc (pc + 7) = .ok (.athrow, 1))
    (hout : ∀ x ∈ c.exceptionTable.toList, covers x (pc + 7) = false)
    (hRframes : names.length + 3 < R.frames) (hRlocals : (rest.map fun v => v.category).sum + (13 * (names.length + 1) + 42) ≤ R.locals) (hRcells : cells + 1 ≤ R.cells) (hRslots : slots + 6 ≤ R.slots) (hlocks : meth.locks = false)
    (hx : ∀ t : State, s.vm.Alike t.vm → H.size ≤ t.heap.size → (∀ q : Nat, q < H.size → t.heap[q]? = H[q]?) → XC cls s t)
    (hf : ∀ z ∈ locs, free z.base) (hc : cells + 1 ≤ mc) (hs : slots + 6 ≤ ms) :
    W p l e R s m args below meth c H locs cells slots (vx_MQ below Qc XC args s mc ms free) (F0 m pc ls rest) := by
  intro T hT X
  have htr : e.platform.stackTraces = false := (show e.platform.stackTraces = l.stackTraces by rw [X.admits.platform]).trans hl
  have Y := vx_rebase X (R' := { frames := R.frames, locals := R.locals, cells := 1, slots := 6 }) (Nat.le_refl _) (Nat.le_refl _) hRcells hRslots
  obtain ⟨s', hA⟩ : ∃ z, z = (T.setVm s.vm).setFrames (.invoking m args :: below) := ⟨_, rfl⟩
  rw [← hA] at Y
  have hvm : s'.vm = s.vm := by rw [hA]; rfl
  have hhp : s'.heap = H := by rw [hA]; exact hT
  have hW0 : s.WarmedH s'.vm := by rw [hvm]; exact State.WarmedH.refl s
  have hat' : ∀ w ∈ vx_at0 own ic cls names, w.before args s' = true := fun w hw => vx_ot_at hW0 hvm.symm (hgood w (List.mem_cons_of_mem _ (List.mem_cons_of_mem _ hw))) (hat w hw)
  have hk' : (Cond.classLink own ik cls).before args s' = true := vx_ot_at hW0 hvm.symm (hgood _ List.mem_cons_self) hk
  have hini' : (Cond.initialized cls).before args s' = true := vx_ot_at hW0 hvm.symm (hgood _ (List.mem_cons_of_mem _ List.mem_cons_self)) hini
  have hU' : vx_Zq Bundle.tN "UNASSIGNED_STACK" Bundle.steD A s' s'.heap := by rw [hhp]; exact vx_Zq.moved hW0.alike (hU.kept hS.2.1)
  have hN' : vx_Zq Bundle.tN "SUPPRESSED_SENTINEL" Bundle.listD A s' s'.heap := by rw [hhp]; exact vx_Zq.moved hW0.alike (hN.kept hS.2.1)
  have h : ∀ w ∈ Bundle.ownAtoms0 own ic cls names, w.before args s' = true := vx_own hat' (vx_isRefq hU'.1) (vx_isRefq hN'.1) hU'.2.word hN'.2.word
  have hown' : s'.vm.findClass own = some m.cls := by rw [hvm]; exact hown
  have hins : (Cond.instantiable cls 6).before args s' = true := h _ (by simp [Bundle.ownAtoms0])
  obtain ⟨vm₁, cX, kX, hfX, hkX, -, -, X₁, st1⟩ := Y.newCold hexec (own := own) (C := cls) (index := ik) (n := 6) hown' hk' hins hini'
    (g := F0 m pc ls rest) rfl (by rw [hb]; exact d0) (Nat.le_refl _) (Nat.le_refl _)
  generalize hT1 : (T.setVm vm₁).pushCell { cls := cX, slots := kX.instanceTypes.map defaultValue, vm := .none } = T1 at X₁ st1
  have hcat : (Value.ref T.heap.size).category = 1 := rfl
  have hcellA : T1.heap[T.heap.size]? = some (freshCell cX kX) := by rw [← hT1]; exact State.heap_pushCell_size _ _
  have d3' : decode c.code (pc + 3) = .ok (.dup, 1) := by rw [hb]; exact d3
  obtain ⟨U, hsteps, hrun, hend, hW, hsame, ce, hce, hO⟩ := X₁.ctorThrow0 hexec htr (own := own) (cls := cls) (names := names) (ic := ic) hown' hcls hnames h (fun x hx => nomatch hx) hfX hkX hcellA (by rw [hhp, hT]; exact Nat.le_refl _)
    (g := { method := m, pc := pc + 4, locals := ls, stack := .ref T.heap.size :: .ref T.heap.size :: rest, locked := none }) rfl hsize rfl rfl (rest := rest) rfl
    (by rw [hb]; exact d4) (by rw [hb]; exact d7) hout hRframes (by simp only [List.map_cons, List.sum_cons, hcat]; omega) hlocks
  obtain ⟨f1, f2⟩ := vx_frame hsame
  rw [hhp] at f1 f2
  have hWs : s.WarmedH U.vm := State.WarmedH.trans hW0 hW
  have hcl : s.vm.findClass cls = some ce.cls := by
    have h9 := hO.cls
    rw [hvm] at h9
    exact h9
  have hall : s.sameButNew ({ U with vm := s.vm } : State) locs mc ms := by
    subst hA
    obtain ⟨e1, e2⟩ := hsame
    rw [State.setFrames_setFrames] at e1
    have h2 : (T.setVm s.vm).sameButNew ({ U with vm := s.vm } : State) [] (0 + 1) (0 + 6) := ⟨e1, e2⟩
    have h3 := X.same.trans h2
    rw [List.append_nil] at h3
    exact h3.mono hc hs
  refine ⟨U, ?_, .threw T.heap.size, hrun, hend, Or.inr ⟨T.heap.size, rfl, cls, ce, locs, hx U hWs.alike f1 (fun q hq => f2 q hq (fun z hz => nomatch hz)), hce, hO.vm, hcl, hWs, hall, hf⟩⟩
  refine st1 _ ?_
  show Steps p.tables e below (T1.setTop { method := m, pc := pc + 3, locals := ls, stack := .ref T.heap.size :: rest, locked := none }) _
  jvm_step X₁.here [X₁.here.top, hexec, d3', Value.category]
  exact hsteps
/-- 'throw new E("text")': new; dup; ldc; invokespecial; athrow -/
theorem vx_throwS {cc : ByteArray} {pc : Nat} (hexec : p.tables.exec = Jvm.exec) (hb : c.code = cc) (hl : l.stackTraces = false) {own cls text : String} {names : List String} {ik is ic mc ms sa : Nat} {A : Nat → Prop}
    (hown : s.vm.findClass own = some m.cls) (hcls : Bundle.fit cls = true) (hnames : ∀ n ∈ names, Bundle.fit n = true)
    (hk : (Cond.classLink own ik cls).before args s = true) (hini : (Cond.initialized cls).before args s = true) (hstr : vk_R own is text sa s) (hat : ∀ w ∈ vx_atS own ic cls names, w.before args s = true)
    (hgood : ∀ w ∈ Cond.classLink own ik cls :: Cond.initialized cls :: vx_atS own ic cls names, vx_ot w = true)
    (hU : vx_Zq Bundle.tN "UNASSIGNED_STACK" Bundle.steD A s s.heap) (hN : vx_Zq Bundle.tN "SUPPRESSED_SENTINEL" Bundle.listD A s s.heap) (hS : va_S A s.heap H locs) (hsize : ls.size = c.maxLocals)
    (d0 : decode cc pc = .ok (.new ik, 3)) (d3 : decode cc (pc + 3) = .ok (.dup, 1)) (d4 : decode cc (pc + 4) = .ok (.ldc is, 2)) (d6 : decode cc (pc + 6) = .ok (.invokespecial ic, 3)) (d9 : decode cc (pc + 9) = .ok (.athrow, 1))
    (hout : ∀ x ∈ c.exceptionTable.toList, covers x (pc + 9) = false)
    (hRframes : names.length + 3 < R.frames) (hRlocals : (rest.map fun v => v.category).sum + (13 * (names.length + 1) + 43) ≤ R.locals) (hRcells : cells + 1 ≤ R.cells) (hRslots : slots + 6 ≤ R.slots) (hlocks : meth.locks = false)
    (hx : ∀ t : State, s.vm.Alike t.vm → H.size ≤ t.heap.size → (∀ q : Nat, q < H.size → t.heap[q]? = H[q]?) → XC cls s t)
    (hf : ∀ z ∈ locs, free z.base) (hc : cells + 1 ≤ mc) (hs : slots + 6 ≤ ms) :
    W p l e R s m args below meth c H locs cells slots (vx_MQ below Qc XC args s mc ms free) (F0 m pc ls rest) := by
  intro T hT X
  have htr : e.platform.stackTraces = false := (show e.platform.stackTraces = l.stackTraces by rw [X.admits.platform]).trans hl
  have Y := vx_rebase X (R' := { frames := R.frames, locals := R.locals, cells := 1, slots := 6 }) (Nat.le_refl _) (Nat.le_refl _) hRcells hRslots
  obtain ⟨s', hA⟩ : ∃ z, z = (T.setVm s.vm).setFrames (.invoking m args :: below) := ⟨_, rfl⟩
  rw [← hA] at Y
  have hvm : s'.vm = s.vm := by rw [hA]; rfl
  have hhp : s'.heap = H := by rw [hA]; exact hT
  have hW0 : s.WarmedH s'.vm := by rw [hvm]; exact State.WarmedH.refl s
  have hat' : ∀ w ∈ vx_atS own ic cls names, w.before args s' = true := fun w hw => vx_ot_at hW0 hvm.symm (hgood w (List.mem_cons_of_mem _ (List.mem_cons_of_mem _ hw))) (hat w hw)
  have hk' : (Cond.classLink own ik cls).before args s' = true := vx_ot_at hW0 hvm.symm (hgood _ List.mem_cons_self) hk
  have hini' : (Cond.initialized cls).before args s' = true := vx_ot_at hW0 hvm.symm (hgood _ (List.mem_cons_of_mem _ List.mem_cons_self)) hini
  have hU' : vx_Zq Bundle.tN "UNASSIGNED_STACK" Bundle.steD A s' s'.heap := by rw [hhp]; exact vx_Zq.moved hW0.alike (hU.kept hS.2.1)
  have hN' : vx_Zq Bundle.tN "SUPPRESSED_SENTINEL" Bundle.listD A s' s'.heap := by rw [hhp]; exact vx_Zq.moved hW0.alike (hN.kept hS.2.1)
  have h : ∀ w ∈ Bundle.ownAtoms own ic cls names, w.before args s' = true := vx_own hat' (vx_isRefq hU'.1) (vx_isRefq hN'.1) hU'.2.word hN'.2.word
  have hown' : s'.vm.findClass own = some m.cls := by rw [hvm]; exact hown
  have hins : (Cond.instantiable cls 6).before args s' = true := h _ (by simp [Bundle.ownAtoms])
  obtain ⟨vm₁, cX, kX, hfX, hkX, -, -, X₁, st1⟩ := Y.newCold hexec (own := own) (C := cls) (index := ik) (n := 6) hown' hk' hins hini'
    (g := F0 m pc ls rest) rfl (by rw [hb]; exact d0) (Nat.le_refl _) (Nat.le_refl _)
  generalize hT1 : (T.setVm vm₁).pushCell { cls := cX, slots := kX.instanceTypes.map defaultValue, vm := .none } = T1 at X₁ st1
  have hcat : (Value.ref T.heap.size).category = 1 := rfl
  have hcellA : T1.heap[T.heap.size]? = some (freshCell cX kX) := by rw [← hT1]; exact State.heap_pushCell_size _ _
  have d3' : decode c.code (pc + 3) = .ok (.dup, 1) := by rw [hb]; exact d3
  have d4' : decode c.code (pc + 4) = .ok (.ldc is, 2) := by rw [hb]; exact d4
  have hstr' : vk_R own is text sa s' := vk_R.warm hW0 hstr
  obtain ⟨U, hsteps, hrun, hend, hW, hsame, ce, hce, hO⟩ := X₁.ctorThrowS hexec htr (own := own) (cls := cls) (names := names) (ic := ic) hown' hcls hnames h (fun x hx => nomatch hx) hfX hkX hcellA (by rw [hhp, hT]; exact Nat.le_refl _) (msg := .ref sa) rfl
    (g := { method := m, pc := pc + 6, locals := ls, stack := .ref sa :: .ref T.heap.size :: .ref T.heap.size :: rest, locked := none }) rfl hsize rfl rfl (rest := rest) rfl
    (by rw [hb]; exact d6) (by rw [hb]; exact d9) hout hRframes (by simp only [List.map_cons, List.sum_cons, hcat]; omega) hlocks
  obtain ⟨f1, f2⟩ := vx_frame hsame
  rw [hhp] at f1 f2
  have hWs : s.WarmedH U.vm := State.WarmedH.trans hW0 hW
  have hcl : s.vm.findClass cls = some ce.cls := by
    have h9 := hO.cls
    rw [hvm] at h9
    exact h9
  have hall : s.sameButNew ({ U with vm := s.vm } : State) locs mc ms := by
    subst hA
    obtain ⟨e1, e2⟩ := hsame
    rw [State.setFrames_setFrames] at e1
    have h2 : (T.setVm s.vm).sameButNew ({ U with vm := s.vm } : State) [] (0 + 1) (0 + 6) := ⟨e1, e2⟩
    have h3 := X.same.trans h2
    rw [List.append_nil] at h3
    exact h3.mono hc hs
  refine ⟨U, ?_, .threw T.heap.size, hrun, hend, Or.inr ⟨T.heap.size, rfl, cls, ce, locs, hx U hWs.alike f1 (fun q hq => f2 q hq (fun z hz => nomatch hz)), hce, hO.vm, hcl, hWs, hall, hf⟩⟩
  refine st1 _ ?_
  show Steps p.tables e below (T1.setTop { method := m, pc := pc + 3, locals := ls, stack := .ref T.heap.size :: rest, locked := none }) _
  jvm_step X₁.here [X₁.here.top, hexec, d3', Value.category]
  exact X₁.ldcString hexec (own := own) (text := text) (index := is) (a := sa) hown' hstr'.1 hstr'.2
    (g := { method := m, pc := pc + 4, locals := ls, stack := .ref T.heap.size :: .ref T.heap.size :: rest, locked := none }) rfl d4' _ hsteps
/-- 'throw new E("text")', the text by a wide index -/
theorem vx_throwSW {cc : ByteArray} {pc : Nat} (hexec : p.tables.exec = Jvm.exec) (hb : c.code = cc) (hl : l.stackTraces = false) {own cls text : String} {names : List String} {ik is ic mc ms sa : Nat} {A : Nat → Prop}
    (hown : s.vm.findClass own = some m.cls) (hcls : Bundle.fit cls = true) (hnames : ∀ n ∈ names, Bundle.fit n = true)
    (hk : (Cond.classLink own ik cls).before args s = true) (hini : (Cond.initialized cls).before args s = true) (hstr : vk_R own is text sa s) (hat : ∀ w ∈ vx_atS own ic cls names, w.before args s = true)
    (hgood : ∀ w ∈ Cond.classLink own ik cls :: Cond.initialized cls :: vx_atS own ic cls names, vx_ot w = true)
    (hU : vx_Zq Bundle.tN "UNASSIGNED_STACK" Bundle.steD A s s.heap) (hN : vx_Zq Bundle.tN "SUPPRESSED_SENTINEL" Bundle.listD A s s.heap) (hS : va_S A s.heap H locs) (hsize : ls.size = c.maxLocals)
    (d0 : decode cc pc = .ok (.new ik, 3)) (d3 : decode cc (pc + 3) = .ok (.dup, 1)) (d4 : decode cc (pc + 4) = .ok (.ldc_w is, 3)) (d7 : decode cc (pc + 7) = .ok (.invokespecial ic, 3)) (d10 : decode cc (pc + 10) = .ok (.athrow, 1))
    (hout : ∀ x ∈ c.exceptionTable.toList, covers x (pc + 10) = false)
    (hRframes : names.length + 3 < R.frames) (hRlocals : (rest.map fun v => v.category).sum + (13 * (names.length + 1) + 43) ≤ R.locals) (hRcells : cells + 1 ≤ R.cells) (hRslots : slots + 6 ≤ R.slots) (hlocks : meth.locks = false)
    (hx : ∀ t : State, s.vm.Alike t.vm → H.size ≤ t.heap.size → (∀ q : Nat, q < H.size → t.heap[q]? = H[q]?) → XC cls s t)
    (hf : ∀ z ∈ locs, free z.base) (hc : cells + 1 ≤ mc) (hs : slots + 6 ≤ ms) :
    W p l e R s m args below meth c H locs cells slots (vx_MQ below Qc XC args s mc ms free) (F0 m pc ls rest) := by
  intro T hT X
  have htr : e.platform.stackTraces = false := (show e.platform.stackTraces = l.stackTraces by rw [X.admits.platform]).trans hl
  have Y := vx_rebase X (R' := { frames := R.frames, locals := R.locals, cells := 1, slots := 6 }) (Nat.le_refl _) (Nat.le_refl _) hRcells hRslots
  obtain ⟨s', hA⟩ : ∃ z, z = (T.setVm s.vm).setFrames (.invoking m args :: below) := ⟨_, rfl⟩
  rw [← hA] at Y
  have hvm : s'.vm = s.vm := by rw [hA]; rfl
  have hhp : s'.heap = H := by rw [hA]; exact hT
  have hW0 : s.WarmedH s'.vm := by rw [hvm]; exact State.WarmedH.refl s
  have hat' : ∀ w ∈ vx_atS own ic cls names, w.before args s' = true := fun w hw => vx_ot_at hW0 hvm.symm (hgood w (List.mem_cons_of_mem _ (List.mem_cons_of_mem _ hw))) (hat w hw)
  have hk' : (Cond.classLink own ik cls).before args s' = true := vx_ot_at hW0 hvm.symm (hgood _ List.mem_cons_self) hk
  have hini' : (Cond.initialized cls).before args s' = true := vx_ot_at hW0 hvm.symm (hgood _ (List.mem_cons_of_mem _ List.mem_cons_self)) hini
  have hU' : vx_Zq Bundle.tN "UNASSIGNED_STACK" Bundle.steD A s' s'.heap := by rw [hhp]; exact vx_Zq.moved hW0.alike (hU.kept hS.2.1)
  have hN' : vx_Zq Bundle.tN "SUPPRESSED_SENTINEL" Bundle.listD A s' s'.heap := by rw [hhp]; exact vx_Zq.moved hW0.alike (hN.kept hS.2.1)
  have h : ∀ w ∈ Bundle.ownAtoms own ic cls names, w.before args s' = true := vx_own hat' (vx_isRefq hU'.1) (vx_isRefq hN'.1) hU'.2.word hN'.2.word
  have hown' : s'.vm.findClass own = some m.cls := by rw [hvm]; exact hown
  have hins : (Cond.instantiable cls 6).before args s' = true := h _ (by simp [Bundle.ownAtoms])
  obtain ⟨vm₁, cX, kX, hfX, hkX, -, -, X₁, st1⟩ := Y.newCold hexec (own := own) (C := cls) (index := ik) (n := 6) hown' hk' hins hini'
    (g := F0 m pc ls rest) rfl (by rw [hb]; exact d0) (Nat.le_refl _) (Nat.le_refl _)
  generalize hT1 : (T.setVm vm₁).pushCell { cls := cX, slots := kX.instanceTypes.map defaultValue, vm := .none } = T1 at X₁ st1
  have hcat : (Value.ref T.heap.size).category = 1 := rfl
  have hcellA : T1.heap[T.heap.size]? = some (freshCell cX kX) := by rw [← hT1]; exact State.heap_pushCell_size _ _
  have d3' : decode c.code (pc + 3) = .ok (.dup, 1) := by rw [hb]; exact d3
  have d4' : decode c.code (pc + 4) = .ok (.ldc_w is, 3) := by rw [hb]; exact d4
  have hstr' : vk_R own is text sa s' := vk_R.warm hW0 hstr
  obtain ⟨U, hsteps, hrun, hend, hW, hsame, ce, hce, hO⟩ := X₁.ctorThrowS hexec htr (own := own) (cls := cls) (names := names) (ic := ic) hown' hcls hnames h (fun x hx => nomatch hx) hfX hkX hcellA (by rw [hhp, hT]; exact Nat.le_refl _) (msg := .ref sa) rfl
    (g := { method := m, pc := pc + 7, locals := ls, stack := .ref sa :: .ref T.heap.size :: .ref T.heap.size :: rest, locked := none }) rfl hsize rfl rfl (rest := rest) rfl
    (by rw [hb]; exact d7) (by rw [hb]; exact d10) hout hRframes (by simp only [List.map_cons, List.sum_cons, hcat]; omega) hlocks
  obtain ⟨f1, f2⟩ := vx_frame hsame
  rw [hhp] at f1 f2
  have hWs : s.WarmedH U.vm := State.WarmedH.trans hW0 hW
  have hcl : s.vm.findClass cls = some ce.cls := by
    have h9 := hO.cls
    rw [hvm] at h9
    exact h9
  have hall : s.sameButNew ({ U with vm := s.vm } : State) locs mc ms := by
    subst hA
    obtain ⟨e1, e2⟩ := hsame
    rw [State.setFrames_setFrames] at e1
    have h2 : (T.setVm s.vm).sameButNew ({ U with vm := s.vm } : State) [] (0 + 1) (0 + 6) := ⟨e1, e2⟩
    have h3 := X.same.trans h2
    rw [List.append_nil] at h3
    exact h3.mono hc hs
  refine ⟨U, ?_, .threw T.heap.size, hrun, hend, Or.inr ⟨T.heap.size, rfl, cls, ce, locs, hx U hWs.alike f1 (fun q hq => f2 q hq (fun z hz => nomatch hz)), hce, hO.vm, hcl, hWs, hall, hf⟩⟩
  refine st1 _ ?_
  show Steps p.tables e below (T1.setTop { method := m, pc := pc + 3, locals := ls, stack := .ref T.heap.size :: rest, locked := none }) _
  jvm_step X₁.here [X₁.here.top, hexec, d3', Value.category]
  exact X₁.ldcStringW hexec (own := own) (text := text) (index := is) (a := sa) hown' hstr'.1 hstr'.2
    (g := { method := m, pc := pc + 4, locals := ls, stack := .ref T.heap.size :: .ref T.heap.size :: rest, locked := none }) rfl d4' _ hsteps
end Ends
section Bodies
variable {l : Launch}
theorem vx_ofW {y : MethodName} {ws ws' : List Cond} {rm : Room} {Pc : Array Value → State → Prop} {Qc : Array Value → State → Outcome → State → Prop} {XC : String → State → State → Prop} {mc ms : Nat} {free : Addr → Prop} {cc : ByteArray} {maxL : Nat} {ret : Option FieldType}
    (hy : plainName y.cls = true) (hw : ws = Cond.code y cc maxL ret :: ws')
    (body : ∀ p e s m args below meth c s₁, BodyLoose p l y (headSpec ws rm) cc maxL ret e s m args below meth c s₁ → c.maxLocals = maxL → (∀ x ∈ c.exceptionTable.toList, False) → Pc args s →
      W p l e (headSpec ws rm).room s m args below meth c s.heap [] 0 0 (vx_MQ below Qc XC args s mc ms free) (entryFrame m args maxL)) : vx_Met l y ws rm Pc Qc XC mc ms free := by
  refine MetFree.of_bodyS (code := cc) (maxLocals := maxL) (ret := ret) hy ?_ ?_
  · intro args s m h hn
    obtain ⟨meth, c, h1, h2, h3, h4, h5, h6, -, -⟩ := Cond.code_spec hn (atoms_spec (ws := ws) h _ (by rw [hw]; exact List.mem_cons_self))
    exact ⟨meth, c, h1, h2, h3, h4, h5, h6⟩
  · intro p e s m args below meth c s₁ B hml hP _
    have hh0 : s₁.heap = s.heap := by rw [B.state]; rfl
    have ht : ∀ x ∈ c.exceptionTable.toList, False := by
      obtain ⟨meth9, c9, h1, h2, -, -, -, -, h7, -⟩ := Cond.code_spec B.named (atoms_spec (ws := ws) B.pre _ (by rw [hw]; exact List.mem_cons_self))
      cases Option.some.inj (h1.symm.trans B.method)
      cases Option.some.inj (h2.symm.trans (Stand.of_body B).code)
      intro x hx
      rw [Array.isEmpty_iff.mp h7] at hx
      cases hx
    obtain ⟨t, a1, o, b1, b2, b3⟩ := body p e s m args below meth c s₁ B hml ht hP s₁ hh0 (Stand.of_body B)
    exact ⟨t, o, a1, b1, b2, b3⟩
/-- the table of a body with handlers -/
theorem vx_table {p : Program} {x y : MethodName} {S : Spec} {cc bytes : ByteArray} {maxL maxL' : Nat} {ret ret' : Option FieldType} {e : Env} {s s₁ : State} {m : MethodId} {args : Array Value} {below : List Frame} {meth : Method} {c : Code} {hh : List (Nat × Nat × Nat × Nat)}
    (B : BodyLoose p l y S cc maxL ret e s m args below meth c s₁) (h : (Cond.codeWith y bytes maxL' ret' hh).before args s = true) : c.exceptionTable.toList = tableOf hh := by
  obtain ⟨m9, meth9, c9, hn9, h1, h2, -, -, h6, -⟩ := Cond.codeWith_spec h
  cases Option.some.inj (hn9.symm.trans B.named)
  cases Option.some.inj (h1.symm.trans B.method)
  cases Option.some.inj (h2.symm.trans (Stand.of_body B).code)
  rw [← h6, table_eq]
end Bodies
end VXA
/-! ===== END ===== -/
/-! ===== BEGIN a static call of a method with an exception table ===== -/
section VXS
variable {p : Program} {l : Launch} {e : Env} {R : Room} {s : State} {m : MethodId} {args : Array Value} {below : List Frame} {meth : Method} {c : Code} {T : State} {H : Heap} {locs : List Loc} {cells slots : Nat}
abbrev vx_CSW (R : Room) (s : State) (args : Array Value) (own : String) (index : Nat) (y : MethodName) (bytes : ByteArray) (maxL : Nat) (ret : Option FieldType) (hh : List (Nat × Nat × Nat × Nat)) (ws : List Cond) (rm : Room) (mc ms n : Nat) : Prop :=
  (rm.cells = mc ∧ rm.slots = ms ∧ rm.frames + 1 ≤ R.frames ∧ 8 + (maxL + 11) + rm.locals ≤ R.locals ∧ (∀ w ∈ ws, ∀ (a' : Array Value) (U : State), s.WarmedH U.vm → w.before a' U = true) ∧ Cond.codeWith y bytes maxL ret hh ∈ ws) ∧
  (Cond.codeWith y bytes maxL ret hh).before args s = true ∧ (Cond.initialized y.cls).before args s = true ∧ (y.cls ≠ "java/lang/invoke/MethodHandle" ∧ y.cls ≠ "java/lang/invoke/VarHandle") ∧
  (∀ sig, parseMethodDescriptor y.desc = some sig → n = sig.parameters.length) ∧ (Cond.methodLink own index y).before args s = true ∧ (Cond.static y).before args s = true
theorem vx_cwSW {own : String} {index maxL mc ms : Nat} {y : MethodName} {bytes : ByteArray} {ret : Option FieldType} {hh : List (Nat × Nat × Nat × Nat)} {Ts ws ws' : List Cond} {rm : Room} (n : Nat) (ht : ∀ w ∈ Ts, w.before args s = true) (hT : GoodIn Ts (va_wsS own index y ws)) (hw : ws = Cond.codeWith y bytes maxL ret hh :: ws') (hrc : rm.cells = mc) (hrs : rm.slots = ms)
    (hd : y.cls ≠ "java/lang/invoke/MethodHandle" ∧ y.cls ≠ "java/lang/invoke/VarHandle" ∧ (parseMethodDescriptor y.desc).map (fun d => d.parameters.length) = some n) (hR : rm.frames + 1 ≤ R.frames ∧ 8 + (maxL + 11) + rm.locals ≤ R.locals) :
    vx_CSW R s args own index y bytes maxL ret hh ws rm mc ms n := by
  have ok : ∀ w ∈ va_wsS own index y ws, w.before args s = true := fun w h => ht w (hT w h).1
  have hG : GoodIn Ts ws := fun w h => hT w (by unfold va_wsS; exact List.mem_append_right _ h)
  have hc : Cond.codeWith y bytes maxL ret hh ∈ ws := by rw [hw]; exact List.mem_cons_self
  refine ⟨⟨hrc, hrs, hR.1, hR.2, pay_in ht hG, hc⟩, ht _ (hG _ hc).1, ok _ (by simp [va_wsS]), ⟨hd.1, hd.2.1⟩, fun sig h => ?_, ok _ (by simp [va_wsS]), ok _ (by simp [va_wsS])⟩
  have h2 := hd.2.2
  rw [h] at h2
  exact (Option.some.inj h2).symm
theorem vx_callSW (X : Stand p l e R s m args below meth c T locs cells slots) (hexec : p.tables.exec = Jvm.exec) {own : String} {index : Nat} {y : MethodName} {bytes : ByteArray} {maxL : Nat} {ret : Option FieldType} {hh : List (Nat × Nat × Nat × Nat)}
    (hown : s.vm.findClass own = some m.cls) (hlink : (Cond.methodLink own index y).before args s = true) (hstat : (Cond.static y).before args s = true) (hinit : (Cond.initialized y.cls).before args s = true)
    (hcode : (Cond.codeWith y bytes maxL ret hh).before args s = true) (hy : y.cls ≠ "java/lang/invoke/MethodHandle" ∧ y.cls ≠ "java/lang/invoke/VarHandle")
    {W9 : Nat} {Pre : Pt → Array Value → Prop} {Post : Pt → Array Value → Option Value → Pt → Prop} (hK : Back l R p e below s args y 3 W9 Pre Post)
    {g : JFrame} (hg : g.method = m) (hsize : g.locals.size = c.maxLocals) {argsL rest : List Value} (hlen : ∀ sig, parseMethodDescriptor y.desc = some sig → argsL.length = sig.parameters.length)
    (hstack : g.stack = argsL.reverse ++ rest) (hW : 2 * g.monitorRoom + (rest.map fun v => v.category).sum ≤ W9) (hdg : decode c.code g.pc = .ok (.invokestatic index, 3))
    (hpre : ∀ vm₁, s.WarmedH vm₁ → Pre ⟨T.setVm vm₁, locs, cells, slots⟩ argsL.toArray) :
    ∃ (v : Option Value) (vm₁ : Vm) (B : Pt), s.WarmedH vm₁ ∧ Stand p l e R s m args below meth c B.U B.locs B.cells B.slots ∧ Post ⟨T.setVm vm₁, locs, cells, slots⟩ argsL.toArray v B ∧
      ∀ target, Steps p.tables e below (B.U.setTop { g with pc := g.pc + 3, stack := v.toList ++ rest }) target → Steps p.tables e below (T.setTop g) target := by
  obtain ⟨mk, methM, cM, hnamed, hmethM, -, -, -, -, -, -, hsigM⟩ := Cond.codeWith_spec hcode
  have hstatic : methM.isStatic = true := Cond.static_spec hnamed hmethM hstat
  obtain ⟨kP, hkP, -⟩ := className_of_methodNamed hnamed
  have hinitP : kP.init = .initialized := Cond.initialized_spec (findClass_of_methodNamed hnamed) hkP hinit
  obtain ⟨vm₁, X₁, hstep₁⟩ := X.invokestatic hexec hown hlink hnamed hmethM hstatic hkP hinitP hy (g := g) hg (argsL := argsL) (rest := rest) (hlen _ hsigM) hstack hdg
  obtain ⟨v, B, X', hpost, hsteps⟩ := hK m meth c ⟨T.setVm vm₁, locs, cells, slots⟩ { g with stack := rest } (.invokestatic index) mk argsL.toArray X₁ hg hsize hdg hW (X₁.named hnamed) (hpre vm₁ X₁.warmed)
  exact ⟨v, vm₁, B, X₁.warmed, X', hpost, fun target h => hstep₁ _ fun acts => by rw [doInvoke_state]; exact hsteps.trans h⟩
theorem vx_runSW {y : MethodName} {bytes cc : ByteArray} {maxL nL mc ms n index : Nat} {ret : Option FieldType} {hh : List (Nat × Nat × Nat × Nat)} {ws : List Cond} {rm : Room} {Pc : Array Value → State → Prop} {Qc : Array Value → State → Outcome → State → Prop} {free : Addr → Prop} {Ts : List Cond} {own : String} {As rest : List Value} {g : JFrame}
    (S : CallFix p m c cc nL s args Ts own) (hM : Met l y ws rm Pc Qc mc ms free) (cw : vx_CSW R s args own index y bytes maxL ret hh ws rm mc ms n) (hp : PreS s H Pc As)
    (hg : g.method = m) (hn : As.length = n) (hsize : g.locals.size = nL) (hstack : g.stack = As.reverse ++ rest) (hW : 2 * g.monitorRoom + (rest.map fun v => v.category).sum ≤ 8) (hdg : decode cc g.pc = .ok (.invokestatic index, 3)) (hf : cells + mc ≤ R.cells ∧ slots + ms ≤ R.slots) :
    va_Run p l e R s m args below meth c H locs cells slots mc ms g rest (Qc As.toArray) (free) := by
  obtain ⟨⟨hrc, hrs, hfr, hlo, hws, hcw⟩, hcode, hini, hy, hlen, hl, hstt⟩ := cw
  have hK : Back l R p e below s args y 3 8 (PreOf R mc ms Pc) (PostOf Qc mc ms free) := va_backW (hh := hh) (bytes := bytes) (maxL := maxL) (ret := ret) hM hp.1 hrc hrs hfr hlo hws hcw (fun a' U hW => word_at hW (Or.inl (by first | rfl | simp [Cond.onTables, Cond.keeps, Cond.steady])) hini)
  obtain ⟨hx, hb, hml, ho, -⟩ := S
  intro T hT X
  obtain ⟨v, vm₁, ⟨U', l2, c2, s2⟩, hW₁, X', ⟨g', mk, t, L, e1, e2, hq, h1, hL, h2, h3⟩, st⟩ := vx_callSW X hx (hh := hh) (bytes := bytes) (maxL := maxL) (ret := ret) ho hl hstt hini hcode hy hK hg (hsize.trans hml.symm) (argsL := As) (rest := rest) (fun sig h => hn.trans (hlen sig h)) hstack hW (by rw [hb]; exact hdg)
    (fun vm₁ hW₁ => ⟨hf.1, hf.2, hp.2 (T.setVm vm₁) hT hW₁⟩)
  dsimp only [Pt.U, Pt.locs, Pt.cells, Pt.slots] at X' e1 e2 h1 h2 h3 st
  subst h1; subst h2; subst h3
  exact ⟨v, (T.setVm vm₁).calling g' mk As.toArray, t, U', L, hT, X', hL, e1, e2, hq, st⟩
/-- not caught here, past rows that name other classes: it goes on to the caller -/
theorem vx_outP {p : Program} {l : Launch} {e : Env} {R : Room} {s : State} {m : MethodId} {args : Array Value} {below : List Frame} {meth : Method} {c : Code} {H : Heap} {locs : List Loc} {cells slots : Nat} {free : Addr → Prop} {ls : Array Slot} {rest : List Value} {Qc : Array Value → State → Outcome → State → Prop} {XC : String → State → State → Prop}
    {pc : Nat} {own E : String} {ce : Cell} {q : Addr} {mc ms : Nat} (hown : s.vm.findClass own = some m.cls) (hlocks : meth.locks = false)
    (hpass : ∀ z ∈ c.exceptionTable.toList, covers z pc = false ∨ (z.catchType ≠ 0 ∧ ∃ nm : String, (Cond.classLink own z.catchType nm).before args s = true ∧ va_Nc E nm s)) (hcell : H[q]? = some ce) (hv : ce.vm = .none) (hcl : s.vm.findClass E = some ce.cls)
    (hx : ∀ t : State, t.heap = H → s.vm.Alike t.vm → XC E s t) (hf : ∀ z ∈ locs, free z.base) (hc : cells ≤ mc) (hs : slots ≤ ms) :
    vx_W p l e R s m args below meth c H locs cells slots (vx_MQ below Qc XC args s mc ms free) (F0 m pc ls rest) q := by
  intro T hT X
  have hpl : e.platform.magicAccessors = ({} : Platform).magicAccessors := by rw [X.admits.platform]
  obtain ⟨vm', hW', X', st⟩ := X.outThrough hlocks q (g := F0 m pc ls rest) rfl rfl rfl (cell := ce) (by rw [hT]; exact hcell) (by rw [hv]; rfl)
    (by obtain ⟨k9, h9, -⟩ := Vm.findClass_spec hcl; exact ⟨k9, h9⟩) (fun z hz => by
      rcases hpass z hz with h | ⟨hz0, nm, hl1, hn1⟩
      · exact Or.inl h
      · obtain ⟨c6, hc6, hcl6⟩ := Cond.classLink_spec hown hl1 e.platform hpl
        obtain ⟨a8, b8, h1, h2, h3⟩ := hn1
        cases Option.some.inj (h1.symm.trans hcl)
        cases Option.some.inj (h2.symm.trans hc6)
        exact Or.inr ⟨hz0, _, hcl6, h3⟩)
  obtain ⟨g₀, hfr⟩ := X'.frames_eq
  have hcell9 : ((T.setVm vm').setFrames (.throwing q :: below)).heap[q]? = some ce := by
    show T.heap[q]? = some ce
    rw [hT]; exact hcell
  have hend : Ended ((T.setVm vm').setFrames (.throwing q :: below)) below (.threw q) := State.frames_setFrames _ (State.cur_lt_of_frames hfr)
  refine ⟨(T.setVm vm').setFrames (.throwing q :: below), ?_, .threw q, X'.here.running, hend, Or.inr ⟨q, rfl, E, ce, locs, hx _ hT (X'.ends _).1.alike, hcell9, hv, hcl, (X'.ends _).1, (X'.ends _).2.mono hc hs, hf⟩⟩
  rw [X.pushThrowing_eq]
  exact st
/-- a thing of a world lies in the heap -/
theorem vx_lt {D : va_G} {cl : List vw_C} {ws : va_W} {H1 : Heap} (h : va_P D cl ws H1) {k : Nat} {q : Nat × va_E} (hk : ws[k]? = some q) : q.1 < H1.size := (h k q hk).lt
end VXS
/-! ===== END ===== -/
/-! ===== BEGIN methods with a table of their own: called by a name, returning or throwing ===== -/
section VXH
/-! vx_backW, vx_callVX, vx_callSX, vx_callVW, vx_runVW, vx_runVX, vx_runSX, vx_ofWH follow the same proofs as their sisters above (Free/Laws.lean, Shelf42/LK1.lean); vx_outP calls Shelf42/NT130.lean (outThrough). -/
section
variable {l : Launch} {R : Room} {p : Program} {e : Env} {below : List Frame} {s : State} {sargs : Array Value} {y : MethodName} {len W9 : Nat}
theorem vx_backW {ws : List Cond} {rm : Room} {Pc : Array Value → State → Prop} {Qc : Array Value → State → Outcome → State → Prop} {XC : String → State → State → Prop} {mc ms : Nat} {free : Addr → Prop} {bytes : ByteArray} {maxL : Nat} {ret : Option FieldType} {hh : List (Nat × Nat × Nat × Nat)}
    (hM : vx_Met l y ws rm Pc Qc XC mc ms free) (hblind : FrameBlind Pc) (hrc : rm.cells = mc) (hrs : rm.slots = ms)
    (hframes : rm.frames + 1 ≤ R.frames) (hlocals : W9 + (maxL + 11) + rm.locals ≤ R.locals)
    (hws : ∀ w ∈ ws, ∀ a' U, s.WarmedH U.vm → w.before a' U = true) (hcode : Cond.codeWith y bytes maxL ret hh ∈ ws) (hinit : ∀ a' U, s.WarmedH U.vm → (Cond.initialized y.cls).before a' U = true) :
    vx_Back l R p e below s sargs y len W9 (PreOf R mc ms Pc) (PostOf Qc mc ms free) (vx_Post XC mc ms free) := by
  intro m meth c A g ig mk a X hg hsize hdg hW hn hp
  have h1 : (headSpec ws rm).pre.before a A.U = true := atoms_intro fun w hw => hws w hw _ _ X.warmed
  have h2 : (Cond.codeWith y bytes maxL ret hh).before a A.U = true := hws _ hcode _ _ X.warmed
  have h3 : (Cond.initialized y.cls).before a A.U = true := hinit _ _ X.warmed
  have h4 : A.cells + (headSpec ws rm).room.cells ≤ R.cells := by rw [show (headSpec ws rm).room.cells = mc from hrc]; exact hp.1
  have h5 : A.slots + (headSpec ws rm).room.slots ≤ R.slots := by rw [show (headSpec ws rm).room.slots = ms from hrs]; exact hp.2.1
  have hPc : Pc a (A.U.calling g mk a) := hblind _ _ _ _ hp.2.2
  obtain ⟨U, Ls, c0, s0⟩ := A
  dsimp only [Pt.U, Pt.locs, Pt.cells, Pt.slots] at h1 h2 h3 h4 h5 X hn hPc ⊢
  obtain ⟨m9, methY, cY, hn9, hmY, hcY, -, hlY, -⟩ := Cond.codeWith_spec h2
  cases Option.some.inj (hn9.symm.trans hn)
  obtain ⟨kY, hkY, -⟩ := className_of_methodNamed hn
  have hinitY : kY.init = .initialized := Cond.initialized_spec (findClass_of_methodNamed hn) hkY h3
  have h : At U g.method c below := by rw [hg]; exact X.here
  have hlocals9 : W9 + (maxL + 11) + (headSpec ws rm).room.locals ≤ R.locals := hlocals
  have happ : (headSpec ws rm).appliesLoose y e.platform (U.calling g mk a) = true :=
    Spec.appliesLoose_calling (g := g) h hdg hn hkY hinitY
      (X.room_calling (g := g) (R' := (headSpec ws rm).room) hsize hmY hcY hframes (by rw [hlY]; omega) h4 h5) h1
  obtain ⟨mid, hmid⟩ := h.above
  have hfr : (U.setTop g).frames = (.java g :: mid) ++ below := by rw [State.frames_setTop' g h.top, hmid]; rfl
  obtain ⟨o, s₂, hsteps, -, hend, hq⟩ := Steps.callFree hM p X.admits X.cas X.clock (acts := []) hfr happ hPc trivial
  have hq' : vx_Q Qc XC mc ms free a (U.calling g mk a) o s₂ := hq
  rw [State.frames_setTop' g h.top] at hend
  obtain ⟨g₀, hg0⟩ := Option.isSome_iff_exists.mp h.top
  obtain ⟨r, hr⟩ := State.topJava?_eq_some.mp hg0
  have hr' : (({ U with heap := s₂.heap, slotsUsed := s₂.slotsUsed } : State).setVm s₂.vm).frames = .java g₀ :: r := hr
  rcases hq' with ⟨hqc, L, hfe, hL⟩ | ⟨q, rfl, E, ce, L, hx, hce, hcv, hcl, hW₂, hsm, hL⟩
  · obtain ⟨⟨v, rfl⟩, hW₂, e2, q2, q3, q4, q5, q6⟩ := id hfe
    have e3 : s₂ = ({ (U.calling g mk a).setFrames s₂.frames with heap := s₂.heap, slotsUsed := s₂.slotsUsed } : State).setVm s₂.vm := by
      have : s₂ = ({ s₂ with vm := (U.calling g mk a).vm } : State).setVm s₂.vm := rfl
      rw [e2] at this
      exact this
    obtain ⟨c₂, i₂, len₂, hc₂, hd₂, hf₂⟩ := hend
    have hW' : U.WarmedH s₂.vm := hW₂
    have hcc : c₂ = c := by
      have h1 : s₂.code? g.method = U.code? g.method := by
        rw [State.code?_eq, State.code?_eq, hW'.alike.method?]
      exact Option.some.inj (hc₂.symm.trans (h1.trans h.code))
    subst hcc
    have hlen : len₂ = len := by rw [hdg] at hd₂; cases hd₂; rfl
    subst hlen
    have hs₂ : s₂ = (({ U with heap := s₂.heap, slotsUsed := s₂.slotsUsed } : State).setVm s₂.vm).setTop { g with pc := g.pc + len₂, stack := v.toList ++ g.stack } := by
      refine e3.trans ?_
      rw [hf₂, State.calling_eq h.top, State.setFrames_setFrames, State.setTop_of_frames _ hr', hr]
      rfl
    have hsame : U.sameButNew ({ U with heap := s₂.heap, slotsUsed := s₂.slotsUsed } : State) L mc ms := by
      refine ⟨?_, q2, q3, q4, q5, q6⟩
      obtain ⟨t, ht, -⟩ := State.frames_cons hr
      show ({ U with heap := s₂.heap, slotsUsed := s₂.slotsUsed } : State) = { U.setFrames U.frames with heap := s₂.heap, slotsUsed := s₂.slotsUsed }
      rw [State.setFrames_self ht]
    subst hg
    refine Or.inl ⟨v, ⟨(({ U with heap := s₂.heap, slotsUsed := s₂.slotsUsed } : State).setVm s₂.vm), Ls ++ L, c0 + mc, s0 + ms⟩,
      ⟨X.admits, X.cas, X.clock, X.frames, X.room, X.hears, X.method, X.code, (X.here.setHeapUsed s₂.heap s₂.slotsUsed).setVm hW'.alike, X.tail, State.WarmedH.trans X.warmed hW', X.limits, X.bytes, X.same.trans (hsame.setVm s.vm)⟩,
      ⟨g, mk, s₂, L, rfl, rfl, hqc, rfl, hL, rfl, rfl⟩, ?_⟩
    show Steps p.tables e below _ ((({ U with heap := s₂.heap, slotsUsed := s₂.slotsUsed } : State).setVm s₂.vm).setTop { g with pc := g.pc + len₂, stack := v.toList ++ g.stack })
    rw [← hs₂]
    exact hsteps
  · obtain ⟨e2, q2, q3, q4, q5, q6⟩ := id hsm
    have e3 : s₂ = ({ (U.calling g mk a).setFrames s₂.frames with heap := s₂.heap, slotsUsed := s₂.slotsUsed } : State).setVm s₂.vm := by
      have : s₂ = ({ s₂ with vm := (U.calling g mk a).vm } : State).setVm s₂.vm := rfl
      rw [e2] at this
      exact this
    have hf₂ : s₂.frames = .throwing q :: .java g :: U.frames.tail := hend
    have hW' : U.WarmedH s₂.vm := hW₂
    have hs₂ : s₂ = ((({ U with heap := s₂.heap, slotsUsed := s₂.slotsUsed } : State).setVm s₂.vm).setTop g).pushFrame (.throwing q) := by
      refine e3.trans ?_
      rw [hf₂, State.calling_eq h.top, State.setFrames_setFrames, State.pushFrame, State.frames_setTop _ hr', State.setTop_of_frames _ hr', State.setFrames_setFrames, hr]
      rfl
    have hsame : U.sameButNew ({ U with heap := s₂.heap, slotsUsed := s₂.slotsUsed } : State) L mc ms := by
      refine ⟨?_, q2, q3, q4, q5, q6⟩
      obtain ⟨t, ht, -⟩ := State.frames_cons hr
      show ({ U with heap := s₂.heap, slotsUsed := s₂.slotsUsed } : State) = { U.setFrames U.frames with heap := s₂.heap, slotsUsed := s₂.slotsUsed }
      rw [State.setFrames_self ht]
    subst hg
    refine Or.inr ⟨q, ⟨(({ U with heap := s₂.heap, slotsUsed := s₂.slotsUsed } : State).setVm s₂.vm), Ls ++ L, c0 + mc, s0 + ms⟩,
      ⟨X.admits, X.cas, X.clock, X.frames, X.room, X.hears, X.method, X.code, (X.here.setHeapUsed s₂.heap s₂.slotsUsed).setVm hW'.alike, X.tail, State.WarmedH.trans X.warmed hW', X.limits, X.bytes, X.same.trans (hsame.setVm s.vm)⟩,
      ⟨g, mk, s₂, L, E, ce, rfl, rfl, hx, hce, hcv, hcl, rfl, hL, rfl, rfl⟩, ?_⟩
    show Steps p.tables e below _ (((({ U with heap := s₂.heap, slotsUsed := s₂.slotsUsed } : State).setVm s₂.vm).setTop g).pushFrame (.throwing q))
    rw [← hs₂]
    exact hsteps
end
variable {p : Program} {l : Launch} {e : Env} {R : Room} {s : State} {m : MethodId} {args : Array Value} {below : List Frame} {meth : Method} {c : Code} {T : State} {H : Heap} {locs : List Loc} {cells slots : Nat}
theorem vx_callVX (X : Stand p l e R s m args below meth c T locs cells slots) (hexec : p.tables.exec = Jvm.exec) {own C : String} {index : Nat} {y : MethodName} {bytes : ByteArray} {maxL : Nat} {ret : Option FieldType} {hh : List (Nat × Nat × Nat × Nat)}
    (hown : s.vm.findClass own = some m.cls) (hlink : (Cond.methodLink own index y).before args s = true) (hinst : (Cond.instanceMethod y).before args s = true) (hsel : (Cond.selects C y y).before args s = true)
    (hcode : (Cond.codeWith y bytes maxL ret hh).before args s = true) (hy : y.cls ≠ "java/lang/invoke/MethodHandle" ∧ y.cls ≠ "java/lang/invoke/VarHandle")
    {W9 : Nat} {Pre : Pt → Array Value → Prop} {Post : Pt → Array Value → Option Value → Pt → Prop} {PostX : Pt → Array Value → Addr → Pt → Prop} (hK : vx_Back l R p e below s args y 3 W9 Pre Post PostX)
    {b : Addr} {cellB : Cell} (hcell : T.heap[b]? = some cellB) (hobj : cellB.vm.isStatics = false) (hcls : s.vm.findClass C = some cellB.cls)
    {g : JFrame} (hg : g.method = m) (hsize : g.locals.size = c.maxLocals) {argsL rest : List Value} (hlen : ∀ sig, parseMethodDescriptor y.desc = some sig → argsL.length = sig.parameters.length)
    (hstack : g.stack = argsL.reverse ++ .ref b :: rest) (hW : 2 * g.monitorRoom + (rest.map fun v => v.category).sum ≤ W9) (hdg : decode c.code g.pc = .ok (.invokevirtual index, 3))
    (hpre : ∀ vm₁, s.WarmedH vm₁ → Pre ⟨T.setVm vm₁, locs, cells, slots⟩ (Value.ref b :: argsL).toArray) :
    (∃ (v : Option Value) (vm₁ : Vm) (B : Pt), s.WarmedH vm₁ ∧ Stand p l e R s m args below meth c B.U B.locs B.cells B.slots ∧ Post ⟨T.setVm vm₁, locs, cells, slots⟩ (Value.ref b :: argsL).toArray v B ∧
      ∀ target, Steps p.tables e below (B.U.setTop { g with pc := g.pc + 3, stack := v.toList ++ rest }) target → Steps p.tables e below (T.setTop g) target) ∨
    (∃ (q : Addr) (vm₁ : Vm) (B : Pt), s.WarmedH vm₁ ∧ Stand p l e R s m args below meth c B.U B.locs B.cells B.slots ∧ PostX ⟨T.setVm vm₁, locs, cells, slots⟩ (Value.ref b :: argsL).toArray q B ∧
      Steps p.tables e below (T.setTop g) ((B.U.setTop { g with stack := rest }).pushFrame (.throwing q))) := by
  obtain ⟨mk, methM, hnamed, hmethM, hstM, habM⟩ := Cond.instanceMethod_spec hinst
  obtain ⟨m8, methM', cM, hn8, hmethM', -, -, -, -, -, -, hsigM⟩ := Cond.codeWith_spec hcode
  cases Option.some.inj (hn8.symm.trans hnamed)
  cases hmethM.symm.trans hmethM'
  obtain ⟨c2, r2, m2, q1, q2, q3, q4, kP, hkP, hkPi⟩ := Cond.selects_spec hsel
  cases hcls.symm.trans q1
  cases (State.methodFound?_of_named hnamed hy).symm.trans q2
  cases hnamed.symm.trans q3
  have hselP : selectMethod e.platform s.vm cellB.cls mk = .method mk := by rw [Launch.admits_selectMethod X.admits]; exact q4
  obtain ⟨vm₁, X₁, hstep₁⟩ := X.invokevirtual hexec hown hlink hnamed hmethM hstM hkP hkPi hy (a := b) (cell := cellB) hcell
    (fun z h => by rw [h] at hobj; cases hobj) hselP hmethM habM hkP hkPi (g := g) hg (argsL := argsL) (rest := rest) (hlen _ hsigM) hstack hdg
  rcases hK m meth c ⟨T.setVm vm₁, locs, cells, slots⟩ { g with stack := rest } (.invokevirtual index) mk (Value.ref b :: argsL).toArray X₁ hg hsize hdg hW (X₁.named hnamed) (hpre vm₁ X₁.warmed) with ⟨v, B, X', hpost, hsteps⟩ | ⟨q, B, X', hpost, hsteps⟩
  · exact Or.inl ⟨v, vm₁, B, X₁.warmed, X', hpost, fun target h => hstep₁ _ fun acts => by rw [doInvoke_state]; exact hsteps.trans h⟩
  · exact Or.inr ⟨q, vm₁, B, X₁.warmed, X', hpost, hstep₁ _ fun acts => by rw [doInvoke_state]; exact hsteps⟩
theorem vx_callSX (X : Stand p l e R s m args below meth c T locs cells slots) (hexec : p.tables.exec = Jvm.exec) {own : String} {index : Nat} {y : MethodName} {bytes : ByteArray} {maxL : Nat} {ret : Option FieldType} {hh : List (Nat × Nat × Nat × Nat)}
    (hown : s.vm.findClass own = some m.cls) (hlink : (Cond.methodLink own index y).before args s = true) (hstat : (Cond.static y).before args s = true) (hinit : (Cond.initialized y.cls).before args s = true)
    (hcode : (Cond.codeWith y bytes maxL ret hh).before args s = true) (hy : y.cls ≠ "java/lang/invoke/MethodHandle" ∧ y.cls ≠ "java/lang/invoke/VarHandle")
    {W9 : Nat} {Pre : Pt → Array Value → Prop} {Post : Pt → Array Value → Option Value → Pt → Prop} {PostX : Pt → Array Value → Addr → Pt → Prop} (hK : vx_Back l R p e below s args y 3 W9 Pre Post PostX)
    {g : JFrame} (hg : g.method = m) (hsize : g.locals.size = c.maxLocals) {argsL rest : List Value} (hlen : ∀ sig, parseMethodDescriptor y.desc = some sig → argsL.length = sig.parameters.length)
    (hstack : g.stack = argsL.reverse ++ rest) (hW : 2 * g.monitorRoom + (rest.map fun v => v.category).sum ≤ W9) (hdg : decode c.code g.pc = .ok (.invokestatic index, 3))
    (hpre : ∀ vm₁, s.WarmedH vm₁ → Pre ⟨T.setVm vm₁, locs, cells, slots⟩ argsL.toArray) :
    (∃ (v : Option Value) (vm₁ : Vm) (B : Pt), s.WarmedH vm₁ ∧ Stand p l e R s m args below meth c B.U B.locs B.cells B.slots ∧ Post ⟨T.setVm vm₁, locs, cells, slots⟩ argsL.toArray v B ∧
      ∀ target, Steps p.tables e below (B.U.setTop { g with pc := g.pc + 3, stack := v.toList ++ rest }) target → Steps p.tables e below (T.setTop g) target) ∨
    (∃ (q : Addr) (vm₁ : Vm) (B : Pt), s.WarmedH vm₁ ∧ Stand p l e R s m args below meth c B.U B.locs B.cells B.slots ∧ PostX ⟨T.setVm vm₁, locs, cells, slots⟩ argsL.toArray q B ∧
      Steps p.tables e below (T.setTop g) ((B.U.setTop { g with stack := rest }).pushFrame (.throwing q))) := by
  obtain ⟨mk, methM, cM, hnamed, hmethM, -, -, -, -, -, -, hsigM⟩ := Cond.codeWith_spec hcode
  have hstatic : methM.isStatic = true := Cond.static_spec hnamed hmethM hstat
  obtain ⟨kP, hkP, -⟩ := className_of_methodNamed hnamed
  have hinitP : kP.init = .initialized := Cond.initialized_spec (findClass_of_methodNamed hnamed) hkP hinit
  obtain ⟨vm₁, X₁, hstep₁⟩ := X.invokestatic hexec hown hlink hnamed hmethM hstatic hkP hinitP hy (g := g) hg (argsL := argsL) (rest := rest) (hlen _ hsigM) hstack hdg
  rcases hK m meth c ⟨T.setVm vm₁, locs, cells, slots⟩ { g with stack := rest } (.invokestatic index) mk argsL.toArray X₁ hg hsize hdg hW (X₁.named hnamed) (hpre vm₁ X₁.warmed) with ⟨v, B, X', hpost, hsteps⟩ | ⟨q, B, X', hpost, hsteps⟩
  · exact Or.inl ⟨v, vm₁, B, X₁.warmed, X', hpost, fun target h => hstep₁ _ fun acts => by rw [doInvoke_state]; exact hsteps.trans h⟩
  · exact Or.inr ⟨q, vm₁, B, X₁.warmed, X', hpost, hstep₁ _ fun acts => by rw [doInvoke_state]; exact hsteps⟩
theorem vx_callVW (X : Stand p l e R s m args below meth c T locs cells slots) (hexec : p.tables.exec = Jvm.exec) {own C : String} {index : Nat} {y : MethodName} {bytes : ByteArray} {maxL : Nat} {ret : Option FieldType} {hh : List (Nat × Nat × Nat × Nat)}
    (hown : s.vm.findClass own = some m.cls) (hlink : (Cond.methodLink own index y).before args s = true) (hinst : (Cond.instanceMethod y).before args s = true) (hsel : (Cond.selects C y y).before args s = true)
    (hcode : (Cond.codeWith y bytes maxL ret hh).before args s = true) (hy : y.cls ≠ "java/lang/invoke/MethodHandle" ∧ y.cls ≠ "java/lang/invoke/VarHandle")
    {W9 : Nat} {Pre : Pt → Array Value → Prop} {Post : Pt → Array Value → Option Value → Pt → Prop} (hK : Back l R p e below s args y 3 W9 Pre Post)
    {b : Addr} {cellB : Cell} (hcell : T.heap[b]? = some cellB) (hobj : cellB.vm.isStatics = false) (hcls : s.vm.findClass C = some cellB.cls)
    {g : JFrame} (hg : g.method = m) (hsize : g.locals.size = c.maxLocals) {argsL rest : List Value} (hlen : ∀ sig, parseMethodDescriptor y.desc = some sig → argsL.length = sig.parameters.length)
    (hstack : g.stack = argsL.reverse ++ .ref b :: rest) (hW : 2 * g.monitorRoom + (rest.map fun v => v.category).sum ≤ W9) (hdg : decode c.code g.pc = .ok (.invokevirtual index, 3))
    (hpre : ∀ vm₁, s.WarmedH vm₁ → Pre ⟨T.setVm vm₁, locs, cells, slots⟩ (Value.ref b :: argsL).toArray) :
    ∃ (v : Option Value) (vm₁ : Vm) (B : Pt), s.WarmedH vm₁ ∧ Stand p l e R s m args below meth c B.U B.locs B.cells B.slots ∧ Post ⟨T.setVm vm₁, locs, cells, slots⟩ (Value.ref b :: argsL).toArray v B ∧
      ∀ target, Steps p.tables e below (B.U.setTop { g with pc := g.pc + 3, stack := v.toList ++ rest }) target → Steps p.tables e below (T.setTop g) target := by
  obtain ⟨mk, methM, hnamed, hmethM, hstM, habM⟩ := Cond.instanceMethod_spec hinst
  obtain ⟨m8, methM', cM, hn8, hmethM', -, -, -, -, -, -, hsigM⟩ := Cond.codeWith_spec hcode
  cases Option.some.inj (hn8.symm.trans hnamed)
  cases hmethM.symm.trans hmethM'
  obtain ⟨c2, r2, m2, q1, q2, q3, q4, kP, hkP, hkPi⟩ := Cond.selects_spec hsel
  cases hcls.symm.trans q1
  cases (State.methodFound?_of_named hnamed hy).symm.trans q2
  cases hnamed.symm.trans q3
  have hselP : selectMethod e.platform s.vm cellB.cls mk = .method mk := by rw [Launch.admits_selectMethod X.admits]; exact q4
  obtain ⟨vm₁, X₁, hstep₁⟩ := X.invokevirtual hexec hown hlink hnamed hmethM hstM hkP hkPi hy (a := b) (cell := cellB) hcell
    (fun z h => by rw [h] at hobj; cases hobj) hselP hmethM habM hkP hkPi (g := g) hg (argsL := argsL) (rest := rest) (hlen _ hsigM) hstack hdg
  obtain ⟨v, B, X', hpost, hsteps⟩ := hK m meth c ⟨T.setVm vm₁, locs, cells, slots⟩ { g with stack := rest } (.invokevirtual index) mk (Value.ref b :: argsL).toArray X₁ hg hsize hdg hW (X₁.named hnamed) (hpre vm₁ X₁.warmed)
  exact ⟨v, vm₁, B, X₁.warmed, X', hpost, fun target h => hstep₁ _ fun acts => by rw [doInvoke_state]; exact hsteps.trans h⟩
abbrev vx_CVW (R : Room) (s : State) (args : Array Value) (own C : String) (index : Nat) (y : MethodName) (bytes : ByteArray) (maxL : Nat) (ret : Option FieldType) (hh : List (Nat × Nat × Nat × Nat)) (ws : List Cond) (rm : Room) (mc ms n : Nat) : Prop :=
  (rm.cells = mc ∧ rm.slots = ms ∧ rm.frames + 1 ≤ R.frames ∧ 8 + (maxL + 11) + rm.locals ≤ R.locals ∧ (∀ w ∈ ws, ∀ (a' : Array Value) (U : State), s.WarmedH U.vm → w.before a' U = true) ∧ Cond.codeWith y bytes maxL ret hh ∈ ws) ∧
  (Cond.codeWith y bytes maxL ret hh).before args s = true ∧ (Cond.initialized y.cls).before args s = true ∧ (y.cls ≠ "java/lang/invoke/MethodHandle" ∧ y.cls ≠ "java/lang/invoke/VarHandle") ∧
  (∀ sig, parseMethodDescriptor y.desc = some sig → n = sig.parameters.length) ∧ (Cond.methodLink own index y).before args s = true ∧ (Cond.instanceMethod y).before args s = true ∧ (Cond.selects C y y).before args s = true
theorem vx_cwVW {own C : String} {index maxL mc ms : Nat} {y : MethodName} {bytes : ByteArray} {ret : Option FieldType} {hh : List (Nat × Nat × Nat × Nat)} {Ts ws ws' : List Cond} {rm : Room} (n : Nat) (ht : ∀ w ∈ Ts, w.before args s = true) (hT : GoodIn Ts (wsV own index C y ws)) (hw : ws = Cond.codeWith y bytes maxL ret hh :: ws') (hrc : rm.cells = mc) (hrs : rm.slots = ms)
    (hd : y.cls = C ∧ y.cls ≠ "java/lang/invoke/MethodHandle" ∧ y.cls ≠ "java/lang/invoke/VarHandle" ∧ (parseMethodDescriptor y.desc).map (fun d => d.parameters.length) = some n) (hR : rm.frames + 1 ≤ R.frames ∧ 8 + (maxL + 11) + rm.locals ≤ R.locals) :
    vx_CVW R s args own C index y bytes maxL ret hh ws rm mc ms n := by
  obtain ⟨hC, hd⟩ := hd
  subst hC
  have ok : ∀ w ∈ wsV own index y.cls y ws, w.before args s = true := fun w h => ht w (hT w h).1
  have hG : GoodIn Ts ws := fun w h => hT w (by unfold wsV; exact List.mem_append_right _ h)
  have hc : Cond.codeWith y bytes maxL ret hh ∈ ws := by rw [hw]; exact List.mem_cons_self
  refine ⟨⟨hrc, hrs, hR.1, hR.2, pay_in ht hG, hc⟩, ht _ (hG _ hc).1, ok _ (by simp [wsV]), ⟨hd.1, hd.2.1⟩, fun sig h => ?_, ok _ (by simp [wsV]), ok _ (by simp [wsV]), ok _ (by simp [wsV])⟩
  have h2 := hd.2.2
  rw [h] at h2
  exact (Option.some.inj h2).symm
theorem vx_runVW {y : MethodName} {bytes cc : ByteArray} {maxL nL mc ms n index : Nat} {ret : Option FieldType} {hh : List (Nat × Nat × Nat × Nat)} {ws : List Cond} {rm : Room} {Pc : Array Value → State → Prop} {Qc : Array Value → State → Outcome → State → Prop} {free : Addr → Prop} {Ts : List Cond} {own C : String} {b : Addr} {As rest : List Value} {g : JFrame}
    (S : CallFix p m c cc nL s args Ts own) (hM : Met l y ws rm Pc Qc mc ms free) (cw : vx_CVW R s args own C index y bytes maxL ret hh ws rm mc ms n) (hp : PreV s H C b Pc As)
    (hg : g.method = m) (hn : As.length = n) (hsize : g.locals.size = nL) (hstack : g.stack = As.reverse ++ .ref b :: rest) (hW : 2 * g.monitorRoom + (rest.map fun v => v.category).sum ≤ 8) (hdg : decode cc g.pc = .ok (.invokevirtual index, 3)) (hf : cells + mc ≤ R.cells ∧ slots + ms ≤ R.slots) :
    va_Run p l e R s m args below meth c H locs cells slots mc ms g rest (Qc (Value.ref b :: As).toArray) free := by
  obtain ⟨⟨hrc, hrs, hfr, hlo, hws, hcw⟩, hcode, hini, hy, hlen, hl, hin, hse⟩ := cw
  have hK : Back l R p e below s args y 3 8 (PreOf R mc ms Pc) (PostOf Qc mc ms free) := va_backW (hh := hh) (bytes := bytes) (maxL := maxL) (ret := ret) hM hp.1 hrc hrs hfr hlo hws hcw (fun a' U hW => word_at hW (Or.inl (by first | rfl | simp [Cond.onTables, Cond.keeps, Cond.steady])) hini)
  obtain ⟨hx, hb, hml, ho, -⟩ := S
  obtain ⟨-, ⟨cellB, hcB, hoB, hclB⟩, hPc⟩ := hp
  intro T hT X
  obtain ⟨v, vm₁, ⟨U', l2, c2, s2⟩, hW₁, X', ⟨g', mk, t, L, e1, e2, hq, h1, hL, h2, h3⟩, st⟩ := vx_callVW X hx (C := C) (hh := hh) (bytes := bytes) (maxL := maxL) (ret := ret) ho hl hin hse hcode hy hK (by rw [hT]; exact hcB) hoB hclB hg (hsize.trans hml.symm) (argsL := As) (rest := rest) (fun sig h => hn.trans (hlen sig h)) hstack hW (by rw [hb]; exact hdg)
    (fun vm₁ hW₁ => ⟨hf.1, hf.2, hPc (T.setVm vm₁) hT hW₁⟩)
  dsimp only [Pt.U, Pt.locs, Pt.cells, Pt.slots] at X' e1 e2 h1 h2 h3 st
  subst h1; subst h2; subst h3
  exact ⟨v, (T.setVm vm₁).calling g' mk (Value.ref b :: As).toArray, t, U', L, hT, X', hL, e1, e2, hq, st⟩
section
variable {y : MethodName} {bytes cc : ByteArray} {maxL nL mc ms n index : Nat} {ret : Option FieldType} {ws : List Cond} {rm : Room} {Pc : Array Value → State → Prop} {Qc : Array Value → State → Outcome → State → Prop} {XC : String → State → State → Prop} {free : Addr → Prop} {Ts : List Cond} {own C : String} {b : Addr} {As rest : List Value} {g : JFrame}
theorem vx_runVX {hh : List (Nat × Nat × Nat × Nat)} (S : CallFix p m c cc nL s args Ts own) (hM : vx_Met l y ws rm Pc Qc XC mc ms free) (cw : vx_CVW R s args own C index y bytes maxL ret hh ws rm mc ms n) (hp : PreV s H C b Pc As)
    (hg : g.method = m) (hn : As.length = n) (hsize : g.locals.size = nL) (hstack : g.stack = As.reverse ++ .ref b :: rest) (hW : 2 * g.monitorRoom + (rest.map fun v => v.category).sum ≤ 8) (hdg : decode cc g.pc = .ok (.invokevirtual index, 3)) (hf : cells + mc ≤ R.cells ∧ slots + ms ≤ R.slots) :
    vx_Run p l e R s m args below meth c H locs cells slots mc ms g rest (Qc (Value.ref b :: As).toArray) XC free := by
  obtain ⟨⟨hrc, hrs, hfr, hlo, hws, hcw⟩, hcode, hini, hy, hlen, hl, hin, hse⟩ := cw
  have hK : vx_Back l R p e below s args y 3 8 (PreOf R mc ms Pc) (PostOf Qc mc ms free) (vx_Post XC mc ms free) := vx_backW (hh := hh) (bytes := bytes) (maxL := maxL) (ret := ret) hM hp.1 hrc hrs hfr hlo hws hcw (fun a' U hW => word_at hW (Or.inl (by first | rfl | simp [Cond.onTables, Cond.keeps, Cond.steady])) hini)
  obtain ⟨hx, hb, hml, ho, -⟩ := S
  obtain ⟨-, ⟨cellB, hcB, hoB, hclB⟩, hPc⟩ := hp
  intro T hT X
  rcases vx_callVX X hx (C := C) (hh := hh) (bytes := bytes) (maxL := maxL) (ret := ret) ho hl hin hse hcode hy hK (by rw [hT]; exact hcB) hoB hclB hg (hsize.trans hml.symm) (argsL := As) (rest := rest) (fun sig h => hn.trans (hlen sig h)) hstack hW (by rw [hb]; exact hdg)
    (fun vm₁ hW₁ => ⟨hf.1, hf.2, hPc (T.setVm vm₁) hT hW₁⟩) with ⟨v, vm₁, ⟨U', l2, c2, s2⟩, hW₁, X', ⟨g', mk, t, L, e1, e2, hq, h1, hL, h2, h3⟩, st⟩ | ⟨q, vm₁, ⟨U', l2, c2, s2⟩, hW₁, X', ⟨g', mk, t, L, E, ce, e1, e2, hq, hce, hcv, hcl, h1, hL, h2, h3⟩, st⟩
  · dsimp only [Pt.U, Pt.locs, Pt.cells, Pt.slots] at X' e1 e2 h1 h2 h3 st
    subst h1; subst h2; subst h3
    exact Or.inl ⟨v, (T.setVm vm₁).calling g' mk (Value.ref b :: As).toArray, t, U', L, hT, X', hL, e1, e2, hq, st⟩
  · dsimp only [Pt.U, Pt.locs, Pt.cells, Pt.slots] at X' e1 e2 h1 h2 h3 st hcl
    subst h1; subst h2; subst h3
    exact Or.inr ⟨q, (T.setVm vm₁).calling g' mk (Value.ref b :: As).toArray, t, U', L, E, ce, hT, X', hL, e1, e2, hq, hce, hcv, vx_cls hW₁ hcl, st⟩
theorem vx_runSX {hh : List (Nat × Nat × Nat × Nat)} (S : CallFix p m c cc nL s args Ts own) (hM : vx_Met l y ws rm Pc Qc XC mc ms free) (cw : vx_CSW R s args own index y bytes maxL ret hh ws rm mc ms n) (hp : PreS s H Pc As)
    (hg : g.method = m) (hn : As.length = n) (hsize : g.locals.size = nL) (hstack : g.stack = As.reverse ++ rest) (hW : 2 * g.monitorRoom + (rest.map fun v => v.category).sum ≤ 8) (hdg : decode cc g.pc = .ok (.invokestatic index, 3)) (hf : cells + mc ≤ R.cells ∧ slots + ms ≤ R.slots) :
    vx_Run p l e R s m args below meth c H locs cells slots mc ms g rest (Qc As.toArray) XC free := by
  obtain ⟨⟨hrc, hrs, hfr, hlo, hws, hcw⟩, hcode, hini, hy, hlen, hl, hstt⟩ := cw
  have hK : vx_Back l R p e below s args y 3 8 (PreOf R mc ms Pc) (PostOf Qc mc ms free) (vx_Post XC mc ms free) := vx_backW (hh := hh) (bytes := bytes) (maxL := maxL) (ret := ret) hM hp.1 hrc hrs hfr hlo hws hcw (fun a' U hW => word_at hW (Or.inl (by first | rfl | simp [Cond.onTables, Cond.keeps, Cond.steady])) hini)
  obtain ⟨hx, hb, hml, ho, -⟩ := S
  intro T hT X
  rcases vx_callSX X hx (hh := hh) (bytes := bytes) (maxL := maxL) (ret := ret) ho hl hstt hini hcode hy hK hg (hsize.trans hml.symm) (argsL := As) (rest := rest) (fun sig h => hn.trans (hlen sig h)) hstack hW (by rw [hb]; exact hdg)
    (fun vm₁ hW₁ => ⟨hf.1, hf.2, hp.2 (T.setVm vm₁) hT hW₁⟩) with ⟨v, vm₁, ⟨U', l2, c2, s2⟩, hW₁, X', ⟨g', mk, t, L, e1, e2, hq, h1, hL, h2, h3⟩, st⟩ | ⟨q, vm₁, ⟨U', l2, c2, s2⟩, hW₁, X', ⟨g', mk, t, L, E, ce, e1, e2, hq, hce, hcv, hcl, h1, hL, h2, h3⟩, st⟩
  · dsimp only [Pt.U, Pt.locs, Pt.cells, Pt.slots] at X' e1 e2 h1 h2 h3 st
    subst h1; subst h2; subst h3
    exact Or.inl ⟨v, (T.setVm vm₁).calling g' mk As.toArray, t, U', L, hT, X', hL, e1, e2, hq, st⟩
  · dsimp only [Pt.U, Pt.locs, Pt.cells, Pt.slots] at X' e1 e2 h1 h2 h3 st hcl
    subst h1; subst h2; subst h3
    exact Or.inr ⟨q, (T.setVm vm₁).calling g' mk As.toArray, t, U', L, E, ce, hT, X', hL, e1, e2, hq, hce, hcv, vx_cls hW₁ hcl, st⟩
end
end VXH
theorem vx_ofWH {l : Launch} {y : MethodName} {ws ws' : List Cond} {rm : Room} {Pc : Array Value → State → Prop} {Qc : Array Value → State → Outcome → State → Prop} {XC : String → State → State → Prop} {mc ms : Nat} {free : Addr → Prop} {cc : ByteArray} {maxL : Nat} {ret : Option FieldType} {hh : List (Nat × Nat × Nat × Nat)}
    (hy : plainName y.cls = true) (hw : ws = Cond.codeWith y cc maxL ret hh :: ws')
    (body : ∀ p e s m args below meth c s₁, BodyLoose p l y (headSpec ws rm) cc maxL ret e s m args below meth c s₁ → c.maxLocals = maxL → Pc args s →
      W p l e (headSpec ws rm).room s m args below meth c s.heap [] 0 0 (vx_MQ below Qc XC args s mc ms free) (entryFrame m args maxL)) : vx_Met l y ws rm Pc Qc XC mc ms free := by
  refine MetFree.of_bodyS (code := cc) (maxLocals := maxL) (ret := ret) hy ?_ ?_
  · intro args s m h hn
    obtain ⟨m9, meth, c, hn9, h1, h2, h3, h4, -, h5, h6, -⟩ := Cond.codeWith_spec (atoms_spec (ws := ws) h _ (by rw [hw]; exact List.mem_cons_self))
    cases hn.symm.trans hn9
    exact ⟨meth, c, h1, h2, h3, h4, h5, h6⟩
  · intro p e s m args below meth c s₁ B hml hP _
    have hh0 : s₁.heap = s.heap := by rw [B.state]; rfl
    obtain ⟨t, a1, o, b1, b2, b3⟩ := body p e s m args below meth c s₁ B hml hP s₁ hh0 (Stand.of_body B)
    exact ⟨t, o, a1, b1, b2, b3⟩
/-! ===== END ===== -/
end
section
-- ===== PART A: goes FIRST, ahead of the names: the tables' words, and 'selects' of the private methods out of them =====
/-- a private method of a class that the tables say can be made, by its rows of tables_1 -/
def lw_okq (q : MethodName × Nat) : Prop := (q.1.cls ≠ "java/lang/invoke/MethodHandle" ∧ q.1.cls ≠ "java/lang/invoke/VarHandle") ∧ Cond.instantiable q.1.cls q.2 ∈ tables_1 ∧ Cond.privateMethod q.1 ∈ tables_1 ∧ Cond.instanceMethod q.1 ∈ tables_1
theorem lw_p0 : lw_okq (⟨"Plateroomprinter$Engine", "enter", "(II)I"⟩, 19) := ⟨⟨by decide +kernel, by decide +kernel⟩, List.mem_of_getElem? (i := 474) (by decide +kernel), List.mem_of_getElem? (i := 648) (by decide +kernel), List.mem_of_getElem? (i := 649) (by decide +kernel)⟩
theorem lw_p1 : lw_okq (⟨"Plateroomprinter$Engine", "hasNextRound", "(I)Z"⟩, 19) := ⟨⟨by decide +kernel, by decide +kernel⟩, List.mem_of_getElem? (i := 474) (by decide +kernel), List.mem_of_getElem? (i := 657) (by decide +kernel), List.mem_of_getElem? (i := 658) (by decide +kernel)⟩
theorem lw_p2 : lw_okq (⟨"Plateroomprinter$Engine", "setPlaces", "(I)V"⟩, 19) := ⟨⟨by decide +kernel, by decide +kernel⟩, List.mem_of_getElem? (i := 474) (by decide +kernel), List.mem_of_getElem? (i := 661) (by decide +kernel), List.mem_of_getElem? (i := 662) (by decide +kernel)⟩
theorem lw_p3 : lw_okq (⟨"Plateroomprinter$Engine", "doName", "(I)I"⟩, 19) := ⟨⟨by decide +kernel, by decide +kernel⟩, List.mem_of_getElem? (i := 474) (by decide +kernel), List.mem_of_getElem? (i := 689) (by decide +kernel), List.mem_of_getElem? (i := 690) (by decide +kernel)⟩
theorem lw_p4 : lw_okq (⟨"Plateroomprinter$Engine", "open", "(I)I"⟩, 19) := ⟨⟨by decide +kernel, by decide +kernel⟩, List.mem_of_getElem? (i := 474) (by decide +kernel), List.mem_of_getElem? (i := 705) (by decide +kernel), List.mem_of_getElem? (i := 706) (by decide +kernel)⟩
theorem lw_p5 : lw_okq (⟨"Plateroomprinter$Engine", "doOrder", "(I)I"⟩, 19) := ⟨⟨by decide +kernel, by decide +kernel⟩, List.mem_of_getElem? (i := 474) (by decide +kernel), List.mem_of_getElem? (i := 715) (by decide +kernel), List.mem_of_getElem? (i := 716) (by decide +kernel)⟩
theorem lw_p6 : lw_okq (⟨"Plateroomprinter$Engine", "take", "(I)I"⟩, 19) := ⟨⟨by decide +kernel, by decide +kernel⟩, List.mem_of_getElem? (i := 474) (by decide +kernel), List.mem_of_getElem? (i := 721) (by decide +kernel), List.mem_of_getElem? (i := 722) (by decide +kernel)⟩
theorem lw_p7 : lw_okq (⟨"Plateroomprinter$Engine", "doNumbers", "(III)I"⟩, 19) := ⟨⟨by decide +kernel, by decide +kernel⟩, List.mem_of_getElem? (i := 474) (by decide +kernel), List.mem_of_getElem? (i := 725) (by decide +kernel), List.mem_of_getElem? (i := 726) (by decide +kernel)⟩
theorem lw_p8 : lw_okq (⟨"Plateroomprinter$Engine", "doFlow", "(I)I"⟩, 19) := ⟨⟨by decide +kernel, by decide +kernel⟩, List.mem_of_getElem? (i := 474) (by decide +kernel), List.mem_of_getElem? (i := 732) (by decide +kernel), List.mem_of_getElem? (i := 733) (by decide +kernel)⟩
theorem lw_p9 : lw_okq (⟨"Plateroomprinter$Engine", "putOperand", "(I)I"⟩, 19) := ⟨⟨by decide +kernel, by decide +kernel⟩, List.mem_of_getElem? (i := 474) (by decide +kernel), List.mem_of_getElem? (i := 736) (by decide +kernel), List.mem_of_getElem? (i := 737) (by decide +kernel)⟩
theorem lw_p10 : lw_okq (⟨"Plateroomprinter$Engine", "index", "(I)I"⟩, 19) := ⟨⟨by decide +kernel, by decide +kernel⟩, List.mem_of_getElem? (i := 474) (by decide +kernel), List.mem_of_getElem? (i := 740) (by decide +kernel), List.mem_of_getElem? (i := 741) (by decide +kernel)⟩
theorem lw_p11 : lw_okq (⟨"Plateroomprinter$Engine", "loop", "(IIIII)I"⟩, 19) := ⟨⟨by decide +kernel, by decide +kernel⟩, List.mem_of_getElem? (i := 474) (by decide +kernel), List.mem_of_getElem? (i := 745) (by decide +kernel), List.mem_of_getElem? (i := 746) (by decide +kernel)⟩
theorem lw_p12 : lw_okq (⟨"Plateroomprinter$Engine", "exit", "()I"⟩, 19) := ⟨⟨by decide +kernel, by decide +kernel⟩, List.mem_of_getElem? (i := 474) (by decide +kernel), List.mem_of_getElem? (i := 749) (by decide +kernel), List.mem_of_getElem? (i := 750) (by decide +kernel)⟩
theorem lw_p13 : lw_okq (⟨"Plateroomprinter$Painter", "save", "()I"⟩, 17) := ⟨⟨by decide +kernel, by decide +kernel⟩, List.mem_of_getElem? (i := 414) (by decide +kernel), List.mem_of_getElem? (i := 758) (by decide +kernel), List.mem_of_getElem? (i := 759) (by decide +kernel)⟩
theorem lw_p14 : lw_okq (⟨"Plateroomprinter$Painter", "restore", "()I"⟩, 17) := ⟨⟨by decide +kernel, by decide +kernel⟩, List.mem_of_getElem? (i := 414) (by decide +kernel), List.mem_of_getElem? (i := 763) (by decide +kernel), List.mem_of_getElem? (i := 764) (by decide +kernel)⟩
theorem lw_p15 : lw_okq (⟨"Plateroomprinter$Matrix", "moveOne", "(III)I"⟩, 5) := ⟨⟨by decide +kernel, by decide +kernel⟩, List.mem_of_getElem? (i := 119) (by decide +kernel), List.mem_of_getElem? (i := 771) (by decide +kernel), List.mem_of_getElem? (i := 772) (by decide +kernel)⟩
def lw_privs_1 : List (MethodName × Nat) := [(⟨"Plateroomprinter$Engine", "enter", "(II)I"⟩, 19), (⟨"Plateroomprinter$Engine", "hasNextRound", "(I)Z"⟩, 19), (⟨"Plateroomprinter$Engine", "setPlaces", "(I)V"⟩, 19), (⟨"Plateroomprinter$Engine", "doName", "(I)I"⟩, 19), (⟨"Plateroomprinter$Engine", "open", "(I)I"⟩, 19), (⟨"Plateroomprinter$Engine", "doOrder", "(I)I"⟩, 19), (⟨"Plateroomprinter$Engine", "take", "(I)I"⟩, 19), (⟨"Plateroomprinter$Engine", "doNumbers", "(III)I"⟩, 19), (⟨"Plateroomprinter$Engine", "doFlow", "(I)I"⟩, 19), (⟨"Plateroomprinter$Engine", "putOperand", "(I)I"⟩, 19), (⟨"Plateroomprinter$Engine", "index", "(I)I"⟩, 19), (⟨"Plateroomprinter$Engine", "loop", "(IIIII)I"⟩, 19), (⟨"Plateroomprinter$Engine", "exit", "()I"⟩, 19), (⟨"Plateroomprinter$Painter", "save", "()I"⟩, 17), (⟨"Plateroomprinter$Painter", "restore", "()I"⟩, 17), (⟨"Plateroomprinter$Matrix", "moveOne", "(III)I"⟩, 5)]
theorem lw_r1 : ∀ q ∈ lw_privs_1, lw_okq q := List.forall_mem_cons.mpr ⟨lw_p0, List.forall_mem_cons.mpr ⟨lw_p1, List.forall_mem_cons.mpr ⟨lw_p2, List.forall_mem_cons.mpr ⟨lw_p3, List.forall_mem_cons.mpr ⟨lw_p4, List.forall_mem_cons.mpr ⟨lw_p5, List.forall_mem_cons.mpr ⟨lw_p6, List.forall_mem_cons.mpr ⟨lw_p7, List.forall_mem_cons.mpr ⟨lw_p8, List.forall_mem_cons.mpr ⟨lw_p9, List.forall_mem_cons.mpr ⟨lw_p10, List.forall_mem_cons.mpr ⟨lw_p11, List.forall_mem_cons.mpr ⟨lw_p12, List.forall_mem_cons.mpr ⟨lw_p13, List.forall_mem_cons.mpr ⟨lw_p14, List.forall_mem_cons.mpr ⟨lw_p15, fun _ h => absurd h List.not_mem_nil⟩⟩⟩⟩⟩⟩⟩⟩⟩⟩⟩⟩⟩⟩⟩⟩
theorem lw_p16 : lw_okq (⟨"Plateroomprinter$Matrix", "gather", "(IIIZ)V"⟩, 5) := ⟨⟨by decide +kernel, by decide +kernel⟩, List.mem_of_getElem? (i := 119) (by decide +kernel), List.mem_of_getElem? (i := 775) (by decide +kernel), List.mem_of_getElem? (i := 776) (by decide +kernel)⟩
theorem lw_p17 : lw_okq (⟨"Plateroomprinter$Matrix", "write", "(IJJ)I"⟩, 5) := ⟨⟨by decide +kernel, by decide +kernel⟩, List.mem_of_getElem? (i := 119) (by decide +kernel), List.mem_of_getElem? (i := 793) (by decide +kernel), List.mem_of_getElem? (i := 794) (by decide +kernel)⟩
theorem lw_p18 : lw_okq (⟨"Plateroomprinter$Painter", "show", "(IZI)I"⟩, 17) := ⟨⟨by decide +kernel, by decide +kernel⟩, List.mem_of_getElem? (i := 414) (by decide +kernel), List.mem_of_getElem? (i := 811) (by decide +kernel), List.mem_of_getElem? (i := 812) (by decide +kernel)⟩
theorem lw_p19 : lw_okq (⟨"Plateroomprinter$Painter", "widthOfAll", "(II)I"⟩, 17) := ⟨⟨by decide +kernel, by decide +kernel⟩, List.mem_of_getElem? (i := 414) (by decide +kernel), List.mem_of_getElem? (i := 818) (by decide +kernel), List.mem_of_getElem? (i := 819) (by decide +kernel)⟩
theorem lw_p20 : lw_okq (⟨"Plateroomprinter$Painter", "draw", "(I)I"⟩, 17) := ⟨⟨by decide +kernel, by decide +kernel⟩, List.mem_of_getElem? (i := 414) (by decide +kernel), List.mem_of_getElem? (i := 828) (by decide +kernel), List.mem_of_getElem? (i := 829) (by decide +kernel)⟩
theorem lw_p21 : lw_okq (⟨"Plateroomprinter$Painter", "step", "(II)I"⟩, 17) := ⟨⟨by decide +kernel, by decide +kernel⟩, List.mem_of_getElem? (i := 414) (by decide +kernel), List.mem_of_getElem? (i := 837) (by decide +kernel), List.mem_of_getElem? (i := 838) (by decide +kernel)⟩
theorem lw_p22 : lw_okq (⟨"Plateroomprinter$Painter", "reach", "(JJ)I"⟩, 17) := ⟨⟨by decide +kernel, by decide +kernel⟩, List.mem_of_getElem? (i := 414) (by decide +kernel), List.mem_of_getElem? (i := 845) (by decide +kernel), List.mem_of_getElem? (i := 846) (by decide +kernel)⟩
theorem lw_p23 : lw_okq (⟨"Plateroomprinter$Painter", "stroke", "(LPlateroomprinter$Path;)I"⟩, 17) := ⟨⟨by decide +kernel, by decide +kernel⟩, List.mem_of_getElem? (i := 414) (by decide +kernel), List.mem_of_getElem? (i := 860) (by decide +kernel), List.mem_of_getElem? (i := 861) (by decide +kernel)⟩
theorem lw_p24 : lw_okq (⟨"Plateroomprinter$Painter", "beginFigure", "()V"⟩, 17) := ⟨⟨by decide +kernel, by decide +kernel⟩, List.mem_of_getElem? (i := 414) (by decide +kernel), List.mem_of_getElem? (i := 864) (by decide +kernel), List.mem_of_getElem? (i := 865) (by decide +kernel)⟩
theorem lw_p25 : lw_okq (⟨"Plateroomprinter$Painter", "strokeRing", "(LPlateroomprinter$Path;IIZ)V"⟩, 17) := ⟨⟨by decide +kernel, by decide +kernel⟩, List.mem_of_getElem? (i := 414) (by decide +kernel), List.mem_of_getElem? (i := 878) (by decide +kernel), List.mem_of_getElem? (i := 879) (by decide +kernel)⟩
theorem lw_p26 : lw_okq (⟨"Plateroomprinter$Painter", "layBar", "(LPlateroomprinter$Path;II)V"⟩, 17) := ⟨⟨by decide +kernel, by decide +kernel⟩, List.mem_of_getElem? (i := 414) (by decide +kernel), List.mem_of_getElem? (i := 882) (by decide +kernel), List.mem_of_getElem? (i := 883) (by decide +kernel)⟩
theorem lw_p27 : lw_okq (⟨"Plateroomprinter$Painter", "setCorner", "(III)V"⟩, 17) := ⟨⟨by decide +kernel, by decide +kernel⟩, List.mem_of_getElem? (i := 414) (by decide +kernel), List.mem_of_getElem? (i := 897) (by decide +kernel), List.mem_of_getElem? (i := 898) (by decide +kernel)⟩
theorem lw_p28 : lw_okq (⟨"Plateroomprinter$Painter", "addCorners", "()V"⟩, 17) := ⟨⟨by decide +kernel, by decide +kernel⟩, List.mem_of_getElem? (i := 414) (by decide +kernel), List.mem_of_getElem? (i := 901) (by decide +kernel), List.mem_of_getElem? (i := 902) (by decide +kernel)⟩
theorem lw_p29 : lw_okq (⟨"Plateroomprinter$Raster", "addEdge", "(IIIII)V"⟩, 3) := ⟨⟨by decide +kernel, by decide +kernel⟩, List.mem_of_getElem? (i := 398) (by decide +kernel), List.mem_of_getElem? (i := 909) (by decide +kernel), List.mem_of_getElem? (i := 910) (by decide +kernel)⟩
theorem lw_p30 : lw_okq (⟨"Plateroomprinter$Painter", "laySquare", "(LPlateroomprinter$Path;I)V"⟩, 17) := ⟨⟨by decide +kernel, by decide +kernel⟩, List.mem_of_getElem? (i := 414) (by decide +kernel), List.mem_of_getElem? (i := 922) (by decide +kernel), List.mem_of_getElem? (i := 923) (by decide +kernel)⟩
theorem lw_p31 : lw_okq (⟨"Plateroomprinter$Painter", "paintFigure", "()I"⟩, 17) := ⟨⟨by decide +kernel, by decide +kernel⟩, List.mem_of_getElem? (i := 414) (by decide +kernel), List.mem_of_getElem? (i := 926) (by decide +kernel), List.mem_of_getElem? (i := 927) (by decide +kernel)⟩
def lw_privs_2 : List (MethodName × Nat) := [(⟨"Plateroomprinter$Matrix", "gather", "(IIIZ)V"⟩, 5), (⟨"Plateroomprinter$Matrix", "write", "(IJJ)I"⟩, 5), (⟨"Plateroomprinter$Painter", "show", "(IZI)I"⟩, 17), (⟨"Plateroomprinter$Painter", "widthOfAll", "(II)I"⟩, 17), (⟨"Plateroomprinter$Painter", "draw", "(I)I"⟩, 17), (⟨"Plateroomprinter$Painter", "step", "(II)I"⟩, 17), (⟨"Plateroomprinter$Painter", "reach", "(JJ)I"⟩, 17), (⟨"Plateroomprinter$Painter", "stroke", "(LPlateroomprinter$Path;)I"⟩, 17), (⟨"Plateroomprinter$Painter", "beginFigure", "()V"⟩, 17), (⟨"Plateroomprinter$Painter", "strokeRing", "(LPlateroomprinter$Path;IIZ)V"⟩, 17), (⟨"Plateroomprinter$Painter", "layBar", "(LPlateroomprinter$Path;II)V"⟩, 17), (⟨"Plateroomprinter$Painter", "setCorner", "(III)V"⟩, 17), (⟨"Plateroomprinter$Painter", "addCorners", "()V"⟩, 17), (⟨"Plateroomprinter$Raster", "addEdge", "(IIIII)V"⟩, 3), (⟨"Plateroomprinter$Painter", "laySquare", "(LPlateroomprinter$Path;I)V"⟩, 17), (⟨"Plateroomprinter$Painter", "paintFigure", "()I"⟩, 17)]
theorem lw_r2 : ∀ q ∈ lw_privs_2, lw_okq q := List.forall_mem_cons.mpr ⟨lw_p16, List.forall_mem_cons.mpr ⟨lw_p17, List.forall_mem_cons.mpr ⟨lw_p18, List.forall_mem_cons.mpr ⟨lw_p19, List.forall_mem_cons.mpr ⟨lw_p20, List.forall_mem_cons.mpr ⟨lw_p21, List.forall_mem_cons.mpr ⟨lw_p22, List.forall_mem_cons.mpr ⟨lw_p23, List.forall_mem_cons.mpr ⟨lw_p24, List.forall_mem_cons.mpr ⟨lw_p25, List.forall_mem_cons.mpr ⟨lw_p26, List.forall_mem_cons.mpr ⟨lw_p27, List.forall_mem_cons.mpr ⟨lw_p28, List.forall_mem_cons.mpr ⟨lw_p29, List.forall_mem_cons.mpr ⟨lw_p30, List.forall_mem_cons.mpr ⟨lw_p31, fun _ h => absurd h List.not_mem_nil⟩⟩⟩⟩⟩⟩⟩⟩⟩⟩⟩⟩⟩⟩⟩⟩
theorem lw_p32 : lw_okq (⟨"Plateroomprinter$Painter", "image", "(I)I"⟩, 17) := ⟨⟨by decide +kernel, by decide +kernel⟩, List.mem_of_getElem? (i := 414) (by decide +kernel), List.mem_of_getElem? (i := 959) (by decide +kernel), List.mem_of_getElem? (i := 960) (by decide +kernel)⟩
theorem lw_p33 : lw_okq (⟨"Plateroomprinter$Painter", "keep", "(I)I"⟩, 17) := ⟨⟨by decide +kernel, by decide +kernel⟩, List.mem_of_getElem? (i := 414) (by decide +kernel), List.mem_of_getElem? (i := 963) (by decide +kernel), List.mem_of_getElem? (i := 964) (by decide +kernel)⟩
theorem lw_p34 : lw_okq (⟨"Plateroomprinter$Painter", "use", "(III)I"⟩, 17) := ⟨⟨by decide +kernel, by decide +kernel⟩, List.mem_of_getElem? (i := 414) (by decide +kernel), List.mem_of_getElem? (i := 968) (by decide +kernel), List.mem_of_getElem? (i := 969) (by decide +kernel)⟩
theorem lw_p35 : lw_okq (⟨"Plateroomprinter$Painter", "print", "()I"⟩, 17) := ⟨⟨by decide +kernel, by decide +kernel⟩, List.mem_of_getElem? (i := 414) (by decide +kernel), List.mem_of_getElem? (i := 1001) (by decide +kernel), List.mem_of_getElem? (i := 1002) (by decide +kernel)⟩
theorem lw_p36 : lw_okq (⟨"Plateroomprinter$Painter", "doPath", "(I[I)I"⟩, 17) := ⟨⟨by decide +kernel, by decide +kernel⟩, List.mem_of_getElem? (i := 414) (by decide +kernel), List.mem_of_getElem? (i := 1007) (by decide +kernel), List.mem_of_getElem? (i := 1008) (by decide +kernel)⟩
theorem lw_p37 : lw_okq (⟨"Plateroomprinter$Painter", "spot", "(II)I"⟩, 17) := ⟨⟨by decide +kernel, by decide +kernel⟩, List.mem_of_getElem? (i := 414) (by decide +kernel), List.mem_of_getElem? (i := 1012) (by decide +kernel), List.mem_of_getElem? (i := 1013) (by decide +kernel)⟩
theorem lw_p38 : lw_okq (⟨"Plateroomprinter$Painter", "begin", "(I)I"⟩, 17) := ⟨⟨by decide +kernel, by decide +kernel⟩, List.mem_of_getElem? (i := 414) (by decide +kernel), List.mem_of_getElem? (i := 1016) (by decide +kernel), List.mem_of_getElem? (i := 1017) (by decide +kernel)⟩
theorem lw_p39 : lw_okq (⟨"Plateroomprinter$Painter", "lengthen", "(I)I"⟩, 17) := ⟨⟨by decide +kernel, by decide +kernel⟩, List.mem_of_getElem? (i := 414) (by decide +kernel), List.mem_of_getElem? (i := 1020) (by decide +kernel), List.mem_of_getElem? (i := 1021) (by decide +kernel)⟩
theorem lw_p40 : lw_okq (⟨"Plateroomprinter$Painter", "bend", "(II)V"⟩, 17) := ⟨⟨by decide +kernel, by decide +kernel⟩, List.mem_of_getElem? (i := 414) (by decide +kernel), List.mem_of_getElem? (i := 1024) (by decide +kernel), List.mem_of_getElem? (i := 1025) (by decide +kernel)⟩
theorem lw_p41 : lw_okq (⟨"Plateroomprinter$Painter", "addBends", "()I"⟩, 17) := ⟨⟨by decide +kernel, by decide +kernel⟩, List.mem_of_getElem? (i := 414) (by decide +kernel), List.mem_of_getElem? (i := 1028) (by decide +kernel), List.mem_of_getElem? (i := 1029) (by decide +kernel)⟩
theorem lw_p42 : lw_okq (⟨"Plateroomprinter$Painter", "curve", "([I)I"⟩, 17) := ⟨⟨by decide +kernel, by decide +kernel⟩, List.mem_of_getElem? (i := 414) (by decide +kernel), List.mem_of_getElem? (i := 1032) (by decide +kernel), List.mem_of_getElem? (i := 1033) (by decide +kernel)⟩
theorem lw_p43 : lw_okq (⟨"Plateroomprinter$Painter", "flatten", "()V"⟩, 17) := ⟨⟨by decide +kernel, by decide +kernel⟩, List.mem_of_getElem? (i := 414) (by decide +kernel), List.mem_of_getElem? (i := 1036) (by decide +kernel), List.mem_of_getElem? (i := 1037) (by decide +kernel)⟩
theorem lw_p44 : lw_okq (⟨"Plateroomprinter$Painter", "isFlat", "(I)Z"⟩, 17) := ⟨⟨by decide +kernel, by decide +kernel⟩, List.mem_of_getElem? (i := 414) (by decide +kernel), List.mem_of_getElem? (i := 1041) (by decide +kernel), List.mem_of_getElem? (i := 1042) (by decide +kernel)⟩
theorem lw_p45 : lw_okq (⟨"Plateroomprinter$Painter", "split", "(II)V"⟩, 17) := ⟨⟨by decide +kernel, by decide +kernel⟩, List.mem_of_getElem? (i := 414) (by decide +kernel), List.mem_of_getElem? (i := 1045) (by decide +kernel), List.mem_of_getElem? (i := 1046) (by decide +kernel)⟩
theorem lw_p46 : lw_okq (⟨"Plateroomprinter$Painter", "box", "(IIII)I"⟩, 17) := ⟨⟨by decide +kernel, by decide +kernel⟩, List.mem_of_getElem? (i := 414) (by decide +kernel), List.mem_of_getElem? (i := 1050) (by decide +kernel), List.mem_of_getElem? (i := 1051) (by decide +kernel)⟩
theorem lw_p47 : lw_okq (⟨"Plateroomprinter$Painter", "doFill", "(I)I"⟩, 17) := ⟨⟨by decide +kernel, by decide +kernel⟩, List.mem_of_getElem? (i := 414) (by decide +kernel), List.mem_of_getElem? (i := 1054) (by decide +kernel), List.mem_of_getElem? (i := 1055) (by decide +kernel)⟩
def lw_privs_3 : List (MethodName × Nat) := [(⟨"Plateroomprinter$Painter", "image", "(I)I"⟩, 17), (⟨"Plateroomprinter$Painter", "keep", "(I)I"⟩, 17), (⟨"Plateroomprinter$Painter", "use", "(III)I"⟩, 17), (⟨"Plateroomprinter$Painter", "print", "()I"⟩, 17), (⟨"Plateroomprinter$Painter", "doPath", "(I[I)I"⟩, 17), (⟨"Plateroomprinter$Painter", "spot", "(II)I"⟩, 17), (⟨"Plateroomprinter$Painter", "begin", "(I)I"⟩, 17), (⟨"Plateroomprinter$Painter", "lengthen", "(I)I"⟩, 17), (⟨"Plateroomprinter$Painter", "bend", "(II)V"⟩, 17), (⟨"Plateroomprinter$Painter", "addBends", "()I"⟩, 17), (⟨"Plateroomprinter$Painter", "curve", "([I)I"⟩, 17), (⟨"Plateroomprinter$Painter", "flatten", "()V"⟩, 17), (⟨"Plateroomprinter$Painter", "isFlat", "(I)Z"⟩, 17), (⟨"Plateroomprinter$Painter", "split", "(II)V"⟩, 17), (⟨"Plateroomprinter$Painter", "box", "(IIII)I"⟩, 17), (⟨"Plateroomprinter$Painter", "doFill", "(I)I"⟩, 17)]
theorem lw_r3 : ∀ q ∈ lw_privs_3, lw_okq q := List.forall_mem_cons.mpr ⟨lw_p32, List.forall_mem_cons.mpr ⟨lw_p33, List.forall_mem_cons.mpr ⟨lw_p34, List.forall_mem_cons.mpr ⟨lw_p35, List.forall_mem_cons.mpr ⟨lw_p36, List.forall_mem_cons.mpr ⟨lw_p37, List.forall_mem_cons.mpr ⟨lw_p38, List.forall_mem_cons.mpr ⟨lw_p39, List.forall_mem_cons.mpr ⟨lw_p40, List.forall_mem_cons.mpr ⟨lw_p41, List.forall_mem_cons.mpr ⟨lw_p42, List.forall_mem_cons.mpr ⟨lw_p43, List.forall_mem_cons.mpr ⟨lw_p44, List.forall_mem_cons.mpr ⟨lw_p45, List.forall_mem_cons.mpr ⟨lw_p46, List.forall_mem_cons.mpr ⟨lw_p47, fun _ h => absurd h List.not_mem_nil⟩⟩⟩⟩⟩⟩⟩⟩⟩⟩⟩⟩⟩⟩⟩⟩
theorem lw_p48 : lw_okq (⟨"Plateroomprinter$Painter", "fill", "(I)I"⟩, 17) := ⟨⟨by decide +kernel, by decide +kernel⟩, List.mem_of_getElem? (i := 414) (by decide +kernel), List.mem_of_getElem? (i := 1058) (by decide +kernel), List.mem_of_getElem? (i := 1059) (by decide +kernel)⟩
theorem lw_p49 : lw_okq (⟨"Plateroomprinter$Painter", "clip", "(I)V"⟩, 17) := ⟨⟨by decide +kernel, by decide +kernel⟩, List.mem_of_getElem? (i := 414) (by decide +kernel), List.mem_of_getElem? (i := 1069) (by decide +kernel), List.mem_of_getElem? (i := 1070) (by decide +kernel)⟩
theorem lw_p50 : lw_okq (⟨"Plateroomprinter$Painter", "doTool", "(I[I)I"⟩, 17) := ⟨⟨by decide +kernel, by decide +kernel⟩, List.mem_of_getElem? (i := 414) (by decide +kernel), List.mem_of_getElem? (i := 1074) (by decide +kernel), List.mem_of_getElem? (i := 1075) (by decide +kernel)⟩
theorem lw_p51 : lw_okq (⟨"Plateroomprinter$Painter", "colour", "(IIII)I"⟩, 17) := ⟨⟨by decide +kernel, by decide +kernel⟩, List.mem_of_getElem? (i := 414) (by decide +kernel), List.mem_of_getElem? (i := 1078) (by decide +kernel), List.mem_of_getElem? (i := 1079) (by decide +kernel)⟩
theorem lw_p52 : lw_okq (⟨"Plateroomprinter", "setFault", "(III)V"⟩, 17) := ⟨⟨by decide +kernel, by decide +kernel⟩, List.mem_of_getElem? (i := 48) (by decide +kernel), List.mem_of_getElem? (i := 1089) (by decide +kernel), List.mem_of_getElem? (i := 1090) (by decide +kernel)⟩
theorem lw_p53 : lw_okq (⟨"Plateroomprinter", "agreesInBands", "(I)Z"⟩, 17) := ⟨⟨by decide +kernel, by decide +kernel⟩, List.mem_of_getElem? (i := 48) (by decide +kernel), List.mem_of_getElem? (i := 1140) (by decide +kernel), List.mem_of_getElem? (i := 1141) (by decide +kernel)⟩
theorem lw_p54 : lw_okq (⟨"java/lang/Throwable", "fillInStackTrace", "(I)Ljava/lang/Throwable;"⟩, 6) := ⟨⟨by decide +kernel, by decide +kernel⟩, List.mem_of_getElem? (i := 1197) (by decide +kernel), List.mem_of_getElem? (i := 1195) (by decide +kernel), List.mem_of_getElem? (i := 1196) (by decide +kernel)⟩
theorem lw_p55 : lw_okq (⟨"Plateroomprinter", "fillPath", "(III[I)V"⟩, 17) := ⟨⟨by decide +kernel, by decide +kernel⟩, List.mem_of_getElem? (i := 48) (by decide +kernel), List.mem_of_getElem? (i := 1227) (by decide +kernel), List.mem_of_getElem? (i := 1228) (by decide +kernel)⟩
theorem lw_p56 : lw_okq (⟨"Plateroomprinter", "movesAlong", "(II)Z"⟩, 17) := ⟨⟨by decide +kernel, by decide +kernel⟩, List.mem_of_getElem? (i := 48) (by decide +kernel), List.mem_of_getElem? (i := 1231) (by decide +kernel), List.mem_of_getElem? (i := 1232) (by decide +kernel)⟩
theorem lw_p57 : lw_okq (⟨"Plateroomprinter", "halvesAgree", "()Z"⟩, 17) := ⟨⟨by decide +kernel, by decide +kernel⟩, List.mem_of_getElem? (i := 48) (by decide +kernel), List.mem_of_getElem? (i := 1241) (by decide +kernel), List.mem_of_getElem? (i := 1242) (by decide +kernel)⟩
theorem lw_p58 : lw_okq (⟨"Plateroomprinter", "fillHalves", "(III)V"⟩, 17) := ⟨⟨by decide +kernel, by decide +kernel⟩, List.mem_of_getElem? (i := 48) (by decide +kernel), List.mem_of_getElem? (i := 1246) (by decide +kernel), List.mem_of_getElem? (i := 1247) (by decide +kernel)⟩
theorem lw_p59 : lw_okq (⟨"Plateroomprinter", "fillPart", "(IIII[I)V"⟩, 17) := ⟨⟨by decide +kernel, by decide +kernel⟩, List.mem_of_getElem? (i := 48) (by decide +kernel), List.mem_of_getElem? (i := 1251) (by decide +kernel), List.mem_of_getElem? (i := 1252) (by decide +kernel)⟩
theorem lw_p60 : lw_okq (⟨"Plateroomprinter", "lastTells", "(I)Z"⟩, 17) := ⟨⟨by decide +kernel, by decide +kernel⟩, List.mem_of_getElem? (i := 48) (by decide +kernel), List.mem_of_getElem? (i := 1258) (by decide +kernel), List.mem_of_getElem? (i := 1259) (by decide +kernel)⟩
theorem lw_p61 : lw_okq (⟨"Plateroomprinter", "packsAgree", "()Z"⟩, 17) := ⟨⟨by decide +kernel, by decide +kernel⟩, List.mem_of_getElem? (i := 48) (by decide +kernel), List.mem_of_getElem? (i := 1288) (by decide +kernel), List.mem_of_getElem? (i := 1289) (by decide +kernel)⟩
theorem lw_p62 : lw_okq (⟨"Plateroomprinter", "pack", "(I)I"⟩, 17) := ⟨⟨by decide +kernel, by decide +kernel⟩, List.mem_of_getElem? (i := 48) (by decide +kernel), List.mem_of_getElem? (i := 1292) (by decide +kernel), List.mem_of_getElem? (i := 1293) (by decide +kernel)⟩
theorem lw_p63 : lw_okq (⟨"Plateroomprinter", "tell", "(II)I"⟩, 17) := ⟨⟨by decide +kernel, by decide +kernel⟩, List.mem_of_getElem? (i := 48) (by decide +kernel), List.mem_of_getElem? (i := 1296) (by decide +kernel), List.mem_of_getElem? (i := 1297) (by decide +kernel)⟩
def lw_privs_4 : List (MethodName × Nat) := [(⟨"Plateroomprinter$Painter", "fill", "(I)I"⟩, 17), (⟨"Plateroomprinter$Painter", "clip", "(I)V"⟩, 17), (⟨"Plateroomprinter$Painter", "doTool", "(I[I)I"⟩, 17), (⟨"Plateroomprinter$Painter", "colour", "(IIII)I"⟩, 17), (⟨"Plateroomprinter", "setFault", "(III)V"⟩, 17), (⟨"Plateroomprinter", "agreesInBands", "(I)Z"⟩, 17), (⟨"java/lang/Throwable", "fillInStackTrace", "(I)Ljava/lang/Throwable;"⟩, 6), (⟨"Plateroomprinter", "fillPath", "(III[I)V"⟩, 17), (⟨"Plateroomprinter", "movesAlong", "(II)Z"⟩, 17), (⟨"Plateroomprinter", "halvesAgree", "()Z"⟩, 17), (⟨"Plateroomprinter", "fillHalves", "(III)V"⟩, 17), (⟨"Plateroomprinter", "fillPart", "(IIII[I)V"⟩, 17), (⟨"Plateroomprinter", "lastTells", "(I)Z"⟩, 17), (⟨"Plateroomprinter", "packsAgree", "()Z"⟩, 17), (⟨"Plateroomprinter", "pack", "(I)I"⟩, 17), (⟨"Plateroomprinter", "tell", "(II)I"⟩, 17)]
theorem lw_r4 : ∀ q ∈ lw_privs_4, lw_okq q := List.forall_mem_cons.mpr ⟨lw_p48, List.forall_mem_cons.mpr ⟨lw_p49, List.forall_mem_cons.mpr ⟨lw_p50, List.forall_mem_cons.mpr ⟨lw_p51, List.forall_mem_cons.mpr ⟨lw_p52, List.forall_mem_cons.mpr ⟨lw_p53, List.forall_mem_cons.mpr ⟨lw_p54, List.forall_mem_cons.mpr ⟨lw_p55, List.forall_mem_cons.mpr ⟨lw_p56, List.forall_mem_cons.mpr ⟨lw_p57, List.forall_mem_cons.mpr ⟨lw_p58, List.forall_mem_cons.mpr ⟨lw_p59, List.forall_mem_cons.mpr ⟨lw_p60, List.forall_mem_cons.mpr ⟨lw_p61, List.forall_mem_cons.mpr ⟨lw_p62, List.forall_mem_cons.mpr ⟨lw_p63, fun _ h => absurd h List.not_mem_nil⟩⟩⟩⟩⟩⟩⟩⟩⟩⟩⟩⟩⟩⟩⟩⟩
theorem lw_p64 : lw_okq (⟨"Plateroomprinter", "unpack", "(I[I)Z"⟩, 17) := ⟨⟨by decide +kernel, by decide +kernel⟩, List.mem_of_getElem? (i := 48) (by decide +kernel), List.mem_of_getElem? (i := 1300) (by decide +kernel), List.mem_of_getElem? (i := 1301) (by decide +kernel)⟩
theorem lw_p65 : lw_okq (⟨"Plateroomprinter", "digestOfProgram", "(J)J"⟩, 17) := ⟨⟨by decide +kernel, by decide +kernel⟩, List.mem_of_getElem? (i := 48) (by decide +kernel), List.mem_of_getElem? (i := 1309) (by decide +kernel), List.mem_of_getElem? (i := 1310) (by decide +kernel)⟩
theorem lw_p66 : lw_okq (⟨"Plateroomprinter", "digestOfState", "(J)J"⟩, 17) := ⟨⟨by decide +kernel, by decide +kernel⟩, List.mem_of_getElem? (i := 48) (by decide +kernel), List.mem_of_getElem? (i := 1355) (by decide +kernel), List.mem_of_getElem? (i := 1356) (by decide +kernel)⟩
theorem lw_p67 : lw_okq (⟨"Plateroomprinter", "digestOfPath", "(J)J"⟩, 17) := ⟨⟨by decide +kernel, by decide +kernel⟩, List.mem_of_getElem? (i := 48) (by decide +kernel), List.mem_of_getElem? (i := 1370) (by decide +kernel), List.mem_of_getElem? (i := 1371) (by decide +kernel)⟩
theorem lw_p68 : lw_okq (⟨"Plateroomprinter", "digestOfPage", "(J)J"⟩, 17) := ⟨⟨by decide +kernel, by decide +kernel⟩, List.mem_of_getElem? (i := 48) (by decide +kernel), List.mem_of_getElem? (i := 1389) (by decide +kernel), List.mem_of_getElem? (i := 1390) (by decide +kernel)⟩
theorem lw_p69 : lw_okq (⟨"Plateroomprinter", "sharedBits", "(Z)I"⟩, 17) := ⟨⟨by decide +kernel, by decide +kernel⟩, List.mem_of_getElem? (i := 48) (by decide +kernel), List.mem_of_getElem? (i := 1545) (by decide +kernel), List.mem_of_getElem? (i := 1546) (by decide +kernel)⟩
theorem lw_p70 : lw_okq (⟨"java/util/ArrayList", "add", "(Ljava/lang/Object;[Ljava/lang/Object;I)V"⟩, 3) := ⟨⟨by decide +kernel, by decide +kernel⟩, List.mem_of_getElem? (i := 1614) (by decide +kernel), List.mem_of_getElem? (i := 1688) (by decide +kernel), List.mem_of_getElem? (i := 1689) (by decide +kernel)⟩
theorem lw_p71 : lw_okq (⟨"java/util/ArrayList", "grow", "()[Ljava/lang/Object;"⟩, 3) := ⟨⟨by decide +kernel, by decide +kernel⟩, List.mem_of_getElem? (i := 1614) (by decide +kernel), List.mem_of_getElem? (i := 1692) (by decide +kernel), List.mem_of_getElem? (i := 1693) (by decide +kernel)⟩
theorem lw_p72 : lw_okq (⟨"java/util/ArrayList", "grow", "(I)[Ljava/lang/Object;"⟩, 3) := ⟨⟨by decide +kernel, by decide +kernel⟩, List.mem_of_getElem? (i := 1614) (by decide +kernel), List.mem_of_getElem? (i := 1696) (by decide +kernel), List.mem_of_getElem? (i := 1697) (by decide +kernel)⟩
theorem lw_p73 : lw_okq (⟨"PlateroomprinterModel", "start", "(ZI)Z"⟩, 5) := ⟨⟨by decide +kernel, by decide +kernel⟩, List.mem_of_getElem? (i := 1602) (by decide +kernel), List.mem_of_getElem? (i := 1856) (by decide +kernel), List.mem_of_getElem? (i := 1857) (by decide +kernel)⟩
theorem lw_p74 : lw_okq (⟨"PlateroomprinterModel", "refuse", "(ZI)Z"⟩, 5) := ⟨⟨by decide +kernel, by decide +kernel⟩, List.mem_of_getElem? (i := 1602) (by decide +kernel), List.mem_of_getElem? (i := 1860) (by decide +kernel), List.mem_of_getElem? (i := 1861) (by decide +kernel)⟩
theorem lw_p75 : lw_okq (⟨"java/util/ArrayList", "fastRemove", "([Ljava/lang/Object;I)V"⟩, 3) := ⟨⟨by decide +kernel, by decide +kernel⟩, List.mem_of_getElem? (i := 1614) (by decide +kernel), List.mem_of_getElem? (i := 1891) (by decide +kernel), List.mem_of_getElem? (i := 1892) (by decide +kernel)⟩
theorem lw_p76 : lw_okq (⟨"PlateroomprinterModel$Run", "isOn", "()Z"⟩, 5) := ⟨⟨by decide +kernel, by decide +kernel⟩, List.mem_of_getElem? (i := 1972) (by decide +kernel), List.mem_of_getElem? (i := 2036) (by decide +kernel), List.mem_of_getElem? (i := 2037) (by decide +kernel)⟩
theorem lw_p77 : lw_okq (⟨"PlateroomprinterModel$Run", "top", "()LPlateroomprinterModel$Row;"⟩, 5) := ⟨⟨by decide +kernel, by decide +kernel⟩, List.mem_of_getElem? (i := 1972) (by decide +kernel), List.mem_of_getElem? (i := 2041) (by decide +kernel), List.mem_of_getElem? (i := 2042) (by decide +kernel)⟩
theorem lw_p78 : lw_okq (⟨"PlateroomprinterModel$Run", "isRound", "(LPlateroomprinterModel$Row;)Z"⟩, 5) := ⟨⟨by decide +kernel, by decide +kernel⟩, List.mem_of_getElem? (i := 1972) (by decide +kernel), List.mem_of_getElem? (i := 2052) (by decide +kernel), List.mem_of_getElem? (i := 2053) (by decide +kernel)⟩
theorem lw_p79 : lw_okq (⟨"PlateroomprinterModel$Run", "round", "(LPlateroomprinterModel$Row;)V"⟩, 5) := ⟨⟨by decide +kernel, by decide +kernel⟩, List.mem_of_getElem? (i := 1972) (by decide +kernel), List.mem_of_getElem? (i := 2056) (by decide +kernel), List.mem_of_getElem? (i := 2057) (by decide +kernel)⟩
def lw_privs_5 : List (MethodName × Nat) := [(⟨"Plateroomprinter", "unpack", "(I[I)Z"⟩, 17), (⟨"Plateroomprinter", "digestOfProgram", "(J)J"⟩, 17), (⟨"Plateroomprinter", "digestOfState", "(J)J"⟩, 17), (⟨"Plateroomprinter", "digestOfPath", "(J)J"⟩, 17), (⟨"Plateroomprinter", "digestOfPage", "(J)J"⟩, 17), (⟨"Plateroomprinter", "sharedBits", "(Z)I"⟩, 17), (⟨"java/util/ArrayList", "add", "(Ljava/lang/Object;[Ljava/lang/Object;I)V"⟩, 3), (⟨"java/util/ArrayList", "grow", "()[Ljava/lang/Object;"⟩, 3), (⟨"java/util/ArrayList", "grow", "(I)[Ljava/lang/Object;"⟩, 3), (⟨"PlateroomprinterModel", "start", "(ZI)Z"⟩, 5), (⟨"PlateroomprinterModel", "refuse", "(ZI)Z"⟩, 5), (⟨"java/util/ArrayList", "fastRemove", "([Ljava/lang/Object;I)V"⟩, 3), (⟨"PlateroomprinterModel$Run", "isOn", "()Z"⟩, 5), (⟨"PlateroomprinterModel$Run", "top", "()LPlateroomprinterModel$Row;"⟩, 5), (⟨"PlateroomprinterModel$Run", "isRound", "(LPlateroomprinterModel$Row;)Z"⟩, 5), (⟨"PlateroomprinterModel$Run", "round", "(LPlateroomprinterModel$Row;)V"⟩, 5)]
theorem lw_r5 : ∀ q ∈ lw_privs_5, lw_okq q := List.forall_mem_cons.mpr ⟨lw_p64, List.forall_mem_cons.mpr ⟨lw_p65, List.forall_mem_cons.mpr ⟨lw_p66, List.forall_mem_cons.mpr ⟨lw_p67, List.forall_mem_cons.mpr ⟨lw_p68, List.forall_mem_cons.mpr ⟨lw_p69, List.forall_mem_cons.mpr ⟨lw_p70, List.forall_mem_cons.mpr ⟨lw_p71, List.forall_mem_cons.mpr ⟨lw_p72, List.forall_mem_cons.mpr ⟨lw_p73, List.forall_mem_cons.mpr ⟨lw_p74, List.forall_mem_cons.mpr ⟨lw_p75, List.forall_mem_cons.mpr ⟨lw_p76, List.forall_mem_cons.mpr ⟨lw_p77, List.forall_mem_cons.mpr ⟨lw_p78, List.forall_mem_cons.mpr ⟨lw_p79, fun _ h => absurd h List.not_mem_nil⟩⟩⟩⟩⟩⟩⟩⟩⟩⟩⟩⟩⟩⟩⟩⟩
theorem lw_p80 : lw_okq (⟨"PlateroomprinterModel$Run", "push", "(J)V"⟩, 5) := ⟨⟨by decide +kernel, by decide +kernel⟩, List.mem_of_getElem? (i := 1972) (by decide +kernel), List.mem_of_getElem? (i := 2060) (by decide +kernel), List.mem_of_getElem? (i := 2061) (by decide +kernel)⟩
theorem lw_p81 : lw_okq (⟨"PlateroomprinterModel$Run", "put", "(LPlateroomprinterModel$Item;)V"⟩, 5) := ⟨⟨by decide +kernel, by decide +kernel⟩, List.mem_of_getElem? (i := 1972) (by decide +kernel), List.mem_of_getElem? (i := 2113) (by decide +kernel), List.mem_of_getElem? (i := 2114) (by decide +kernel)⟩
theorem lw_p82 : lw_okq (⟨"PlateroomprinterModel$Run", "token", "(LPlateroomprinterModel$Row;[I)V"⟩, 5) := ⟨⟨by decide +kernel, by decide +kernel⟩, List.mem_of_getElem? (i := 1972) (by decide +kernel), List.mem_of_getElem? (i := 2119) (by decide +kernel), List.mem_of_getElem? (i := 2120) (by decide +kernel)⟩
theorem lw_p83 : lw_okq (⟨"PlateroomprinterModel$Run", "order", "(I)V"⟩, 5) := ⟨⟨by decide +kernel, by decide +kernel⟩, List.mem_of_getElem? (i := 1972) (by decide +kernel), List.mem_of_getElem? (i := 2123) (by decide +kernel), List.mem_of_getElem? (i := 2124) (by decide +kernel)⟩
theorem lw_p84 : lw_okq (⟨"PlateroomprinterModel$Run", "reckon", "(I)V"⟩, 5) := ⟨⟨by decide +kernel, by decide +kernel⟩, List.mem_of_getElem? (i := 1972) (by decide +kernel), List.mem_of_getElem? (i := 2127) (by decide +kernel), List.mem_of_getElem? (i := 2128) (by decide +kernel)⟩
theorem lw_p85 : lw_okq (⟨"PlateroomprinterModel$Run", "numbers", "(I)[J"⟩, 5) := ⟨⟨by decide +kernel, by decide +kernel⟩, List.mem_of_getElem? (i := 1972) (by decide +kernel), List.mem_of_getElem? (i := 2131) (by decide +kernel), List.mem_of_getElem? (i := 2132) (by decide +kernel)⟩
theorem lw_p86 : lw_okq (⟨"PlateroomprinterModel$Run", "sorted", "(I)LPlateroomprinterModel$Item;"⟩, 5) := ⟨⟨by decide +kernel, by decide +kernel⟩, List.mem_of_getElem? (i := 1972) (by decide +kernel), List.mem_of_getElem? (i := 2135) (by decide +kernel), List.mem_of_getElem? (i := 2136) (by decide +kernel)⟩
theorem lw_p87 : lw_okq (⟨"PlateroomprinterModel$Run", "any", "()LPlateroomprinterModel$Item;"⟩, 5) := ⟨⟨by decide +kernel, by decide +kernel⟩, List.mem_of_getElem? (i := 1972) (by decide +kernel), List.mem_of_getElem? (i := 2139) (by decide +kernel), List.mem_of_getElem? (i := 2140) (by decide +kernel)⟩
theorem lw_p88 : lw_okq (⟨"PlateroomprinterModel$Run", "control", "(I)V"⟩, 5) := ⟨⟨by decide +kernel, by decide +kernel⟩, List.mem_of_getElem? (i := 1972) (by decide +kernel), List.mem_of_getElem? (i := 2147) (by decide +kernel), List.mem_of_getElem? (i := 2148) (by decide +kernel)⟩
theorem lw_p89 : lw_okq (⟨"PlateroomprinterModel$Run", "enter", "(LPlateroomprinterModel$Row;)V"⟩, 5) := ⟨⟨by decide +kernel, by decide +kernel⟩, List.mem_of_getElem? (i := 1972) (by decide +kernel), List.mem_of_getElem? (i := 2151) (by decide +kernel), List.mem_of_getElem? (i := 2152) (by decide +kernel)⟩
theorem lw_p90 : lw_okq (⟨"PlateroomprinterModel$Run", "number", "(II)I"⟩, 5) := ⟨⟨by decide +kernel, by decide +kernel⟩, List.mem_of_getElem? (i := 1972) (by decide +kernel), List.mem_of_getElem? (i := 2155) (by decide +kernel), List.mem_of_getElem? (i := 2156) (by decide +kernel)⟩
theorem lw_p91 : lw_okq (⟨"PlateroomprinterModel$Run", "begin", "(LPlateroomprinterModel$Row;)V"⟩, 5) := ⟨⟨by decide +kernel, by decide +kernel⟩, List.mem_of_getElem? (i := 1972) (by decide +kernel), List.mem_of_getElem? (i := 2159) (by decide +kernel), List.mem_of_getElem? (i := 2160) (by decide +kernel)⟩
theorem lw_p92 : lw_okq (⟨"PlateroomprinterModel$Run", "exit", "()V"⟩, 5) := ⟨⟨by decide +kernel, by decide +kernel⟩, List.mem_of_getElem? (i := 1972) (by decide +kernel), List.mem_of_getElem? (i := 2163) (by decide +kernel), List.mem_of_getElem? (i := 2164) (by decide +kernel)⟩
theorem lw_p93 : lw_okq (⟨"PlateroomprinterModel$Run", "matrix", "(I)V"⟩, 5) := ⟨⟨by decide +kernel, by decide +kernel⟩, List.mem_of_getElem? (i := 1972) (by decide +kernel), List.mem_of_getElem? (i := 2167) (by decide +kernel), List.mem_of_getElem? (i := 2168) (by decide +kernel)⟩
theorem lw_p94 : lw_okq (⟨"PlateroomprinterModel$Run", "turn", "(LPlateroomprinterModel$State;)V"⟩, 5) := ⟨⟨by decide +kernel, by decide +kernel⟩, List.mem_of_getElem? (i := 1972) (by decide +kernel), List.mem_of_getElem? (i := 2221) (by decide +kernel), List.mem_of_getElem? (i := 2222) (by decide +kernel)⟩
theorem lw_p95 : lw_okq (⟨"PlateroomprinterModel$Run", "path", "(I)V"⟩, 5) := ⟨⟨by decide +kernel, by decide +kernel⟩, List.mem_of_getElem? (i := 1972) (by decide +kernel), List.mem_of_getElem? (i := 2225) (by decide +kernel), List.mem_of_getElem? (i := 2226) (by decide +kernel)⟩
def lw_privs_6 : List (MethodName × Nat) := [(⟨"PlateroomprinterModel$Run", "push", "(J)V"⟩, 5), (⟨"PlateroomprinterModel$Run", "put", "(LPlateroomprinterModel$Item;)V"⟩, 5), (⟨"PlateroomprinterModel$Run", "token", "(LPlateroomprinterModel$Row;[I)V"⟩, 5), (⟨"PlateroomprinterModel$Run", "order", "(I)V"⟩, 5), (⟨"PlateroomprinterModel$Run", "reckon", "(I)V"⟩, 5), (⟨"PlateroomprinterModel$Run", "numbers", "(I)[J"⟩, 5), (⟨"PlateroomprinterModel$Run", "sorted", "(I)LPlateroomprinterModel$Item;"⟩, 5), (⟨"PlateroomprinterModel$Run", "any", "()LPlateroomprinterModel$Item;"⟩, 5), (⟨"PlateroomprinterModel$Run", "control", "(I)V"⟩, 5), (⟨"PlateroomprinterModel$Run", "enter", "(LPlateroomprinterModel$Row;)V"⟩, 5), (⟨"PlateroomprinterModel$Run", "number", "(II)I"⟩, 5), (⟨"PlateroomprinterModel$Run", "begin", "(LPlateroomprinterModel$Row;)V"⟩, 5), (⟨"PlateroomprinterModel$Run", "exit", "()V"⟩, 5), (⟨"PlateroomprinterModel$Run", "matrix", "(I)V"⟩, 5), (⟨"PlateroomprinterModel$Run", "turn", "(LPlateroomprinterModel$State;)V"⟩, 5), (⟨"PlateroomprinterModel$Run", "path", "(I)V"⟩, 5)]
theorem lw_r6 : ∀ q ∈ lw_privs_6, lw_okq q := List.forall_mem_cons.mpr ⟨lw_p80, List.forall_mem_cons.mpr ⟨lw_p81, List.forall_mem_cons.mpr ⟨lw_p82, List.forall_mem_cons.mpr ⟨lw_p83, List.forall_mem_cons.mpr ⟨lw_p84, List.forall_mem_cons.mpr ⟨lw_p85, List.forall_mem_cons.mpr ⟨lw_p86, List.forall_mem_cons.mpr ⟨lw_p87, List.forall_mem_cons.mpr ⟨lw_p88, List.forall_mem_cons.mpr ⟨lw_p89, List.forall_mem_cons.mpr ⟨lw_p90, List.forall_mem_cons.mpr ⟨lw_p91, List.forall_mem_cons.mpr ⟨lw_p92, List.forall_mem_cons.mpr ⟨lw_p93, List.forall_mem_cons.mpr ⟨lw_p94, List.forall_mem_cons.mpr ⟨lw_p95, fun _ h => absurd h List.not_mem_nil⟩⟩⟩⟩⟩⟩⟩⟩⟩⟩⟩⟩⟩⟩⟩⟩
theorem lw_p96 : lw_okq (⟨"PlateroomprinterModel$Run", "empty", "()V"⟩, 5) := ⟨⟨by decide +kernel, by decide +kernel⟩, List.mem_of_getElem? (i := 1972) (by decide +kernel), List.mem_of_getElem? (i := 2229) (by decide +kernel), List.mem_of_getElem? (i := 2230) (by decide +kernel)⟩
theorem lw_p97 : lw_okq (⟨"PlateroomprinterModel$Run", "begin", "([I)LPlateroomprinterModel$Ring;"⟩, 5) := ⟨⟨by decide +kernel, by decide +kernel⟩, List.mem_of_getElem? (i := 1972) (by decide +kernel), List.mem_of_getElem? (i := 2253) (by decide +kernel), List.mem_of_getElem? (i := 2254) (by decide +kernel)⟩
theorem lw_p98 : lw_okq (⟨"PlateroomprinterModel$Run", "add", "(Ljava/util/ArrayList;LPlateroomprinterModel$Ring;[I)V"⟩, 5) := ⟨⟨by decide +kernel, by decide +kernel⟩, List.mem_of_getElem? (i := 1972) (by decide +kernel), List.mem_of_getElem? (i := 2259) (by decide +kernel), List.mem_of_getElem? (i := 2260) (by decide +kernel)⟩
theorem lw_p99 : lw_okq (⟨"PlateroomprinterModel$Run", "going", "()LPlateroomprinterModel$Ring;"⟩, 5) := ⟨⟨by decide +kernel, by decide +kernel⟩, List.mem_of_getElem? (i := 1972) (by decide +kernel), List.mem_of_getElem? (i := 2266) (by decide +kernel), List.mem_of_getElem? (i := 2267) (by decide +kernel)⟩
theorem lw_p100 : lw_okq (⟨"PlateroomprinterModel$Run", "further", "(LPlateroomprinterModel$Ring;[I)V"⟩, 5) := ⟨⟨by decide +kernel, by decide +kernel⟩, List.mem_of_getElem? (i := 1972) (by decide +kernel), List.mem_of_getElem? (i := 2270) (by decide +kernel), List.mem_of_getElem? (i := 2271) (by decide +kernel)⟩
theorem lw_p101 : lw_okq (⟨"PlateroomprinterModel$Run", "curve", "(LPlateroomprinterModel$Ring;[[II)V"⟩, 5) := ⟨⟨by decide +kernel, by decide +kernel⟩, List.mem_of_getElem? (i := 1972) (by decide +kernel), List.mem_of_getElem? (i := 2279) (by decide +kernel), List.mem_of_getElem? (i := 2280) (by decide +kernel)⟩
theorem lw_p102 : lw_okq (⟨"PlateroomprinterModel$Run", "mid", "([I[I)[I"⟩, 5) := ⟨⟨by decide +kernel, by decide +kernel⟩, List.mem_of_getElem? (i := 1972) (by decide +kernel), List.mem_of_getElem? (i := 2285) (by decide +kernel), List.mem_of_getElem? (i := 2286) (by decide +kernel)⟩
theorem lw_p103 : lw_okq (⟨"PlateroomprinterModel$Run", "paint", "(I)V"⟩, 5) := ⟨⟨by decide +kernel, by decide +kernel⟩, List.mem_of_getElem? (i := 1972) (by decide +kernel), List.mem_of_getElem? (i := 2296) (by decide +kernel), List.mem_of_getElem? (i := 2297) (by decide +kernel)⟩
theorem lw_p104 : lw_okq (⟨"PlateroomprinterModel$Run", "figure", "(Ljava/util/ArrayList;I)V"⟩, 5) := ⟨⟨by decide +kernel, by decide +kernel⟩, List.mem_of_getElem? (i := 1972) (by decide +kernel), List.mem_of_getElem? (i := 2300) (by decide +kernel), List.mem_of_getElem? (i := 2301) (by decide +kernel)⟩
theorem lw_p105 : lw_okq (⟨"PlateroomprinterModel$Run", "stroked", "(Ljava/util/ArrayList;LPlateroomprinterModel$Ring;)V"⟩, 5) := ⟨⟨by decide +kernel, by decide +kernel⟩, List.mem_of_getElem? (i := 1972) (by decide +kernel), List.mem_of_getElem? (i := 2347) (by decide +kernel), List.mem_of_getElem? (i := 2348) (by decide +kernel)⟩
theorem lw_p106 : lw_okq (⟨"PlateroomprinterModel$Run", "bar", "(Ljava/util/ArrayList;[I[I)V"⟩, 5) := ⟨⟨by decide +kernel, by decide +kernel⟩, List.mem_of_getElem? (i := 1972) (by decide +kernel), List.mem_of_getElem? (i := 2351) (by decide +kernel), List.mem_of_getElem? (i := 2352) (by decide +kernel)⟩
theorem lw_p107 : lw_okq (⟨"PlateroomprinterModel$Run", "at", "([III)[I"⟩, 5) := ⟨⟨by decide +kernel, by decide +kernel⟩, List.mem_of_getElem? (i := 1972) (by decide +kernel), List.mem_of_getElem? (i := 2356) (by decide +kernel), List.mem_of_getElem? (i := 2357) (by decide +kernel)⟩
theorem lw_p108 : lw_okq (⟨"PlateroomprinterModel$Run", "alone", "(Ljava/util/ArrayList;[[I)V"⟩, 5) := ⟨⟨by decide +kernel, by decide +kernel⟩, List.mem_of_getElem? (i := 1972) (by decide +kernel), List.mem_of_getElem? (i := 2360) (by decide +kernel), List.mem_of_getElem? (i := 2361) (by decide +kernel)⟩
theorem lw_p109 : lw_okq (⟨"PlateroomprinterModel$Run", "square", "(Ljava/util/ArrayList;[I)V"⟩, 5) := ⟨⟨by decide +kernel, by decide +kernel⟩, List.mem_of_getElem? (i := 1972) (by decide +kernel), List.mem_of_getElem? (i := 2368) (by decide +kernel), List.mem_of_getElem? (i := 2369) (by decide +kernel)⟩
theorem lw_p110 : lw_okq (⟨"PlateroomprinterModel$Run", "colour", "([J)V"⟩, 5) := ⟨⟨by decide +kernel, by decide +kernel⟩, List.mem_of_getElem? (i := 1972) (by decide +kernel), List.mem_of_getElem? (i := 2372) (by decide +kernel), List.mem_of_getElem? (i := 2373) (by decide +kernel)⟩
theorem lw_p111 : lw_okq (⟨"PlateroomprinterModel$Run", "digits", "(JJ)V"⟩, 5) := ⟨⟨by decide +kernel, by decide +kernel⟩, List.mem_of_getElem? (i := 1972) (by decide +kernel), List.mem_of_getElem? (i := 2378) (by decide +kernel), List.mem_of_getElem? (i := 2379) (by decide +kernel)⟩
def lw_privs_7 : List (MethodName × Nat) := [(⟨"PlateroomprinterModel$Run", "empty", "()V"⟩, 5), (⟨"PlateroomprinterModel$Run", "begin", "([I)LPlateroomprinterModel$Ring;"⟩, 5), (⟨"PlateroomprinterModel$Run", "add", "(Ljava/util/ArrayList;LPlateroomprinterModel$Ring;[I)V"⟩, 5), (⟨"PlateroomprinterModel$Run", "going", "()LPlateroomprinterModel$Ring;"⟩, 5), (⟨"PlateroomprinterModel$Run", "further", "(LPlateroomprinterModel$Ring;[I)V"⟩, 5), (⟨"PlateroomprinterModel$Run", "curve", "(LPlateroomprinterModel$Ring;[[II)V"⟩, 5), (⟨"PlateroomprinterModel$Run", "mid", "([I[I)[I"⟩, 5), (⟨"PlateroomprinterModel$Run", "paint", "(I)V"⟩, 5), (⟨"PlateroomprinterModel$Run", "figure", "(Ljava/util/ArrayList;I)V"⟩, 5), (⟨"PlateroomprinterModel$Run", "stroked", "(Ljava/util/ArrayList;LPlateroomprinterModel$Ring;)V"⟩, 5), (⟨"PlateroomprinterModel$Run", "bar", "(Ljava/util/ArrayList;[I[I)V"⟩, 5), (⟨"PlateroomprinterModel$Run", "at", "([III)[I"⟩, 5), (⟨"PlateroomprinterModel$Run", "alone", "(Ljava/util/ArrayList;[[I)V"⟩, 5), (⟨"PlateroomprinterModel$Run", "square", "(Ljava/util/ArrayList;[I)V"⟩, 5), (⟨"PlateroomprinterModel$Run", "colour", "([J)V"⟩, 5), (⟨"PlateroomprinterModel$Run", "digits", "(JJ)V"⟩, 5)]
theorem lw_r7 : ∀ q ∈ lw_privs_7, lw_okq q := List.forall_mem_cons.mpr ⟨lw_p96, List.forall_mem_cons.mpr ⟨lw_p97, List.forall_mem_cons.mpr ⟨lw_p98, List.forall_mem_cons.mpr ⟨lw_p99, List.forall_mem_cons.mpr ⟨lw_p100, List.forall_mem_cons.mpr ⟨lw_p101, List.forall_mem_cons.mpr ⟨lw_p102, List.forall_mem_cons.mpr ⟨lw_p103, List.forall_mem_cons.mpr ⟨lw_p104, List.forall_mem_cons.mpr ⟨lw_p105, List.forall_mem_cons.mpr ⟨lw_p106, List.forall_mem_cons.mpr ⟨lw_p107, List.forall_mem_cons.mpr ⟨lw_p108, List.forall_mem_cons.mpr ⟨lw_p109, List.forall_mem_cons.mpr ⟨lw_p110, List.forall_mem_cons.mpr ⟨lw_p111, fun _ h => absurd h List.not_mem_nil⟩⟩⟩⟩⟩⟩⟩⟩⟩⟩⟩⟩⟩⟩⟩⟩
theorem lw_p112 : lw_okq (⟨"PlateroomprinterModel$Run", "draw", "(C)V"⟩, 5) := ⟨⟨by decide +kernel, by decide +kernel⟩, List.mem_of_getElem? (i := 1972) (by decide +kernel), List.mem_of_getElem? (i := 2661) (by decide +kernel), List.mem_of_getElem? (i := 2662) (by decide +kernel)⟩
theorem lw_p113 : lw_okq (⟨"PlateroomprinterModel$Run", "drawn", "(Ljava/util/ArrayList;[I)V"⟩, 5) := ⟨⟨by decide +kernel, by decide +kernel⟩, List.mem_of_getElem? (i := 1972) (by decide +kernel), List.mem_of_getElem? (i := 2665) (by decide +kernel), List.mem_of_getElem? (i := 2666) (by decide +kernel)⟩
theorem lw_p114 : lw_okq (⟨"PlateroomprinterModel$Run", "width", "(C)I"⟩, 5) := ⟨⟨by decide +kernel, by decide +kernel⟩, List.mem_of_getElem? (i := 1972) (by decide +kernel), List.mem_of_getElem? (i := 2673) (by decide +kernel), List.mem_of_getElem? (i := 2674) (by decide +kernel)⟩
theorem lw_p115 : lw_okq (⟨"PlateroomprinterModel$Run", "set", "(JJ)V"⟩, 5) := ⟨⟨by decide +kernel, by decide +kernel⟩, List.mem_of_getElem? (i := 1972) (by decide +kernel), List.mem_of_getElem? (i := 2677) (by decide +kernel), List.mem_of_getElem? (i := 2678) (by decide +kernel)⟩
theorem lw_p116 : lw_okq (⟨"PlateroomprinterModel$Run", "image", "(J)V"⟩, 5) := ⟨⟨by decide +kernel, by decide +kernel⟩, List.mem_of_getElem? (i := 1972) (by decide +kernel), List.mem_of_getElem? (i := 2681) (by decide +kernel), List.mem_of_getElem? (i := 2682) (by decide +kernel)⟩
theorem lw_p117 : lw_okq (⟨"PlateroomprinterModel$Run", "use", "(JJJ)V"⟩, 5) := ⟨⟨by decide +kernel, by decide +kernel⟩, List.mem_of_getElem? (i := 1972) (by decide +kernel), List.mem_of_getElem? (i := 2688) (by decide +kernel), List.mem_of_getElem? (i := 2689) (by decide +kernel)⟩
theorem lw_p118 : lw_okq (⟨"PlateroomprinterModel$Run", "page", "()V"⟩, 5) := ⟨⟨by decide +kernel, by decide +kernel⟩, List.mem_of_getElem? (i := 1972) (by decide +kernel), List.mem_of_getElem? (i := 2741) (by decide +kernel), List.mem_of_getElem? (i := 2742) (by decide +kernel)⟩
theorem lw_p119 : lw_okq (⟨"PlateroomprinterModel$Run", "name", "(I)V"⟩, 5) := ⟨⟨by decide +kernel, by decide +kernel⟩, List.mem_of_getElem? (i := 1972) (by decide +kernel), List.mem_of_getElem? (i := 2745) (by decide +kernel), List.mem_of_getElem? (i := 2746) (by decide +kernel)⟩
theorem lw_p120 : lw_okq (⟨"PlateroomprinterModel$Run", "procedure", "(LPlateroomprinterModel$Row;)LPlateroomprinterModel$Item;"⟩, 5) := ⟨⟨by decide +kernel, by decide +kernel⟩, List.mem_of_getElem? (i := 1972) (by decide +kernel), List.mem_of_getElem? (i := 2749) (by decide +kernel), List.mem_of_getElem? (i := 2750) (by decide +kernel)⟩
theorem lw_p121 : lw_okq (⟨"PlateroomprinterModel", "failed", "(III)I"⟩, 5) := ⟨⟨by decide +kernel, by decide +kernel⟩, List.mem_of_getElem? (i := 1602) (by decide +kernel), List.mem_of_getElem? (i := 2755) (by decide +kernel), List.mem_of_getElem? (i := 2756) (by decide +kernel)⟩
theorem lw_p122 : lw_okq (⟨"PlateroomprinterModel", "nameNow", "(II)I"⟩, 5) := ⟨⟨by decide +kernel, by decide +kernel⟩, List.mem_of_getElem? (i := 1602) (by decide +kernel), List.mem_of_getElem? (i := 2797) (by decide +kernel), List.mem_of_getElem? (i := 2798) (by decide +kernel)⟩
theorem lw_p123 : lw_okq (⟨"PlateroomprinterModel", "costNow", "(I)I"⟩, 5) := ⟨⟨by decide +kernel, by decide +kernel⟩, List.mem_of_getElem? (i := 1602) (by decide +kernel), List.mem_of_getElem? (i := 2805) (by decide +kernel), List.mem_of_getElem? (i := 2806) (by decide +kernel)⟩
theorem lw_p124 : lw_okq (⟨"PlateroomprinterModel", "stateNow", "(I)I"⟩, 5) := ⟨⟨by decide +kernel, by decide +kernel⟩, List.mem_of_getElem? (i := 1602) (by decide +kernel), List.mem_of_getElem? (i := 2818) (by decide +kernel), List.mem_of_getElem? (i := 2819) (by decide +kernel)⟩
theorem lw_p125 : lw_okq (⟨"PlateroomprinterModel", "matrixNow", "(II)I"⟩, 5) := ⟨⟨by decide +kernel, by decide +kernel⟩, List.mem_of_getElem? (i := 1602) (by decide +kernel), List.mem_of_getElem? (i := 2829) (by decide +kernel), List.mem_of_getElem? (i := 2830) (by decide +kernel)⟩
theorem lw_p126 : lw_okq (⟨"PlateroomprinterModel", "isNoRing", "(I)Z"⟩, 5) := ⟨⟨by decide +kernel, by decide +kernel⟩, List.mem_of_getElem? (i := 1602) (by decide +kernel), List.mem_of_getElem? (i := 2837) (by decide +kernel), List.mem_of_getElem? (i := 2838) (by decide +kernel)⟩
theorem lw_p127 : lw_okq (⟨"PlateroomprinterModel", "path", "()Ljava/util/ArrayList;"⟩, 5) := ⟨⟨by decide +kernel, by decide +kernel⟩, List.mem_of_getElem? (i := 1602) (by decide +kernel), List.mem_of_getElem? (i := 2841) (by decide +kernel), List.mem_of_getElem? (i := 2842) (by decide +kernel)⟩
def lw_privs_8 : List (MethodName × Nat) := [(⟨"PlateroomprinterModel$Run", "draw", "(C)V"⟩, 5), (⟨"PlateroomprinterModel$Run", "drawn", "(Ljava/util/ArrayList;[I)V"⟩, 5), (⟨"PlateroomprinterModel$Run", "width", "(C)I"⟩, 5), (⟨"PlateroomprinterModel$Run", "set", "(JJ)V"⟩, 5), (⟨"PlateroomprinterModel$Run", "image", "(J)V"⟩, 5), (⟨"PlateroomprinterModel$Run", "use", "(JJJ)V"⟩, 5), (⟨"PlateroomprinterModel$Run", "page", "()V"⟩, 5), (⟨"PlateroomprinterModel$Run", "name", "(I)V"⟩, 5), (⟨"PlateroomprinterModel$Run", "procedure", "(LPlateroomprinterModel$Row;)LPlateroomprinterModel$Item;"⟩, 5), (⟨"PlateroomprinterModel", "failed", "(III)I"⟩, 5), (⟨"PlateroomprinterModel", "nameNow", "(II)I"⟩, 5), (⟨"PlateroomprinterModel", "costNow", "(I)I"⟩, 5), (⟨"PlateroomprinterModel", "stateNow", "(I)I"⟩, 5), (⟨"PlateroomprinterModel", "matrixNow", "(II)I"⟩, 5), (⟨"PlateroomprinterModel", "isNoRing", "(I)Z"⟩, 5), (⟨"PlateroomprinterModel", "path", "()Ljava/util/ArrayList;"⟩, 5)]
theorem lw_r8 : ∀ q ∈ lw_privs_8, lw_okq q := List.forall_mem_cons.mpr ⟨lw_p112, List.forall_mem_cons.mpr ⟨lw_p113, List.forall_mem_cons.mpr ⟨lw_p114, List.forall_mem_cons.mpr ⟨lw_p115, List.forall_mem_cons.mpr ⟨lw_p116, List.forall_mem_cons.mpr ⟨lw_p117, List.forall_mem_cons.mpr ⟨lw_p118, List.forall_mem_cons.mpr ⟨lw_p119, List.forall_mem_cons.mpr ⟨lw_p120, List.forall_mem_cons.mpr ⟨lw_p121, List.forall_mem_cons.mpr ⟨lw_p122, List.forall_mem_cons.mpr ⟨lw_p123, List.forall_mem_cons.mpr ⟨lw_p124, List.forall_mem_cons.mpr ⟨lw_p125, List.forall_mem_cons.mpr ⟨lw_p126, List.forall_mem_cons.mpr ⟨lw_p127, fun _ h => absurd h List.not_mem_nil⟩⟩⟩⟩⟩⟩⟩⟩⟩⟩⟩⟩⟩⟩⟩⟩
theorem lw_p128 : lw_okq (⟨"PlateroomprinterModel", "ringNow", "(II)I"⟩, 5) := ⟨⟨by decide +kernel, by decide +kernel⟩, List.mem_of_getElem? (i := 1602) (by decide +kernel), List.mem_of_getElem? (i := 2845) (by decide +kernel), List.mem_of_getElem? (i := 2846) (by decide +kernel)⟩
theorem lw_p129 : lw_okq (⟨"PlateroomprinterModel", "isNoPoint", "(II)Z"⟩, 5) := ⟨⟨by decide +kernel, by decide +kernel⟩, List.mem_of_getElem? (i := 1602) (by decide +kernel), List.mem_of_getElem? (i := 2853) (by decide +kernel), List.mem_of_getElem? (i := 2854) (by decide +kernel)⟩
theorem lw_p130 : lw_okq (⟨"PlateroomprinterModel", "formNow", "(II)I"⟩, 5) := ⟨⟨by decide +kernel, by decide +kernel⟩, List.mem_of_getElem? (i := 1602) (by decide +kernel), List.mem_of_getElem? (i := 2862) (by decide +kernel), List.mem_of_getElem? (i := 2863) (by decide +kernel)⟩
theorem lw_p131 : lw_okq (⟨"PlateroomprinterModel", "inverseNow", "()I"⟩, 5) := ⟨⟨by decide +kernel, by decide +kernel⟩, List.mem_of_getElem? (i := 1602) (by decide +kernel), List.mem_of_getElem? (i := 2890) (by decide +kernel), List.mem_of_getElem? (i := 2891) (by decide +kernel)⟩
theorem lw_p132 : lw_okq (⟨"PlateroomprinterModel", "figureNow", "(II)I"⟩, 5) := ⟨⟨by decide +kernel, by decide +kernel⟩, List.mem_of_getElem? (i := 1602) (by decide +kernel), List.mem_of_getElem? (i := 2911) (by decide +kernel), List.mem_of_getElem? (i := 2912) (by decide +kernel)⟩
theorem lw_p133 : lw_okq (⟨"PlateroomprinterModel", "rowNow", "(II)I"⟩, 5) := ⟨⟨by decide +kernel, by decide +kernel⟩, List.mem_of_getElem? (i := 1602) (by decide +kernel), List.mem_of_getElem? (i := 2935) (by decide +kernel), List.mem_of_getElem? (i := 2936) (by decide +kernel)⟩
theorem lw_p134 : lw_okq (⟨"PlateroomprinterModel", "runsOf", "(I)Ljava/util/ArrayList;"⟩, 5) := ⟨⟨by decide +kernel, by decide +kernel⟩, List.mem_of_getElem? (i := 1602) (by decide +kernel), List.mem_of_getElem? (i := 2957) (by decide +kernel), List.mem_of_getElem? (i := 2958) (by decide +kernel)⟩
theorem lw_p135 : lw_okq (⟨"PlateroomprinterModel", "pageNow", "(I)I"⟩, 5) := ⟨⟨by decide +kernel, by decide +kernel⟩, List.mem_of_getElem? (i := 1602) (by decide +kernel), List.mem_of_getElem? (i := 2994) (by decide +kernel), List.mem_of_getElem? (i := 2995) (by decide +kernel)⟩
theorem lw_p136 : lw_okq (⟨"PlateroomprinterModel", "addState", "(J)J"⟩, 5) := ⟨⟨by decide +kernel, by decide +kernel⟩, List.mem_of_getElem? (i := 1602) (by decide +kernel), List.mem_of_getElem? (i := 3019) (by decide +kernel), List.mem_of_getElem? (i := 3020) (by decide +kernel)⟩
def lw_privs_9 : List (MethodName × Nat) := [(⟨"PlateroomprinterModel", "ringNow", "(II)I"⟩, 5), (⟨"PlateroomprinterModel", "isNoPoint", "(II)Z"⟩, 5), (⟨"PlateroomprinterModel", "formNow", "(II)I"⟩, 5), (⟨"PlateroomprinterModel", "inverseNow", "()I"⟩, 5), (⟨"PlateroomprinterModel", "figureNow", "(II)I"⟩, 5), (⟨"PlateroomprinterModel", "rowNow", "(II)I"⟩, 5), (⟨"PlateroomprinterModel", "runsOf", "(I)Ljava/util/ArrayList;"⟩, 5), (⟨"PlateroomprinterModel", "pageNow", "(I)I"⟩, 5), (⟨"PlateroomprinterModel", "addState", "(J)J"⟩, 5)]
theorem lw_r9 : ∀ q ∈ lw_privs_9, lw_okq q := List.forall_mem_cons.mpr ⟨lw_p128, List.forall_mem_cons.mpr ⟨lw_p129, List.forall_mem_cons.mpr ⟨lw_p130, List.forall_mem_cons.mpr ⟨lw_p131, List.forall_mem_cons.mpr ⟨lw_p132, List.forall_mem_cons.mpr ⟨lw_p133, List.forall_mem_cons.mpr ⟨lw_p134, List.forall_mem_cons.mpr ⟨lw_p135, List.forall_mem_cons.mpr ⟨lw_p136, fun _ h => absurd h List.not_mem_nil⟩⟩⟩⟩⟩⟩⟩⟩⟩
def lw_privs : List (MethodName × Nat) := lw_privs_1 ++ (lw_privs_2 ++ (lw_privs_3 ++ (lw_privs_4 ++ (lw_privs_5 ++ (lw_privs_6 ++ (lw_privs_7 ++ (lw_privs_8 ++ (lw_privs_9))))))))
def lw_tbl : List Cond := k2_sels lw_privs ++ tables_1
theorem lw_privs_ok : ∀ q ∈ lw_privs, lw_okq q := by
  show ∀ q ∈ lw_privs_1 ++ (lw_privs_2 ++ (lw_privs_3 ++ (lw_privs_4 ++ (lw_privs_5 ++ (lw_privs_6 ++ (lw_privs_7 ++ (lw_privs_8 ++ (lw_privs_9)))))))), lw_okq q
  exact List.forall_mem_append.mpr ⟨lw_r1, List.forall_mem_append.mpr ⟨lw_r2, List.forall_mem_append.mpr ⟨lw_r3, List.forall_mem_append.mpr ⟨lw_r4, List.forall_mem_append.mpr ⟨lw_r5, List.forall_mem_append.mpr ⟨lw_r6, List.forall_mem_append.mpr ⟨lw_r7, List.forall_mem_append.mpr ⟨lw_r8, lw_r9⟩⟩⟩⟩⟩⟩⟩⟩
-- ===== end of PART A; then your names; then what follows =====
end
section
/-! NAMES, by program out of claim/Statement.lean: classes and their fields, kinds of arrays, methods -/
def er_0 : String := "Plateroomprinter"
def et_0 : u_T := fun k => match k with
  | 0 => ("Plateroomprinter", "code", "LPlateroomprinter$Code;", true)
  | 1 => ("Plateroomprinter", "world", "LPlateroomprinter$World;", true)
  | 2 => ("Plateroomprinter", "before", "LPlateroomprinter$World;", true)
  | 3 => ("Plateroomprinter", "raster", "LPlateroomprinter$Raster;", true)
  | 4 => ("Plateroomprinter", "painter", "LPlateroomprinter$Painter;", true)
  | 5 => ("Plateroomprinter", "engine", "LPlateroomprinter$Engine;", true)
  | 6 => ("Plateroomprinter", "trial", "LPlateroomprinter$Sheet;", true)
  | 7 => ("Plateroomprinter", "rowsOne", "[I", true)
  | 8 => ("Plateroomprinter", "rowsTwo", "[I", true)
  | 9 => ("Plateroomprinter", "rowsThree", "[I", true)
  | 10 => ("Plateroomprinter", "partXs", "[I", true)
  | 11 => ("Plateroomprinter", "partYs", "[I", true)
  | 12 => ("Plateroomprinter", "packs", "[I", true)
  | 13 => ("Plateroomprinter", "refused", "I", false)
  | 14 => ("Plateroomprinter", "faultCode", "I", false)
  | 15 => ("Plateroomprinter", "faultPlace", "I", false)
  | _ => ("Plateroomprinter", "faultOwnPlace", "I", false)
def ey_0 : Nat → FieldType := fun k => match k with
  | 0 => (.object "Plateroomprinter$Code")
  | 1 => (.object "Plateroomprinter$World")
  | 2 => (.object "Plateroomprinter$World")
  | 3 => (.object "Plateroomprinter$Raster")
  | 4 => (.object "Plateroomprinter$Painter")
  | 5 => (.object "Plateroomprinter$Engine")
  | 6 => (.object "Plateroomprinter$Sheet")
  | 7 => (.array .int)
  | 8 => (.array .int)
  | 9 => (.array .int)
  | 10 => (.array .int)
  | 11 => (.array .int)
  | 12 => (.array .int)
  | 13 => .int
  | 14 => .int
  | 15 => .int
  | _ => .int
theorem en_0 : ∀ a, a < 17 → ∀ b, b < 17 → a ≠ b → (et_0 a).2.1 ≠ (et_0 b).2.1 := by decide +kernel
theorem eo_0 : ∀ k, k < 17 → parseFieldDescriptor (et_0 k).2.2.1 = some (ey_0 k) := by decide +kernel
theorem ei_0 : ∀ w ∈ u_ws er_0 et_0 17, w ∈ lw_tbl := fun w hw => by
  have h : (u_ws er_0 et_0 17).all (fun w => decide (w ∈ lw_tbl)) = true := by decide +kernel
  exact of_decide_eq_true (List.all_eq_true.mp h w hw)
def er_1 : String := "Plateroomprinter$Code"
def et_1 : u_T := fun k => match k with
  | 0 => ("Plateroomprinter$Code", "kinds", "[I", true)
  | 1 => ("Plateroomprinter$Code", "numbers", "[I", true)
  | 2 => ("Plateroomprinter$Code", "base", "I", false)
  | _ => ("Plateroomprinter$Code", "size", "I", false)
def ey_1 : Nat → FieldType := fun k => match k with
  | 0 => (.array .int)
  | 1 => (.array .int)
  | 2 => .int
  | _ => .int
theorem en_1 : ∀ a, a < 4 → ∀ b, b < 4 → a ≠ b → (et_1 a).2.1 ≠ (et_1 b).2.1 := by decide +kernel
theorem eo_1 : ∀ k, k < 4 → parseFieldDescriptor (et_1 k).2.2.1 = some (ey_1 k) := by decide +kernel
theorem ei_1 : ∀ w ∈ u_ws er_1 et_1 4, w ∈ lw_tbl := fun w hw => by
  have h : (u_ws er_1 et_1 4).all (fun w => decide (w ∈ lw_tbl)) = true := by decide +kernel
  exact of_decide_eq_true (List.all_eq_true.mp h w hw)
def er_2 : String := "Plateroomprinter$Engine"
def et_2 : u_T := fun k => match k with
  | 0 => ("Plateroomprinter$Engine", "world", "LPlateroomprinter$World;", true)
  | 1 => ("Plateroomprinter$Engine", "code", "LPlateroomprinter$Code;", true)
  | 2 => ("Plateroomprinter$Engine", "sorts", "[I", true)
  | 3 => ("Plateroomprinter$Engine", "values", "[I", true)
  | 4 => ("Plateroomprinter$Engine", "lengths", "[I", true)
  | 5 => ("Plateroomprinter$Engine", "starts", "[I", true)
  | 6 => ("Plateroomprinter$Engine", "ends", "[I", true)
  | 7 => ("Plateroomprinter$Engine", "nexts", "[I", true)
  | 8 => ("Plateroomprinter$Engine", "ats", "[I", true)
  | 9 => ("Plateroomprinter$Engine", "loops", "[I", true)
  | 10 => ("Plateroomprinter$Engine", "numbers", "[I", true)
  | 11 => ("Plateroomprinter$Engine", "steps", "[I", true)
  | 12 => ("Plateroomprinter$Engine", "limits", "[I", true)
  | 13 => ("Plateroomprinter$Engine", "rows", "I", false)
  | 14 => ("Plateroomprinter$Engine", "spent", "I", false)
  | 15 => ("Plateroomprinter$Engine", "tokensDone", "I", false)
  | 16 => ("Plateroomprinter$Engine", "orderLeft", "I", false)
  | 17 => ("Plateroomprinter$Engine", "place", "I", false)
  | _ => ("Plateroomprinter$Engine", "ownPlace", "I", false)
def ey_2 : Nat → FieldType := fun k => match k with
  | 0 => (.object "Plateroomprinter$World")
  | 1 => (.object "Plateroomprinter$Code")
  | 2 => (.array .int)
  | 3 => (.array .int)
  | 4 => (.array .int)
  | 5 => (.array .int)
  | 6 => (.array .int)
  | 7 => (.array .int)
  | 8 => (.array .int)
  | 9 => (.array .int)
  | 10 => (.array .int)
  | 11 => (.array .int)
  | 12 => (.array .int)
  | 13 => .int
  | 14 => .int
  | 15 => .int
  | 16 => .int
  | 17 => .int
  | _ => .int
theorem en_2 : ∀ a, a < 19 → ∀ b, b < 19 → a ≠ b → (et_2 a).2.1 ≠ (et_2 b).2.1 := by decide +kernel
theorem eo_2 : ∀ k, k < 19 → parseFieldDescriptor (et_2 k).2.2.1 = some (ey_2 k) := by decide +kernel
theorem ei_2 : ∀ w ∈ u_ws er_2 et_2 19, w ∈ lw_tbl := fun w hw => by
  have h : (u_ws er_2 et_2 19).all (fun w => decide (w ∈ lw_tbl)) = true := by decide +kernel
  exact of_decide_eq_true (List.all_eq_true.mp h w hw)
def er_3 : String := "Plateroomprinter$Figures"
def et_3 : u_T := fun k => match k with
  | 0 => ("Plateroomprinter$Figures", "rows", "[I", true)
  | 1 => ("Plateroomprinter$Figures", "amounts", "[I", true)
  | 2 => ("Plateroomprinter$Figures", "sets", "[I", true)
  | 3 => ("Plateroomprinter$Figures", "points", "[I", true)
  | _ => ("Plateroomprinter$Figures", "count", "I", false)
def ey_3 : Nat → FieldType := fun k => match k with
  | 0 => (.array .int)
  | 1 => (.array .int)
  | 2 => (.array .int)
  | 3 => (.array .int)
  | _ => .int
theorem en_3 : ∀ a, a < 5 → ∀ b, b < 5 → a ≠ b → (et_3 a).2.1 ≠ (et_3 b).2.1 := by decide +kernel
theorem eo_3 : ∀ k, k < 5 → parseFieldDescriptor (et_3 k).2.2.1 = some (ey_3 k) := by decide +kernel
theorem ei_3 : ∀ w ∈ u_ws er_3 et_3 5, w ∈ lw_tbl := fun w hw => by
  have h : (u_ws er_3 et_3 5).all (fun w => decide (w ∈ lw_tbl)) = true := by decide +kernel
  exact of_decide_eq_true (List.all_eq_true.mp h w hw)
def er_4 : String := "Plateroomprinter$Items"
def et_4 : u_T := fun k => match k with
  | 0 => ("Plateroomprinter$Items", "most", "I", true)
  | 1 => ("Plateroomprinter$Items", "sorts", "[I", true)
  | 2 => ("Plateroomprinter$Items", "values", "[I", true)
  | 3 => ("Plateroomprinter$Items", "lengths", "[I", true)
  | _ => ("Plateroomprinter$Items", "count", "I", false)
def ey_4 : Nat → FieldType := fun k => match k with
  | 0 => .int
  | 1 => (.array .int)
  | 2 => (.array .int)
  | 3 => (.array .int)
  | _ => .int
theorem en_4 : ∀ a, a < 5 → ∀ b, b < 5 → a ≠ b → (et_4 a).2.1 ≠ (et_4 b).2.1 := by decide +kernel
theorem eo_4 : ∀ k, k < 5 → parseFieldDescriptor (et_4 k).2.2.1 = some (ey_4 k) := by decide +kernel
theorem ei_4 : ∀ w ∈ u_ws er_4 et_4 5, w ∈ lw_tbl := fun w hw => by
  have h : (u_ws er_4 et_4 5).all (fun w => decide (w ∈ lw_tbl)) = true := by decide +kernel
  exact of_decide_eq_true (List.all_eq_true.mp h w hw)
def er_5 : String := "Plateroomprinter$Matrix"
def et_5 : u_T := fun k => match k with
  | 0 => ("Plateroomprinter$Matrix", "tops", "[J", true)
  | 1 => ("Plateroomprinter$Matrix", "bottoms", "[J", true)
  | 2 => ("Plateroomprinter$Matrix", "whole", "J", false)
  | 3 => ("Plateroomprinter$Matrix", "rest", "J", false)
  | _ => ("Plateroomprinter$Matrix", "bottom", "J", false)
def ey_5 : Nat → FieldType := fun k => match k with
  | 0 => (.array .long)
  | 1 => (.array .long)
  | 2 => .long
  | 3 => .long
  | _ => .long
theorem en_5 : ∀ a, a < 5 → ∀ b, b < 5 → a ≠ b → (et_5 a).2.1 ≠ (et_5 b).2.1 := by decide +kernel
theorem eo_5 : ∀ k, k < 5 → parseFieldDescriptor (et_5 k).2.2.1 = some (ey_5 k) := by decide +kernel
theorem ei_5 : ∀ w ∈ u_ws er_5 et_5 5, w ∈ lw_tbl := fun w hw => by
  have h : (u_ws er_5 et_5 5).all (fun w => decide (w ∈ lw_tbl)) = true := by decide +kernel
  exact of_decide_eq_true (List.all_eq_true.mp h w hw)
def er_6 : String := "Plateroomprinter$Painter"
def et_6 : u_T := fun k => match k with
  | 0 => ("Plateroomprinter$Painter", "world", "LPlateroomprinter$World;", true)
  | 1 => ("Plateroomprinter$Painter", "now", "LPlateroomprinter$State;", true)
  | 2 => ("Plateroomprinter$Painter", "raster", "LPlateroomprinter$Raster;", true)
  | 3 => ("Plateroomprinter$Painter", "dots", "[I", true)
  | 4 => ("Plateroomprinter$Painter", "sets", "I", false)
  | 5 => ("Plateroomprinter$Painter", "points", "I", false)
  | 6 => ("Plateroomprinter$Painter", "painted", "I", false)
  | 7 => ("Plateroomprinter$Painter", "spotX", "I", false)
  | 8 => ("Plateroomprinter$Painter", "spotY", "I", false)
  | 9 => ("Plateroomprinter$Painter", "strokes", "LPlateroomprinter$Path;", true)
  | 10 => ("Plateroomprinter$Painter", "cornerXs", "[I", true)
  | 11 => ("Plateroomprinter$Painter", "cornerYs", "[I", true)
  | 12 => ("Plateroomprinter$Painter", "hulls", "[I", true)
  | 13 => ("Plateroomprinter$Painter", "halvings", "[I", true)
  | 14 => ("Plateroomprinter$Painter", "bendXs", "[I", true)
  | 15 => ("Plateroomprinter$Painter", "bendYs", "[I", true)
  | _ => ("Plateroomprinter$Painter", "bends", "I", false)
def ey_6 : Nat → FieldType := fun k => match k with
  | 0 => (.object "Plateroomprinter$World")
  | 1 => (.object "Plateroomprinter$State")
  | 2 => (.object "Plateroomprinter$Raster")
  | 3 => (.array .int)
  | 4 => .int
  | 5 => .int
  | 6 => .int
  | 7 => .int
  | 8 => .int
  | 9 => (.object "Plateroomprinter$Path")
  | 10 => (.array .int)
  | 11 => (.array .int)
  | 12 => (.array .int)
  | 13 => (.array .int)
  | 14 => (.array .int)
  | 15 => (.array .int)
  | _ => .int
theorem en_6 : ∀ a, a < 17 → ∀ b, b < 17 → a ≠ b → (et_6 a).2.1 ≠ (et_6 b).2.1 := by decide +kernel
theorem eo_6 : ∀ k, k < 17 → parseFieldDescriptor (et_6 k).2.2.1 = some (ey_6 k) := by decide +kernel
theorem ei_6 : ∀ w ∈ u_ws er_6 et_6 17, w ∈ lw_tbl := fun w hw => by
  have h : (u_ws er_6 et_6 17).all (fun w => decide (w ∈ lw_tbl)) = true := by decide +kernel
  exact of_decide_eq_true (List.all_eq_true.mp h w hw)
def er_7 : String := "Plateroomprinter$Path"
def et_7 : u_T := fun k => match k with
  | 0 => ("Plateroomprinter$Path", "xs", "[I", true)
  | 1 => ("Plateroomprinter$Path", "ys", "[I", true)
  | 2 => ("Plateroomprinter$Path", "ends", "[I", true)
  | 3 => ("Plateroomprinter$Path", "closed", "[I", true)
  | 4 => ("Plateroomprinter$Path", "rings", "I", false)
  | _ => ("Plateroomprinter$Path", "points", "I", false)
def ey_7 : Nat → FieldType := fun k => match k with
  | 0 => (.array .int)
  | 1 => (.array .int)
  | 2 => (.array .int)
  | 3 => (.array .int)
  | 4 => .int
  | _ => .int
theorem en_7 : ∀ a, a < 6 → ∀ b, b < 6 → a ≠ b → (et_7 a).2.1 ≠ (et_7 b).2.1 := by decide +kernel
theorem eo_7 : ∀ k, k < 6 → parseFieldDescriptor (et_7 k).2.2.1 = some (ey_7 k) := by decide +kernel
theorem ei_7 : ∀ w ∈ u_ws er_7 et_7 6, w ∈ lw_tbl := fun w hw => by
  have h : (u_ws er_7 et_7 6).all (fun w => decide (w ∈ lw_tbl)) = true := by decide +kernel
  exact of_decide_eq_true (List.all_eq_true.mp h w hw)
def er_8 : String := "Plateroomprinter$Raster"
def et_8 : u_T := fun k => match k with
  | 0 => ("Plateroomprinter$Raster", "marks", "[I", true)
  | 1 => ("Plateroomprinter$Raster", "top", "I", false)
  | _ => ("Plateroomprinter$Raster", "bottom", "I", false)
def ey_8 : Nat → FieldType := fun k => match k with
  | 0 => (.array .int)
  | 1 => .int
  | _ => .int
theorem en_8 : ∀ a, a < 3 → ∀ b, b < 3 → a ≠ b → (et_8 a).2.1 ≠ (et_8 b).2.1 := by decide +kernel
theorem eo_8 : ∀ k, k < 3 → parseFieldDescriptor (et_8 k).2.2.1 = some (ey_8 k) := by decide +kernel
theorem ei_8 : ∀ w ∈ u_ws er_8 et_8 3, w ∈ lw_tbl := fun w hw => by
  have h : (u_ws er_8 et_8 3).all (fun w => decide (w ∈ lw_tbl)) = true := by decide +kernel
  exact of_decide_eq_true (List.all_eq_true.mp h w hw)
def er_9 : String := "Plateroomprinter$Sheet"
def et_9 : u_T := fun k => match k with
  | _ => ("Plateroomprinter$Sheet", "rows", "[I", true)
def ey_9 : Nat → FieldType := fun k => match k with
  | _ => (.array .int)
theorem en_9 : ∀ a, a < 1 → ∀ b, b < 1 → a ≠ b → (et_9 a).2.1 ≠ (et_9 b).2.1 := by decide +kernel
theorem eo_9 : ∀ k, k < 1 → parseFieldDescriptor (et_9 k).2.2.1 = some (ey_9 k) := by decide +kernel
theorem ei_9 : ∀ w ∈ u_ws er_9 et_9 1, w ∈ lw_tbl := fun w hw => by
  have h : (u_ws er_9 et_9 1).all (fun w => decide (w ∈ lw_tbl)) = true := by decide +kernel
  exact of_decide_eq_true (List.all_eq_true.mp h w hw)
def er_10 : String := "Plateroomprinter$State"
def et_10 : u_T := fun k => match k with
  | 0 => ("Plateroomprinter$State", "matrix", "LPlateroomprinter$Matrix;", true)
  | 1 => ("Plateroomprinter$State", "path", "LPlateroomprinter$Path;", true)
  | 2 => ("Plateroomprinter$State", "clip", "[I", true)
  | 3 => ("Plateroomprinter$State", "amounts", "[I", true)
  | 4 => ("Plateroomprinter$State", "pointed", "Z", false)
  | 5 => ("Plateroomprinter$State", "x", "I", false)
  | 6 => ("Plateroomprinter$State", "y", "I", false)
  | 7 => ("Plateroomprinter$State", "pen", "I", false)
  | 8 => ("Plateroomprinter$State", "cap", "I", false)
  | 9 => ("Plateroomprinter$State", "join", "I", false)
  | _ => ("Plateroomprinter$State", "size", "I", false)
def ey_10 : Nat → FieldType := fun k => match k with
  | 0 => (.object "Plateroomprinter$Matrix")
  | 1 => (.object "Plateroomprinter$Path")
  | 2 => (.array .int)
  | 3 => (.array .int)
  | 4 => .boolean
  | 5 => .int
  | 6 => .int
  | 7 => .int
  | 8 => .int
  | 9 => .int
  | _ => .int
theorem en_10 : ∀ a, a < 11 → ∀ b, b < 11 → a ≠ b → (et_10 a).2.1 ≠ (et_10 b).2.1 := by decide +kernel
theorem eo_10 : ∀ k, k < 11 → parseFieldDescriptor (et_10 k).2.2.1 = some (ey_10 k) := by decide +kernel
theorem ei_10 : ∀ w ∈ u_ws er_10 et_10 11, w ∈ lw_tbl := fun w hw => by
  have h : (u_ws er_10 et_10 11).all (fun w => decide (w ∈ lw_tbl)) = true := by decide +kernel
  exact of_decide_eq_true (List.all_eq_true.mp h w hw)
def er_11 : String := "Plateroomprinter$World"
def et_11 : u_T := fun k => match k with
  | 0 => ("Plateroomprinter$World", "pile", "LPlateroomprinter$Items;", true)
  | 1 => ("Plateroomprinter$World", "names", "LPlateroomprinter$Items;", true)
  | 2 => ("Plateroomprinter$World", "now", "LPlateroomprinter$State;", true)
  | 3 => ("Plateroomprinter$World", "kept", "[LPlateroomprinter$State;", true)
  | 4 => ("Plateroomprinter$World", "keptStates", "I", false)
  | 5 => ("Plateroomprinter$World", "forms", "[LPlateroomprinter$Path;", true)
  | 6 => ("Plateroomprinter$World", "formKept", "[I", true)
  | 7 => ("Plateroomprinter$World", "sheet", "LPlateroomprinter$Sheet;", true)
  | 8 => ("Plateroomprinter$World", "lastSheet", "LPlateroomprinter$Sheet;", true)
  | 9 => ("Plateroomprinter$World", "list", "LPlateroomprinter$Figures;", true)
  | 10 => ("Plateroomprinter$World", "printed", "I", false)
  | 11 => ("Plateroomprinter$World", "ordersDone", "[I", true)
  | 12 => ("Plateroomprinter$World", "costOfAll", "I", false)
  | 13 => ("Plateroomprinter$World", "costOfLast", "I", false)
  | _ => ("Plateroomprinter$World", "tokensDone", "I", false)
def ey_11 : Nat → FieldType := fun k => match k with
  | 0 => (.object "Plateroomprinter$Items")
  | 1 => (.object "Plateroomprinter$Items")
  | 2 => (.object "Plateroomprinter$State")
  | 3 => (.array (.object "Plateroomprinter$State"))
  | 4 => .int
  | 5 => (.array (.object "Plateroomprinter$Path"))
  | 6 => (.array .int)
  | 7 => (.object "Plateroomprinter$Sheet")
  | 8 => (.object "Plateroomprinter$Sheet")
  | 9 => (.object "Plateroomprinter$Figures")
  | 10 => .int
  | 11 => (.array .int)
  | 12 => .int
  | 13 => .int
  | _ => .int
theorem en_11 : ∀ a, a < 15 → ∀ b, b < 15 → a ≠ b → (et_11 a).2.1 ≠ (et_11 b).2.1 := by decide +kernel
theorem eo_11 : ∀ k, k < 15 → parseFieldDescriptor (et_11 k).2.2.1 = some (ey_11 k) := by decide +kernel
theorem ei_11 : ∀ w ∈ u_ws er_11 et_11 15, w ∈ lw_tbl := fun w hw => by
  have h : (u_ws er_11 et_11 15).all (fun w => decide (w ∈ lw_tbl)) = true := by decide +kernel
  exact of_decide_eq_true (List.all_eq_true.mp h w hw)
def er_12 : String := "PlateroomprinterModel"
def et_12 : u_T := fun k => match k with
  | 0 => ("PlateroomprinterModel", "thrown", "I", false)
  | 1 => ("PlateroomprinterModel", "machine", "LPlateroomprinterModel$Machine;", false)
  | 2 => ("PlateroomprinterModel", "program", "Ljava/util/ArrayList;", false)
  | 3 => ("PlateroomprinterModel", "fault", "[I", true)
  | _ => ("PlateroomprinterModel", "refused", "I", false)
def ey_12 : Nat → FieldType := fun k => match k with
  | 0 => .int
  | 1 => (.object "PlateroomprinterModel$Machine")
  | 2 => (.object "java/util/ArrayList")
  | 3 => (.array .int)
  | _ => .int
theorem en_12 : ∀ a, a < 5 → ∀ b, b < 5 → a ≠ b → (et_12 a).2.1 ≠ (et_12 b).2.1 := by decide +kernel
theorem eo_12 : ∀ k, k < 5 → parseFieldDescriptor (et_12 k).2.2.1 = some (ey_12 k) := by decide +kernel
theorem ei_12 : ∀ w ∈ u_ws er_12 et_12 5, w ∈ lw_tbl := fun w hw => by
  have h : (u_ws er_12 et_12 5).all (fun w => decide (w ∈ lw_tbl)) = true := by decide +kernel
  exact of_decide_eq_true (List.all_eq_true.mp h w hw)
def er_13 : String := "PlateroomprinterModel$Machine"
def et_13 : u_T := fun k => match k with
  | 0 => ("PlateroomprinterModel$Machine", "pile", "Ljava/util/ArrayList;", false)
  | 1 => ("PlateroomprinterModel$Machine", "names", "[LPlateroomprinterModel$Item;", false)
  | 2 => ("PlateroomprinterModel$Machine", "state", "LPlateroomprinterModel$State;", false)
  | 3 => ("PlateroomprinterModel$Machine", "kept", "Ljava/util/ArrayList;", false)
  | 4 => ("PlateroomprinterModel$Machine", "forms", "Ljava/util/ArrayList;", false)
  | 5 => ("PlateroomprinterModel$Machine", "figures", "Ljava/util/ArrayList;", false)
  | 6 => ("PlateroomprinterModel$Machine", "plates", "[Z", false)
  | 7 => ("PlateroomprinterModel$Machine", "lastPage", "[Z", false)
  | 8 => ("PlateroomprinterModel$Machine", "printed", "I", false)
  | 9 => ("PlateroomprinterModel$Machine", "cost", "I", false)
  | 10 => ("PlateroomprinterModel$Machine", "lastCost", "I", false)
  | 11 => ("PlateroomprinterModel$Machine", "tokens", "I", false)
  | _ => ("PlateroomprinterModel$Machine", "done", "[I", false)
def ey_13 : Nat → FieldType := fun k => match k with
  | 0 => (.object "java/util/ArrayList")
  | 1 => (.array (.object "PlateroomprinterModel$Item"))
  | 2 => (.object "PlateroomprinterModel$State")
  | 3 => (.object "java/util/ArrayList")
  | 4 => (.object "java/util/ArrayList")
  | 5 => (.object "java/util/ArrayList")
  | 6 => (.array .boolean)
  | 7 => (.array .boolean)
  | 8 => .int
  | 9 => .int
  | 10 => .int
  | 11 => .int
  | _ => (.array .int)
theorem en_13 : ∀ a, a < 13 → ∀ b, b < 13 → a ≠ b → (et_13 a).2.1 ≠ (et_13 b).2.1 := by decide +kernel
theorem eo_13 : ∀ k, k < 13 → parseFieldDescriptor (et_13 k).2.2.1 = some (ey_13 k) := by decide +kernel
theorem ei_13 : ∀ w ∈ u_ws er_13 et_13 13, w ∈ lw_tbl := fun w hw => by
  have h : (u_ws er_13 et_13 13).all (fun w => decide (w ∈ lw_tbl)) = true := by decide +kernel
  exact of_decide_eq_true (List.all_eq_true.mp h w hw)
def er_14 : String := "PlateroomprinterModel$Ring"
def et_14 : u_T := fun k => match k with
  | 0 => ("PlateroomprinterModel$Ring", "points", "Ljava/util/ArrayList;", true)
  | _ => ("PlateroomprinterModel$Ring", "isClosed", "Z", false)
def ey_14 : Nat → FieldType := fun k => match k with
  | 0 => (.object "java/util/ArrayList")
  | _ => .boolean
theorem en_14 : ∀ a, a < 2 → ∀ b, b < 2 → a ≠ b → (et_14 a).2.1 ≠ (et_14 b).2.1 := by decide +kernel
theorem eo_14 : ∀ k, k < 2 → parseFieldDescriptor (et_14 k).2.2.1 = some (ey_14 k) := by decide +kernel
theorem ei_14 : ∀ w ∈ u_ws er_14 et_14 2, w ∈ lw_tbl := fun w hw => by
  have h : (u_ws er_14 et_14 2).all (fun w => decide (w ∈ lw_tbl)) = true := by decide +kernel
  exact of_decide_eq_true (List.all_eq_true.mp h w hw)
def er_15 : String := "PlateroomprinterModel$Row"
def et_15 : u_T := fun k => match k with
  | 0 => ("PlateroomprinterModel$Row", "tokens", "Ljava/util/ArrayList;", true)
  | 1 => ("PlateroomprinterModel$Row", "at", "I", false)
  | 2 => ("PlateroomprinterModel$Row", "isLoop", "Z", false)
  | 3 => ("PlateroomprinterModel$Row", "left", "I", false)
  | 4 => ("PlateroomprinterModel$Row", "isCounting", "Z", false)
  | 5 => ("PlateroomprinterModel$Row", "number", "J", false)
  | 6 => ("PlateroomprinterModel$Row", "step", "J", false)
  | _ => ("PlateroomprinterModel$Row", "to", "J", false)
def ey_15 : Nat → FieldType := fun k => match k with
  | 0 => (.object "java/util/ArrayList")
  | 1 => .int
  | 2 => .boolean
  | 3 => .int
  | 4 => .boolean
  | 5 => .long
  | 6 => .long
  | _ => .long
theorem en_15 : ∀ a, a < 8 → ∀ b, b < 8 → a ≠ b → (et_15 a).2.1 ≠ (et_15 b).2.1 := by decide +kernel
theorem eo_15 : ∀ k, k < 8 → parseFieldDescriptor (et_15 k).2.2.1 = some (ey_15 k) := by decide +kernel
theorem ei_15 : ∀ w ∈ u_ws er_15 et_15 8, w ∈ lw_tbl := fun w hw => by
  have h : (u_ws er_15 et_15 8).all (fun w => decide (w ∈ lw_tbl)) = true := by decide +kernel
  exact of_decide_eq_true (List.all_eq_true.mp h w hw)
def er_16 : String := "PlateroomprinterModel$Run"
def et_16 : u_T := fun k => match k with
  | 0 => ("PlateroomprinterModel$Run", "m", "LPlateroomprinterModel$Machine;", true)
  | 1 => ("PlateroomprinterModel$Run", "rows", "Ljava/util/ArrayList;", true)
  | 2 => ("PlateroomprinterModel$Run", "cost", "I", false)
  | 3 => ("PlateroomprinterModel$Run", "program", "I", false)
  | _ => ("PlateroomprinterModel$Run", "own", "I", false)
def ey_16 : Nat → FieldType := fun k => match k with
  | 0 => (.object "PlateroomprinterModel$Machine")
  | 1 => (.object "java/util/ArrayList")
  | 2 => .int
  | 3 => .int
  | _ => .int
theorem en_16 : ∀ a, a < 5 → ∀ b, b < 5 → a ≠ b → (et_16 a).2.1 ≠ (et_16 b).2.1 := by decide +kernel
theorem eo_16 : ∀ k, k < 5 → parseFieldDescriptor (et_16 k).2.2.1 = some (ey_16 k) := by decide +kernel
theorem ei_16 : ∀ w ∈ u_ws er_16 et_16 5, w ∈ lw_tbl := fun w hw => by
  have h : (u_ws er_16 et_16 5).all (fun w => decide (w ∈ lw_tbl)) = true := by decide +kernel
  exact of_decide_eq_true (List.all_eq_true.mp h w hw)
def er_17 : String := "PlateroomprinterModel$State"
def et_17 : u_T := fun k => match k with
  | 0 => ("PlateroomprinterModel$State", "matrix", "[J", false)
  | 1 => ("PlateroomprinterModel$State", "path", "Ljava/util/ArrayList;", false)
  | 2 => ("PlateroomprinterModel$State", "point", "[I", false)
  | 3 => ("PlateroomprinterModel$State", "clip", "[Z", false)
  | 4 => ("PlateroomprinterModel$State", "amounts", "[I", false)
  | _ => ("PlateroomprinterModel$State", "ways", "[I", false)
def ey_17 : Nat → FieldType := fun k => match k with
  | 0 => (.array .long)
  | 1 => (.object "java/util/ArrayList")
  | 2 => (.array .int)
  | 3 => (.array .boolean)
  | 4 => (.array .int)
  | _ => (.array .int)
theorem en_17 : ∀ a, a < 6 → ∀ b, b < 6 → a ≠ b → (et_17 a).2.1 ≠ (et_17 b).2.1 := by decide +kernel
theorem eo_17 : ∀ k, k < 6 → parseFieldDescriptor (et_17 k).2.2.1 = some (ey_17 k) := by decide +kernel
theorem ei_17 : ∀ w ∈ u_ws er_17 et_17 6, w ∈ lw_tbl := fun w hw => by
  have h : (u_ws er_17 et_17 6).all (fun w => decide (w ∈ lw_tbl)) = true := by decide +kernel
  exact of_decide_eq_true (List.all_eq_true.mp h w hw)
def er_18 : String := "java/lang/Integer"
def et_18 : u_T := fun k => match k with
  | _ => ("java/lang/Integer", "value", "I", true)
def ey_18 : Nat → FieldType := fun k => match k with
  | _ => .int
theorem en_18 : ∀ a, a < 1 → ∀ b, b < 1 → a ≠ b → (et_18 a).2.1 ≠ (et_18 b).2.1 := by decide +kernel
theorem eo_18 : ∀ k, k < 1 → parseFieldDescriptor (et_18 k).2.2.1 = some (ey_18 k) := by decide +kernel
theorem ei_18 : ∀ w ∈ u_ws er_18 et_18 1, w ∈ lw_tbl := fun w hw => by
  have h : (u_ws er_18 et_18 1).all (fun w => decide (w ∈ lw_tbl)) = true := by decide +kernel
  exact of_decide_eq_true (List.all_eq_true.mp h w hw)
def er_19 : String := "java/util/ArrayList"
def et_19 : u_T := fun k => match k with
  | 0 => ("java/util/ArrayList", "elementData", "[Ljava/lang/Object;", false)
  | 1 => ("java/util/ArrayList", "size", "I", false)
  | _ => ("java/util/AbstractList", "modCount", "I", false)
def ey_19 : Nat → FieldType := fun k => match k with
  | 0 => (.array (.object "java/lang/Object"))
  | 1 => .int
  | _ => .int
theorem en_19 : ∀ a, a < 3 → ∀ b, b < 3 → a ≠ b → (et_19 a).2.1 ≠ (et_19 b).2.1 := by decide +kernel
theorem eo_19 : ∀ k, k < 3 → parseFieldDescriptor (et_19 k).2.2.1 = some (ey_19 k) := by decide +kernel
theorem ei_19 : ∀ w ∈ u_ws er_19 et_19 3, w ∈ lw_tbl := fun w hw => by
  have h : (u_ws er_19 et_19 3).all (fun w => decide (w ∈ lw_tbl)) = true := by decide +kernel
  exact of_decide_eq_true (List.all_eq_true.mp h w hw)
def er_20 : String := "java/util/ArrayList$Itr"
def et_20 : u_T := fun k => match k with
  | 0 => ("java/util/ArrayList$Itr", "cursor", "I", false)
  | 1 => ("java/util/ArrayList$Itr", "lastRet", "I", false)
  | 2 => ("java/util/ArrayList$Itr", "expectedModCount", "I", false)
  | _ => ("java/util/ArrayList$Itr", "this$0", "Ljava/util/ArrayList;", true)
def ey_20 : Nat → FieldType := fun k => match k with
  | 0 => .int
  | 1 => .int
  | 2 => .int
  | _ => (.object "java/util/ArrayList")
theorem en_20 : ∀ a, a < 4 → ∀ b, b < 4 → a ≠ b → (et_20 a).2.1 ≠ (et_20 b).2.1 := by decide +kernel
theorem eo_20 : ∀ k, k < 4 → parseFieldDescriptor (et_20 k).2.2.1 = some (ey_20 k) := by decide +kernel
theorem ei_20 : ∀ w ∈ u_ws er_20 et_20 4, w ∈ lw_tbl := fun w hw => by
  have h : (u_ws er_20 et_20 4).all (fun w => decide (w ∈ lw_tbl)) = true := by decide +kernel
  exact of_decide_eq_true (List.all_eq_true.mp h w hw)
def e_cl : List vw_C := [(er_0, et_0, 17), (er_1, et_1, 4), (er_2, et_2, 19), (er_3, et_3, 5), (er_4, et_4, 5), (er_5, et_5, 5), (er_6, et_6, 17), (er_7, et_7, 6), (er_8, et_8, 3), (er_9, et_9, 1), (er_10, et_10, 11), (er_11, et_11, 15), (er_12, et_12, 5), (er_13, et_13, 13), (er_14, et_14, 2), (er_15, et_15, 8), (er_16, et_16, 5), (er_17, et_17, 6), (er_18, et_18, 1), (er_19, et_19, 3), (er_20, et_20, 4)]
def e_kt : List FieldType := [.int, .boolean, .long, .object "java/lang/Object", .object "Plateroomprinter$Path", .object "Plateroomprinter$State", .object "PlateroomprinterModel$Item", .array .int]
def e_ml : List (MethodName × ByteArray × Nat × Option FieldType) := [
  (⟨"Plateroomprinter", "<init>", "()V"⟩, prog_1_method_1_code, 1, none),
  (⟨"Plateroomprinter", "agreesInBands", "(I)Z"⟩, prog_1_method_51_code, 5, (some .boolean)),
  (⟨"Plateroomprinter", "bands", "(I)Z"⟩, prog_1_method_44_code, 2, (some .boolean)),
  (⟨"Plateroomprinter", "bitsOf", "([II)I"⟩, prog_1_method_37_code, 4, (some .int)),
  (⟨"Plateroomprinter", "clearRows", "([I)V"⟩, prog_1_method_35_code, 2, none),
  (⟨"Plateroomprinter", "cost", "(I)I"⟩, prog_1_method_17_code, 2, (some .int)),
  (⟨"Plateroomprinter", "count", "(I)I"⟩, prog_1_method_43_code, 2, (some .int)),
  (⟨"Plateroomprinter", "digest", "()J"⟩, prog_1_method_50_code, 3, (some .long)),
  (⟨"Plateroomprinter", "digestOfPage", "(J)J"⟩, prog_1_method_62_code, 7, (some .long)),
  (⟨"Plateroomprinter", "digestOfPath", "(J)J"⟩, prog_1_method_61_code, 8, (some .long)),
  (⟨"Plateroomprinter", "digestOfProgram", "(J)J"⟩, prog_1_method_59_code, 6, (some .long)),
  (⟨"Plateroomprinter", "digestOfState", "(J)J"⟩, prog_1_method_60_code, 6, (some .long)),
  (⟨"Plateroomprinter", "done", "(I)I"⟩, prog_1_method_18_code, 2, (some .int)),
  (⟨"Plateroomprinter", "dot", "(II)I"⟩, prog_1_method_41_code, 3, (some .int)),
  (⟨"Plateroomprinter", "dots", "(I)I"⟩, prog_1_method_25_code, 2, (some .int)),
  (⟨"Plateroomprinter", "drop", "()I"⟩, prog_1_method_4_code, 2, (some .int)),
  (⟨"Plateroomprinter", "fault", "(I)I"⟩, prog_1_method_13_code, 2, (some .int)),
  (⟨"Plateroomprinter", "figure", "(II)I"⟩, prog_1_method_39_code, 3, (some .int)),
  (⟨"Plateroomprinter", "figures", "()I"⟩, prog_1_method_38_code, 1, (some .int)),
  (⟨"Plateroomprinter", "fillPath", "(III[I)V"⟩, prog_1_method_32_code, 5, none),
  (⟨"Plateroomprinter", "form", "(II)I"⟩, prog_1_method_23_code, 3, (some .int)),
  (⟨"Plateroomprinter", "fresh", "()I"⟩, prog_1_method_7_code, 2, (some .int)),
  (⟨"Plateroomprinter", "halves", "(IIII)I"⟩, prog_1_method_28_code, 7, (some .int)),
  (⟨"Plateroomprinter", "halvesAgree", "()Z"⟩, prog_1_method_53_code, 4, (some .boolean)),
  (⟨"Plateroomprinter", "has", "(III)Z"⟩, prog_1_method_24_code, 4, (some .boolean)),
  (⟨"Plateroomprinter", "inverse", "()I"⟩, prog_1_method_27_code, 1, (some .int)),
  (⟨"Plateroomprinter", "isOnPage", "(II)Z"⟩, prog_1_method_33_code, 2, (some .boolean)),
  (⟨"Plateroomprinter", "isRule", "(I)Z"⟩, prog_1_method_34_code, 1, (some .boolean)),
  (⟨"Plateroomprinter", "isSet", "([III)Z"⟩, prog_1_method_36_code, 3, (some .boolean)),
  (⟨"Plateroomprinter", "isSound", "()Z"⟩, prog_1_method_49_code, 2, (some .boolean)),
  (⟨"Plateroomprinter", "isToken", "(II)Z"⟩, prog_1_method_10_code, 2, (some .boolean)),
  (⟨"Plateroomprinter", "item", "(II)I"⟩, prog_1_method_15_code, 4, (some .int)),
  (⟨"Plateroomprinter", "items", "()I"⟩, prog_1_method_14_code, 1, (some .int)),
  (⟨"Plateroomprinter", "knock", "()I"⟩, prog_1_method_8_code, 1, (some .int)),
  (⟨"Plateroomprinter", "last", "(II)I"⟩, prog_1_method_40_code, 4, (some .int)),
  (⟨"Plateroomprinter", "lastDot", "(II)I"⟩, prog_1_method_48_code, 3, (some .int)),
  (⟨"Plateroomprinter", "lastTells", "(I)Z"⟩, prog_1_method_54_code, 8, (some .boolean)),
  (⟨"Plateroomprinter", "matrix", "(II)I"⟩, prog_1_method_20_code, 3, (some .int)),
  (⟨"Plateroomprinter", "moved", "(III)I"⟩, prog_1_method_26_code, 4, (some .int)),
  (⟨"Plateroomprinter", "movesAlong", "(II)Z"⟩, prog_1_method_52_code, 5, (some .boolean)),
  (⟨"Plateroomprinter", "name", "(II)I"⟩, prog_1_method_16_code, 3, (some .int)),
  (⟨"Plateroomprinter", "pack", "(I)I"⟩, prog_1_method_57_code, 8, (some .int)),
  (⟨"Plateroomprinter", "packsAgree", "()Z"⟩, prog_1_method_55_code, 5, (some .boolean)),
  (⟨"Plateroomprinter", "page", "(I)I"⟩, prog_1_method_47_code, 2, (some .int)),
  (⟨"Plateroomprinter", "point", "(III)I"⟩, prog_1_method_22_code, 6, (some .int)),
  (⟨"Plateroomprinter", "ring", "(II)I"⟩, prog_1_method_21_code, 4, (some .int)),
  (⟨"Plateroomprinter", "row", "(II)I"⟩, prog_1_method_42_code, 3, (some .int)),
  (⟨"Plateroomprinter", "run", "()I"⟩, prog_1_method_6_code, 3, (some .int)),
  (⟨"Plateroomprinter", "runAt", "(II)I"⟩, prog_1_method_46_code, 4, (some .int)),
  (⟨"Plateroomprinter", "runs", "(I)I"⟩, prog_1_method_45_code, 2, (some .int)),
  (⟨"Plateroomprinter", "setFault", "(III)V"⟩, prog_1_method_9_code, 4, none),
  (⟨"Plateroomprinter", "state", "(I)I"⟩, prog_1_method_19_code, 3, (some .int)),
  (⟨"Plateroomprinter", "tell", "(II)I"⟩, prog_1_method_58_code, 6, (some .int)),
  (⟨"Plateroomprinter", "three", "(IIIIII)I"⟩, prog_1_method_3_code, 7, (some .int)),
  (⟨"Plateroomprinter", "token", "(II)I"⟩, prog_1_method_2_code, 3, (some .int)),
  (⟨"Plateroomprinter", "tokenAt", "(II)I"⟩, prog_1_method_12_code, 3, (some .int)),
  (⟨"Plateroomprinter", "tokens", "()I"⟩, prog_1_method_11_code, 1, (some .int)),
  (⟨"Plateroomprinter", "unpack", "(I[I)Z"⟩, prog_1_method_56_code, 7, (some .boolean)),
  (⟨"Plateroomprinter", "wipe", "()I"⟩, prog_1_method_5_code, 2, (some .int)),
  (⟨"Plateroomprinter$Code", "<init>", "()V"⟩, prog_2_method_1_code, 1, none),
  (⟨"Plateroomprinter$Code", "append", "(II)V"⟩, prog_2_method_2_code, 4, none),
  (⟨"Plateroomprinter$Code", "retire", "()V"⟩, prog_2_method_6_code, 1, none),
  (⟨"Plateroomprinter$Engine", "<init>", "(LPlateroomprinter$World;LPlateroomprinter$Code;)V"⟩, prog_3_method_1_code, 3, none),
  (⟨"Plateroomprinter$Engine", "begin", "()V"⟩, prog_3_method_2_code, 1, none),
  (⟨"Plateroomprinter$Engine", "enter", "(II)I"⟩, prog_3_method_11_code, 3, (some .int)),
  (⟨"Plateroomprinter$Engine", "hasNextRound", "(I)Z"⟩, prog_3_method_6_code, 3, (some .boolean)),
  (⟨"Plateroomprinter$Engine", "seek", "()I"⟩, prog_3_method_4_code, 4, (some .int)),
  (⟨"Plateroomprinter$Engine", "tally", "()V"⟩, prog_3_method_3_code, 1, none),
  (⟨"Plateroomprinter$Figures", "<init>", "()V"⟩, prog_4_method_1_code, 1, none),
  (⟨"Plateroomprinter$Figures", "copyFrom", "(LPlateroomprinter$Figures;)V"⟩, prog_4_method_2_code, 4, none),
  (⟨"Plateroomprinter$Items", "<init>", "(I)V"⟩, prog_5_method_1_code, 2, none),
  (⟨"Plateroomprinter$Items", "clear", "(I)V"⟩, prog_5_method_2_code, 3, none),
  (⟨"Plateroomprinter$Items", "copyFrom", "(LPlateroomprinter$Items;)V"⟩, prog_5_method_3_code, 4, none),
  (⟨"Plateroomprinter$Items", "sortAt", "(I)I"⟩, prog_5_method_5_code, 2, (some .int)),
  (⟨"Plateroomprinter$Items", "toldAt", "(I)I"⟩, prog_5_method_8_code, 2, (some .int)),
  (⟨"Plateroomprinter$Items", "valueAt", "(I)I"⟩, prog_5_method_6_code, 2, (some .int)),
  (⟨"Plateroomprinter$Items", "write", "(IIII)V"⟩, prog_5_method_4_code, 5, none),
  (⟨"Plateroomprinter$Matrix", "<init>", "()V"⟩, prog_6_method_1_code, 1, none),
  (⟨"Plateroomprinter$Matrix", "clear", "()V"⟩, prog_6_method_2_code, 2, none),
  (⟨"Plateroomprinter$Matrix", "copyFrom", "(LPlateroomprinter$Matrix;)V"⟩, prog_6_method_3_code, 3, none),
  (⟨"Plateroomprinter$Painter", "<init>", "(LPlateroomprinter$World;LPlateroomprinter$Raster;)V"⟩, prog_7_method_1_code, 3, none),
  (⟨"Plateroomprinter$Painter", "takePainted", "()I"⟩, prog_7_method_2_code, 2, (some .int)),
  (⟨"Plateroomprinter$Path", "<init>", "()V"⟩, prog_8_method_1_code, 1, none),
  (⟨"Plateroomprinter$Path", "clear", "()V"⟩, prog_8_method_2_code, 1, none),
  (⟨"Plateroomprinter$Path", "copyFrom", "(LPlateroomprinter$Path;)V"⟩, prog_8_method_3_code, 2, none),
  (⟨"Plateroomprinter$Raster", "<init>", "()V"⟩, prog_9_method_1_code, 1, none),
  (⟨"Plateroomprinter$Raster", "addEdge", "(IIIII)V"⟩, prog_9_method_3_code, 17, none),
  (⟨"Plateroomprinter$Raster", "addPath", "(LPlateroomprinter$Path;II)V"⟩, prog_9_method_4_code, 6, none),
  (⟨"Plateroomprinter$Raster", "addRing", "([I[IIIII)V"⟩, prog_9_method_2_code, 12, none),
  (⟨"Plateroomprinter$Raster", "settle", "(I[I)V"⟩, prog_9_method_5_code, 7, none),
  (⟨"Plateroomprinter$Sheet", "<init>", "()V"⟩, prog_10_method_1_code, 1, none),
  (⟨"Plateroomprinter$Sheet", "agreesWith", "(LPlateroomprinter$Sheet;)Z"⟩, prog_10_method_4_code, 3, (some .boolean)),
  (⟨"Plateroomprinter$Sheet", "clear", "()V"⟩, prog_10_method_2_code, 1, none),
  (⟨"Plateroomprinter$Sheet", "colourOf", "(II)I"⟩, prog_10_method_7_code, 5, (some .int)),
  (⟨"Plateroomprinter$Sheet", "coloured", "()I"⟩, prog_10_method_8_code, 3, (some .int)),
  (⟨"Plateroomprinter$Sheet", "copyFrom", "(LPlateroomprinter$Sheet;)V"⟩, prog_10_method_3_code, 3, none),
  (⟨"Plateroomprinter$State", "<init>", "()V"⟩, prog_11_method_1_code, 1, none),
  (⟨"Plateroomprinter$State", "clear", "()V"⟩, prog_11_method_2_code, 2, none),
  (⟨"Plateroomprinter$State", "copyFrom", "(LPlateroomprinter$State;)V"⟩, prog_11_method_3_code, 3, none),
  (⟨"Plateroomprinter$State", "forgetPath", "()V"⟩, prog_11_method_5_code, 1, none),
  (⟨"Plateroomprinter$State", "openClip", "()V"⟩, prog_11_method_4_code, 2, none),
  (⟨"Plateroomprinter$World", "<init>", "()V"⟩, prog_12_method_1_code, 2, none),
  (⟨"Plateroomprinter$World", "clear", "()V"⟩, prog_12_method_2_code, 2, none),
  (⟨"Plateroomprinter$World", "copyFrom", "(LPlateroomprinter$World;)V"⟩, prog_12_method_3_code, 3, none),
  (⟨"PlateroomprinterLaw", "bands", "(LPlateroomprinter;I[J)I"⟩, method_26_code, 4, (some .int)),
  (⟨"PlateroomprinterLaw", "cost", "(LPlateroomprinter;I[J)I"⟩, method_10_code, 4, (some .int)),
  (⟨"PlateroomprinterLaw", "count", "(LPlateroomprinter;I[J)I"⟩, method_25_code, 4, (some .int)),
  (⟨"PlateroomprinterLaw", "done", "(LPlateroomprinter;I[J)I"⟩, method_11_code, 4, (some .int)),
  (⟨"PlateroomprinterLaw", "dot", "(LPlateroomprinter;II[J)I"⟩, method_23_code, 5, (some .int)),
  (⟨"PlateroomprinterLaw", "dots", "(LPlateroomprinter;I[J)I"⟩, method_18_code, 4, (some .int)),
  (⟨"PlateroomprinterLaw", "drop", "(LPlateroomprinter;[J)I"⟩, method_5_code, 3, (some .int)),
  (⟨"PlateroomprinterLaw", "fault", "(LPlateroomprinter;I[J)I"⟩, method_7_code, 4, (some .int)),
  (⟨"PlateroomprinterLaw", "figure", "(LPlateroomprinter;II[J)I"⟩, method_21_code, 5, (some .int)),
  (⟨"PlateroomprinterLaw", "form", "(LPlateroomprinter;II[J)I"⟩, method_16_code, 5, (some .int)),
  (⟨"PlateroomprinterLaw", "halves", "(LPlateroomprinter;IIII[J)I"⟩, method_20_code, 7, (some .int)),
  (⟨"PlateroomprinterLaw", "has", "(LPlateroomprinter;III[J)I"⟩, method_17_code, 6, (some .int)),
  (⟨"PlateroomprinterLaw", "item", "(LPlateroomprinter;II[J)I"⟩, method_8_code, 5, (some .int)),
  (⟨"PlateroomprinterLaw", "last", "(LPlateroomprinter;II[J)I"⟩, method_22_code, 5, (some .int)),
  (⟨"PlateroomprinterLaw", "lastDot", "(LPlateroomprinter;II[J)I"⟩, method_30_code, 5, (some .int)),
  (⟨"PlateroomprinterLaw", "matrix", "(LPlateroomprinter;II[J)I"⟩, method_13_code, 5, (some .int)),
  (⟨"PlateroomprinterLaw", "moved", "(LPlateroomprinter;III[J)I"⟩, method_19_code, 6, (some .int)),
  (⟨"PlateroomprinterLaw", "name", "(LPlateroomprinter;II[J)I"⟩, method_9_code, 5, (some .int)),
  (⟨"PlateroomprinterLaw", "page", "(LPlateroomprinter;I[J)I"⟩, method_29_code, 4, (some .int)),
  (⟨"PlateroomprinterLaw", "point", "(LPlateroomprinter;III[J)I"⟩, method_15_code, 6, (some .int)),
  (⟨"PlateroomprinterLaw", "ring", "(LPlateroomprinter;II[J)I"⟩, method_14_code, 5, (some .int)),
  (⟨"PlateroomprinterLaw", "row", "(LPlateroomprinter;II[J)I"⟩, method_24_code, 5, (some .int)),
  (⟨"PlateroomprinterLaw", "runAt", "(LPlateroomprinter;II[J)I"⟩, method_28_code, 5, (some .int)),
  (⟨"PlateroomprinterLaw", "runs", "(LPlateroomprinter;I[J)I"⟩, method_27_code, 4, (some .int)),
  (⟨"PlateroomprinterLaw", "state", "(LPlateroomprinter;I[J)I"⟩, method_12_code, 4, (some .int)),
  (⟨"PlateroomprinterLaw", "three", "(LPlateroomprinter;IIIIII[J)I"⟩, method_4_code, 9, (some .int)),
  (⟨"PlateroomprinterLaw", "token", "(LPlateroomprinter;II[J)I"⟩, method_3_code, 5, (some .int)),
  (⟨"PlateroomprinterLaw", "tokenAt", "(LPlateroomprinter;II[J)I"⟩, method_6_code, 5, (some .int)),
  (⟨"PlateroomprinterModel", "<init>", "()V"⟩, prog_14_method_1_code, 1, none),
  (⟨"PlateroomprinterModel", "add", "(JJ)J"⟩, prog_14_method_83_code, 4, (some .long)),
  (⟨"PlateroomprinterModel", "addState", "(J)J"⟩, prog_14_method_84_code, 8, (some .long)),
  (⟨"PlateroomprinterModel", "bands", "(I)Z"⟩, prog_14_method_75_code, 5, (some .boolean)),
  (⟨"PlateroomprinterModel", "colourOf", "([ZI)I"⟩, prog_14_method_68_code, 4, (some .int)),
  (⟨"PlateroomprinterModel", "copied", "(Ljava/util/ArrayList;II)Ljava/util/ArrayList;"⟩, prog_14_method_13_code, 5, (some (.object "java/util/ArrayList"))),
  (⟨"PlateroomprinterModel", "copied", "([I)[I"⟩, prog_14_method_20_code, 3, (some (.array .int))),
  (⟨"PlateroomprinterModel", "copied", "([Z)[Z"⟩, prog_14_method_19_code, 3, (some (.array .boolean))),
  (⟨"PlateroomprinterModel", "cost", "(I)I"⟩, prog_14_method_42_code, 2, (some .int)),
  (⟨"PlateroomprinterModel", "costNow", "(I)I"⟩, prog_14_method_41_code, 2, (some .int)),
  (⟨"PlateroomprinterModel", "count", "(I)I"⟩, prog_14_method_74_code, 2, (some .int)),
  (⟨"PlateroomprinterModel", "countOf", "([ZI)I"⟩, prog_14_method_73_code, 4, (some .int)),
  (⟨"PlateroomprinterModel", "digest", "()J"⟩, prog_14_method_85_code, 7, (some .long)),
  (⟨"PlateroomprinterModel", "done", "(I)I"⟩, prog_14_method_43_code, 2, (some .int)),
  (⟨"PlateroomprinterModel", "dot", "(II)I"⟩, prog_14_method_69_code, 3, (some .int)),
  (⟨"PlateroomprinterModel", "dots", "(I)I"⟩, prog_14_method_58_code, 2, (some .int)),
  (⟨"PlateroomprinterModel", "dotsOf", "(Ljava/util/ArrayList;I)[Z"⟩, prog_14_method_17_code, 4, (some (.array .boolean))),
  (⟨"PlateroomprinterModel", "drop", "()I"⟩, prog_14_method_28_code, 1, (some .int)),
  (⟨"PlateroomprinterModel", "failed", "(III)I"⟩, prog_14_method_30_code, 4, (some .int)),
  (⟨"PlateroomprinterModel", "fault", "(I)I"⟩, prog_14_method_36_code, 2, (some .int)),
  (⟨"PlateroomprinterModel", "figure", "(II)I"⟩, prog_14_method_66_code, 3, (some .int)),
  (⟨"PlateroomprinterModel", "figures", "()I"⟩, prog_14_method_64_code, 1, (some .int)),
  (⟨"PlateroomprinterModel", "form", "(II)I"⟩, prog_14_method_55_code, 3, (some .int)),
  (⟨"PlateroomprinterModel", "formNow", "(II)I"⟩, prog_14_method_54_code, 4, (some .int)),
  (⟨"PlateroomprinterModel", "fresh", "()I"⟩, prog_14_method_32_code, 2, (some .int)),
  (⟨"PlateroomprinterModel", "halves", "(IIII)I"⟩, prog_14_method_63_code, 11, (some .int)),
  (⟨"PlateroomprinterModel", "has", "(III)Z"⟩, prog_14_method_57_code, 4, (some .boolean)),
  (⟨"PlateroomprinterModel", "has", "(Ljava/util/ArrayList;III)Z"⟩, prog_14_method_16_code, 10, (some .boolean)),
  (⟨"PlateroomprinterModel", "inverse", "()I"⟩, prog_14_method_61_code, 1, (some .int)),
  (⟨"PlateroomprinterModel", "inverseNow", "()I"⟩, prog_14_method_60_code, 8, (some .int)),
  (⟨"PlateroomprinterModel", "isIn", "(JJJ)Z"⟩, prog_14_method_2_code, 6, (some .boolean)),
  (⟨"PlateroomprinterModel", "isNoDot", "(II)Z"⟩, prog_14_method_56_code, 2, (some .boolean)),
  (⟨"PlateroomprinterModel", "isNoPlate", "(I)Z"⟩, prog_14_method_71_code, 1, (some .boolean)),
  (⟨"PlateroomprinterModel", "isNoPoint", "(II)Z"⟩, prog_14_method_52_code, 3, (some .boolean)),
  (⟨"PlateroomprinterModel", "isNoRing", "(I)Z"⟩, prog_14_method_49_code, 2, (some .boolean)),
  (⟨"PlateroomprinterModel", "isNoToken", "(II)Z"⟩, prog_14_method_25_code, 2, (some .boolean)),
  (⟨"PlateroomprinterModel", "isSound", "()Z"⟩, prog_14_method_82_code, 1, (some .boolean)),
  (⟨"PlateroomprinterModel", "item", "(II)I"⟩, prog_14_method_38_code, 3, (some .int)),
  (⟨"PlateroomprinterModel", "items", "()I"⟩, prog_14_method_37_code, 1, (some .int)),
  (⟨"PlateroomprinterModel", "knock", "()I"⟩, prog_14_method_33_code, 1, (some .int)),
  (⟨"PlateroomprinterModel", "last", "(II)I"⟩, prog_14_method_67_code, 5, (some .int)),
  (⟨"PlateroomprinterModel", "lastDot", "(II)I"⟩, prog_14_method_81_code, 3, (some .int)),
  (⟨"PlateroomprinterModel", "many", "([Z)I"⟩, prog_14_method_18_code, 6, (some .int)),
  (⟨"PlateroomprinterModel", "matrix", "(II)I"⟩, prog_14_method_47_code, 3, (some .int)),
  (⟨"PlateroomprinterModel", "matrixNow", "(II)I"⟩, prog_14_method_46_code, 3, (some .int)),
  (⟨"PlateroomprinterModel", "moved", "(III)I"⟩, prog_14_method_59_code, 4, (some .int)),
  (⟨"PlateroomprinterModel", "name", "(II)I"⟩, prog_14_method_40_code, 3, (some .int)),
  (⟨"PlateroomprinterModel", "nameNow", "(II)I"⟩, prog_14_method_39_code, 3, (some .int)),
  (⟨"PlateroomprinterModel", "one", "(Z)I"⟩, prog_14_method_3_code, 1, (some .int)),
  (⟨"PlateroomprinterModel", "page", "(I)I"⟩, prog_14_method_80_code, 2, (some .int)),
  (⟨"PlateroomprinterModel", "pageNow", "(I)I"⟩, prog_14_method_79_code, 4, (some .int)),
  (⟨"PlateroomprinterModel", "passes", "([I[III)I"⟩, prog_14_method_15_code, 7, (some .int)),
  (⟨"PlateroomprinterModel", "path", "()Ljava/util/ArrayList;"⟩, prog_14_method_48_code, 1, (some (.object "java/util/ArrayList"))),
  (⟨"PlateroomprinterModel", "point", "(III)I"⟩, prog_14_method_53_code, 4, (some .int)),
  (⟨"PlateroomprinterModel", "points", "(Ljava/util/ArrayList;)I"⟩, prog_14_method_14_code, 3, (some .int)),
  (⟨"PlateroomprinterModel", "refuse", "(ZI)Z"⟩, prog_14_method_23_code, 3, (some .boolean)),
  (⟨"PlateroomprinterModel", "ring", "(II)I"⟩, prog_14_method_51_code, 3, (some .int)),
  (⟨"PlateroomprinterModel", "row", "(II)I"⟩, prog_14_method_72_code, 3, (some .int)),
  (⟨"PlateroomprinterModel", "rowNow", "(II)I"⟩, prog_14_method_70_code, 5, (some .int)),
  (⟨"PlateroomprinterModel", "run", "()I"⟩, prog_14_method_31_code, 4, (some .int)),
  (⟨"PlateroomprinterModel", "runAt", "(II)I"⟩, prog_14_method_78_code, 3, (some .int)),
  (⟨"PlateroomprinterModel", "runs", "(I)I"⟩, prog_14_method_77_code, 2, (some .int)),
  (⟨"PlateroomprinterModel", "runsOf", "(I)Ljava/util/ArrayList;"⟩, prog_14_method_76_code, 6, (some (.object "java/util/ArrayList"))),
  (⟨"PlateroomprinterModel", "start", "(ZI)Z"⟩, prog_14_method_24_code, 3, (some .boolean)),
  (⟨"PlateroomprinterModel", "state", "(I)I"⟩, prog_14_method_45_code, 2, (some .int)),
  (⟨"PlateroomprinterModel", "stateNow", "(I)I"⟩, prog_14_method_44_code, 3, (some .int)),
  (⟨"PlateroomprinterModel", "three", "(IIIIII)I"⟩, prog_14_method_27_code, 8, (some .int)),
  (⟨"PlateroomprinterModel", "thrown", "()I"⟩, prog_14_method_22_code, 1, (some .int)),
  (⟨"PlateroomprinterModel", "token", "(II)I"⟩, prog_14_method_26_code, 3, (some .int)),
  (⟨"PlateroomprinterModel", "tokenAt", "(II)I"⟩, prog_14_method_35_code, 3, (some .int)),
  (⟨"PlateroomprinterModel", "tokens", "()I"⟩, prog_14_method_34_code, 1, (some .int)),
  (⟨"PlateroomprinterModel", "wipe", "()I"⟩, prog_14_method_29_code, 2, (some .int)),
  (⟨"PlateroomprinterModel$Machine", "<init>", "()V"⟩, prog_17_method_1_code, 2, none),
  (⟨"PlateroomprinterModel$Machine", "copy", "()LPlateroomprinterModel$Machine;"⟩, prog_17_method_2_code, 3, (some (.object "PlateroomprinterModel$Machine"))),
  (⟨"PlateroomprinterModel$Ring", "<init>", "()V"⟩, prog_18_method_1_code, 1, none),
  (⟨"PlateroomprinterModel$Row", "<init>", "(Ljava/util/ArrayList;)V"⟩, prog_19_method_1_code, 2, none),
  (⟨"PlateroomprinterModel$Row", "isAtEnd", "()Z"⟩, prog_19_method_2_code, 1, (some .boolean)),
  (⟨"PlateroomprinterModel$Run", "<init>", "(LPlateroomprinterModel$Machine;Ljava/util/ArrayList;)V"⟩, prog_20_method_1_code, 3, none),
  (⟨"PlateroomprinterModel$Run", "all", "()V"⟩, prog_20_method_3_code, 2, none),
  (⟨"PlateroomprinterModel$Run", "isOn", "()Z"⟩, prog_20_method_4_code, 2, (some .boolean)),
  (⟨"PlateroomprinterModel$Run", "top", "()LPlateroomprinterModel$Row;"⟩, prog_20_method_2_code, 1, (some (.object "PlateroomprinterModel$Row"))),
  (⟨"PlateroomprinterModel$State", "<init>", "()V"⟩, prog_21_method_1_code, 2, none),
  (⟨"PlateroomprinterModel$State", "copy", "()LPlateroomprinterModel$State;"⟩, prog_21_method_2_code, 3, (some (.object "PlateroomprinterModel$State"))),
  (⟨"java/lang/Integer", "bitCount", "(I)I"⟩, prog_33_method_49_code, 1, (some .int)),
  (⟨"java/lang/Integer", "intValue", "()I"⟩, prog_33_method_27_code, 1, (some .int)),
  (⟨"java/lang/Integer", "valueOf", "(I)Ljava/lang/Integer;"⟩, prog_33_method_22_code, 1, (some (.object "java/lang/Integer"))),
  (⟨"java/lang/Math", "abs", "(I)I"⟩, prog_37_method_59_code, 1, (some .int)),
  (⟨"java/lang/Math", "floorMod", "(II)I"⟩, prog_37_method_50_code, 3, (some .int)),
  (⟨"java/lang/Math", "max", "(II)I"⟩, prog_37_method_65_code, 2, (some .int)),
  (⟨"java/lang/Math", "min", "(II)I"⟩, prog_37_method_69_code, 2, (some .int)),
  (⟨"java/util/AbstractCollection", "<init>", "()V"⟩, prog_48_method_1_code, 1, none),
  (⟨"java/util/AbstractList", "<init>", "()V"⟩, prog_49_method_1_code, 1, none),
  (⟨"java/util/ArrayList", "<init>", "()V"⟩, prog_50_method_2_code, 1, none),
  (⟨"java/util/ArrayList", "add", "(Ljava/lang/Object;)Z"⟩, prog_50_method_25_code, 2, (some .boolean)),
  (⟨"java/util/ArrayList", "add", "(Ljava/lang/Object;[Ljava/lang/Object;I)V"⟩, prog_50_method_24_code, 4, none),
  (⟨"java/util/ArrayList", "elementData", "(I)Ljava/lang/Object;"⟩, prog_50_method_18_code, 2, (some (.object "java/lang/Object"))),
  (⟨"java/util/ArrayList", "fastRemove", "([Ljava/lang/Object;I)V"⟩, prog_50_method_39_code, 4, none),
  (⟨"java/util/ArrayList", "get", "(I)Ljava/lang/Object;"⟩, prog_50_method_20_code, 2, (some (.object "java/lang/Object"))),
  (⟨"java/util/ArrayList", "grow", "()[Ljava/lang/Object;"⟩, prog_50_method_7_code, 1, (some (.array (.object "java/lang/Object")))),
  (⟨"java/util/ArrayList", "grow", "(I)[Ljava/lang/Object;"⟩, prog_50_method_6_code, 4, (some (.array (.object "java/lang/Object")))),
  (⟨"java/util/ArrayList", "isEmpty", "()Z"⟩, prog_50_method_9_code, 1, (some .boolean)),
  (⟨"java/util/ArrayList", "iterator", "()Ljava/util/Iterator;"⟩, prog_50_method_55_code, 1, (some (.object "java/util/Iterator"))),
  (⟨"java/util/ArrayList", "remove", "(I)Ljava/lang/Object;"⟩, prog_50_method_29_code, 4, (some (.object "java/lang/Object"))),
  (⟨"java/util/ArrayList", "set", "(ILjava/lang/Object;)Ljava/lang/Object;"⟩, prog_50_method_23_code, 4, (some (.object "java/lang/Object"))),
  (⟨"java/util/ArrayList", "size", "()I"⟩, prog_50_method_8_code, 1, (some .int)),
  (⟨"java/util/ArrayList$Itr", "<init>", "(Ljava/util/ArrayList;)V"⟩, prog_51_method_1_code, 2, none),
  (⟨"java/util/ArrayList$Itr", "hasNext", "()Z"⟩, prog_51_method_2_code, 1, (some .boolean)),
  (⟨"java/util/Arrays", "copyOf", "([Ljava/lang/Object;I)[Ljava/lang/Object;"⟩, prog_52_method_119_code, 2, (some (.array (.object "java/lang/Object")))),
  (⟨"java/util/Arrays", "copyOf", "([Ljava/lang/Object;ILjava/lang/Class;)[Ljava/lang/Object;"⟩, prog_52_method_120_code, 4, (some (.array (.object "java/lang/Object")))),
  (⟨"java/util/Objects", "checkIndex", "(II)I"⟩, prog_56_method_17_code, 2, (some .int)),
  (⟨"jdk/internal/util/ArraysSupport", "newLength", "(III)I"⟩, prog_59_method_27_code, 4, (some .int)),
  (⟨"jdk/internal/util/Preconditions", "checkIndex", "(IILjava/util/function/BiFunction;)I"⟩, prog_60_method_11_code, 3, (some .int)),
  (⟨"PlateroomprinterLaw", "law", "([I)Z"⟩, code, 7, (some .boolean))]
/-- the words: the good ones; and those that a caller hands on -/
def e_ws : List Cond := lw_tbl.filter goodWord
def e_nk (w : Cond) : Bool := match w with
  | .methodLinkNest _ _ _ _ => true
  | .fieldLinkNest _ _ _ _ _ _ => true
  | .castable _ _ => true
  | .declares _ => true
  | .arrayOver (.object _) => true
  | .arrayOver (.array _) => true
  | .unhidden _ _ _ => true
  | .publicMethod _ => true
  | _ => false
def e_nw : List Cond := lw_tbl.filter e_nk
/-- texts of the throws; pairs of classes that do not fit -/
def e_sr : List (String × Nat × String) := [("Plateroomprinter", 96, "no such token"), ("Plateroomprinter", 106, "the program is full"), ("Plateroomprinter", 113, "the program is empty"), ("Plateroomprinter", 177, "no such place"), ("Plateroomprinter", 180, "what is 0 or 1"), ("Plateroomprinter", 185, "what is 0 to 2"), ("Plateroomprinter", 202, "no such name"), ("Plateroomprinter", 216, "no such order"), ("Plateroomprinter", 272, "what is 0 to 14"), ("Plateroomprinter", 274, "no such entry"), ("Plateroomprinter", 276, "part is 0 or 1"), ("Plateroomprinter", 291, "no such ring"), ("Plateroomprinter", 299, "no such point"), ("Plateroomprinter", 310, "no such form"), ("Plateroomprinter", 322, "no such dot"), ("Plateroomprinter", 328, "rule is 0 or 1"), ("Plateroomprinter", 338, "moved by -40 to 40"), ("Plateroomprinter", 362, "to is above from, what is 0 to 4"), ("Plateroomprinter", 393, "no such figure"), ("Plateroomprinter", 404, "what is 0 to 6"), ("Plateroomprinter", 412, "no such row"), ("Plateroomprinter", 415, "no such plate"), ("Plateroomprinter", 417, "height is 1 to 32"), ("Plateroomprinter", 431, "what is 0 to 5")]
def e_nc : List (String × String) := [("java/lang/IllegalArgumentException", "java/lang/IllegalStateException"), ("java/lang/IllegalArgumentException", "java/lang/IndexOutOfBoundsException"), ("java/lang/IllegalStateException", "java/lang/IllegalArgumentException"), ("java/lang/IllegalStateException", "java/lang/IndexOutOfBoundsException"), ("java/lang/IndexOutOfBoundsException", "java/lang/IllegalArgumentException"), ("java/lang/IndexOutOfBoundsException", "java/lang/IllegalStateException")]
/-- calls of an interface: the receiver, the name, what runs -/
def e_fw : List (String × MethodName × MethodName) := [("java/util/ArrayList$Itr", ⟨"java/util/Iterator", "hasNext", "()Z"⟩, ⟨"java/util/ArrayList$Itr", "hasNext", "()Z"⟩)]
end
section
/-! THE EVALUATOR: a frame of a method over a picture of the heap; ints and longs by codes (the value and 2^31, 2^63: in order), or by ranges of codes; references by places of the picture. In continuations, so that all that is kept is in normal form. -/
abbrev e_V : Type := Nat ⊕ (Option Nat ⊕ (Nat ⊕ ((Nat × Nat) ⊕ ((Nat × Nat) ⊕ (Nat ⊕ Unit)))))
abbrev e_I (n : Nat) : e_V := .inl n
abbrev e_R (n : Nat) : e_V := .inr (.inl (some n))
abbrev e_N : e_V := .inr (.inl none)
abbrev e_L (n : Nat) : e_V := .inr (.inr (.inl n))
abbrev e_U (l h : Nat) : e_V := .inr (.inr (.inr (.inl (l, h))))
abbrev e_UL (l h : Nat) : e_V := .inr (.inr (.inr (.inr (.inl (l, h)))))
/-- an object that isn't ours, by its number; some reference -/
abbrev e_B (n : Nat) : e_V := .inr (.inr (.inr (.inr (.inr (.inl n)))))
abbrev e_Tp : e_V := .inr (.inr (.inr (.inr (.inr (.inr ())))))
abbrev e_C : Type := (Nat × List e_V) ⊕ (Nat × List (Nat × e_V))
def e_T (n : Nat) : Type := Nat.rec e_C (fun _ T => T × T) n
noncomputable def e_tget (n : Nat) : e_T n → Nat → e_C := Nat.rec (motive := fun n => e_T n → Nat → e_C) (fun t _ => t) (fun n ih t i =>
  Prod.rec (motive := fun _ => e_C) (fun a b => bif Nat.blt i (2 ^ n) then ih a i else ih b (i - 2 ^ n)) (show e_T n × e_T n from t)) n
noncomputable def e_tput (x : e_C) (n : Nat) : e_T n → Nat → (e_T n → Bool) → Bool := Nat.rec (motive := fun n => e_T n → Nat → (e_T n → Bool) → Bool) (fun _ _ k => k x) (fun n ih t i k =>
  Prod.rec (motive := fun _ => Bool) (fun a b => bif Nat.blt i (2 ^ n) then ih a i (fun a' => k (show e_T (n + 1) from ((a', b) : e_T n × e_T n))) else ih b (i - 2 ^ n) (fun b' => k (show e_T (n + 1) from ((a, b') : e_T n × e_T n)))) (show e_T n × e_T n from t)) n
abbrev e_W : Type := e_T 9
abbrev e_A : Type := List (Option e_V)
/-- how many cells the picture has, how many cells and slots were made -/
abbrev e_Q : Type := Nat × Nat × Nat
/-- the method, its room for frames and for words, what the script holds -/
abbrev e_F : Type := Nat × Nat × Nat × List (Nat × e_V)
/-- what a frame ends with: an answer (or none), or the number of a thrown class -/
abbrev e_Z : Type := Option e_V ⊕ Nat
abbrev e_K : Type := e_Z → e_W → e_Q → Bool
abbrev e_G : Type := e_F → Nat → e_A → List e_V → e_W → e_Q → e_K → Bool
abbrev e_O : Type := e_G → e_F → e_A → List e_V → e_W → e_Q → e_K → Bool
def e_fo (n : Nat) (k : Nat → Bool) : Bool := match n with
  | 0 => k 0
  | m + 1 => k (Nat.succ m)
def e_nth {α : Type} : List α → Nat → Option α
  | [], _ => none
  | a :: _, 0 => some a
  | _ :: l, n + 1 => e_nth l n
def e_rep {α : Type} (x : α) : List α → Nat → (List α → Bool) → Bool
  | [], _, _ => false
  | _ :: l, 0, k => k (x :: l)
  | a :: l, n + 1, k => e_rep x l n (fun l' => k (a :: l'))
/-- a local of one word: it is no half of a long -/
def e_c1 (a : Option e_V) : Option e_V := match a with
  | some (.inl m) => some (.inl m)
  | some (.inr (.inl r)) => some (.inr (.inl r))
  | some (.inr (.inr (.inr (.inl q)))) => some (.inr (.inr (.inr (.inl q))))
  | some (.inr (.inr (.inr (.inr (.inr q))))) => some (.inr (.inr (.inr (.inr (.inr q)))))
  | _ => none
def e_lst (x : Option e_V) : e_A → Nat → (e_A → Bool) → Bool
  | [], _, _ => false
  | _ :: l, 0, k => k (x :: l)
  | a :: l, n + 1, k => match n with
    | 0 => e_lst x l 0 (fun l' => k (e_c1 a :: l'))
    | m + 1 => e_lst x l (m + 1) (fun l' => k (a :: l'))
/-- arrays: runs of one value -/
def e_rget : List (Nat × e_V) → Nat → Nat → Option e_V
  | [], _, _ => none
  | (n, v) :: l, i, j => bif Nat.blt i n then (bif Nat.blt j n then some v else none) else e_rget l (i - n) (j - n)
def e_same (a b : e_V) : Bool := match a, b with
  | .inl m, .inl n => Nat.beq m n
  | .inr (.inl (some m)), .inr (.inl (some n)) => Nat.beq m n
  | .inr (.inl none), .inr (.inl none) => true
  | .inr (.inr (.inl m)), .inr (.inr (.inl n)) => Nat.beq m n
  | _, _ => false
def e_cons (n : Nat) (v : e_V) (l : List (Nat × e_V)) (k : List (Nat × e_V) → Bool) : Bool := match n with
  | 0 => k l
  | z + 1 => match l with
    | [] => k [(Nat.succ z, v)]
    | (m, u) :: t => bif e_same v u then e_fo (z + 1 + m) (fun q => k ((q, u) :: t)) else k ((Nat.succ z, v) :: l)
def e_rset (x : e_V) : List (Nat × e_V) → Nat → (List (Nat × e_V) → Bool) → Bool
  | [], _, _ => false
  | (n, v) :: l, i, k => bif Nat.blt i n then e_cons (n - i - 1) v l (fun l1 => e_cons 1 x l1 (fun l2 => e_cons i v l2 k)) else e_rset x l (i - n) (fun l1 => e_cons n v l1 k)
def e_rlen : List (Nat × e_V) → Nat
  | [] => 0
  | (n, _) :: l => n + e_rlen l
/-- an int's range of codes -/
def e_rg (v : e_V) : Option (Nat × Nat) := match v with
  | .inl m => some (m, m)
  | .inr (.inr (.inr (.inl q))) => some q
  | _ => none
def e_rgL (v : e_V) : Option (Nat × Nat) := match v with
  | .inr (.inr (.inl m)) => some (m, m)
  | .inr (.inr (.inr (.inr (.inl q)))) => some q
  | _ => none
def e_mk (l h : Nat) (k : e_V → Bool) : Bool := e_fo l fun a => e_fo h fun b => bif Nat.beq a b then k (.inl a) else k (.inr (.inr (.inr (.inl (a, b)))))
def e_okI (v : e_V) : Bool := match e_rg v with
  | some _ => true
  | none => false
def e_okL (v : e_V) : Bool := match e_rgL v with
  | some _ => true
  | none => false
def e_okR (v : e_V) : Bool := match v with
  | .inr (.inl _) => true
  | .inr (.inr (.inr (.inr (.inr _)))) => true
  | _ => false
/-- 0 or 1 -/
def e_okZ (v : e_V) : Bool := match e_rg v with
  | some (l, h) => Nat.ble 2147483648 l && Nat.ble h 2147483649
  | none => false
-- constants and moves
def o_push (v : e_V) (nx : Nat) : e_O := fun g F ls st w c K => g F nx ls (v :: st) w c K
def o_load (ok : e_V → Bool) (n nx : Nat) : e_O := fun g F ls st w c K => match e_nth ls n with
  | some (some v) => bif ok v then g F nx ls (v :: st) w c K else false
  | _ => false
def o_store (ok : e_V → Bool) (n nx : Nat) : e_O := fun g F ls st w c K => match st with
  | v :: r => bif ok v then e_lst (some v) ls n (fun ls' => g F nx ls' r w c K) else false
  | [] => false
def o_storeL (n nx : Nat) : e_O := fun g F ls st w c K => match st with
  | v :: r => bif e_okL v then e_lst none ls (n + 1) (fun l1 => e_lst (some v) l1 n (fun ls' => g F nx ls' r w c K)) else false
  | [] => false
def o_iinc (n d nx : Nat) : e_O := fun g F ls st w c K => match e_nth ls n with
  | some (some (.inl m)) => e_fo ((m + d) % 4294967296) (fun z => e_lst (some (.inl z)) ls n (fun ls' => g F nx ls' st w c K))
  | _ => false
def e_is1 (v : e_V) : Bool := match e_c1 (some v) with
  | some _ => true
  | none => false
def o_pop (nx : Nat) : e_O := fun g F ls st w c K => match st with
  | v :: r => bif e_is1 v then g F nx ls r w c K else false
  | _ => false
def o_dup (nx : Nat) : e_O := fun g F ls st w c K => match st with
  | v :: r => bif e_is1 v then g F nx ls (v :: v :: r) w c K else false
  | _ => false
def o_dup_x1 (nx : Nat) : e_O := fun g F ls st w c K => match st with
  | v :: u :: r => bif e_is1 v && e_is1 u then g F nx ls (v :: u :: v :: r) w c K else false
  | _ => false
def o_dup2 (nx : Nat) : e_O := fun g F ls st w c K => match st with
  | v :: u :: r => bif e_is1 v && e_is1 u then g F nx ls (v :: u :: v :: u :: r) w c K else false
  | _ => false
-- arithmetic
def o_iadd (nx : Nat) : e_O := fun g F ls st w c K => match st with
  | .inl n :: .inl m :: r => e_fo ((m + n + 2147483648) % 4294967296) (fun z => g F nx ls (.inl z :: r) w c K)
  | b :: a :: r => match e_rg a, e_rg b with
    | some (l1, h1), some (l2, h2) => bif Nat.ble 2147483648 (l1 + l2) && Nat.blt (h1 + h2) 6442450944 then e_mk (l1 + l2 - 2147483648) (h1 + h2 - 2147483648) (fun v => g F nx ls (v :: r) w c K) else false
    | _, _ => false
  | _ => false
def o_isub (nx : Nat) : e_O := fun g F ls st w c K => match st with
  | .inl n :: .inl m :: r => e_fo ((m + 6442450944 - n) % 4294967296) (fun z => g F nx ls (.inl z :: r) w c K)
  | .inl n :: a :: r => match e_rg a with
    | some (l, h) => bif Nat.ble n (l + 2147483648) && Nat.blt (h + 2147483648 - n) 4294967296 then e_mk (l + 2147483648 - n) (h + 2147483648 - n) (fun v => g F nx ls (v :: r) w c K) else false
    | none => false
  | _ => false
def e_u (m : Nat) : Nat := (m + 2147483648) % 4294967296
def o_bin (op : Nat → Nat → Nat) (nx : Nat) : e_O := fun g F ls st w c K => match st with
  | .inl n :: .inl m :: r => e_fo (e_u (op (e_u m) (e_u n) % 4294967296)) (fun z => g F nx ls (.inl z :: r) w c K)
  | _ => false
def e_mulR (l h n : Nat) (k : e_V → Bool) : Bool := bif Nat.ble 2147483648 n && Nat.ble (2147483648 * (n - 2147483648)) (l * (n - 2147483648) + 2147483648) && Nat.blt (h * (n - 2147483648) + 2147483648 - 2147483648 * (n - 2147483648)) 4294967296
  then e_mk (l * (n - 2147483648) + 2147483648 - 2147483648 * (n - 2147483648)) (h * (n - 2147483648) + 2147483648 - 2147483648 * (n - 2147483648)) k else false
def o_imul (nx : Nat) : e_O := fun g F ls st w c K => match st with
  | .inl n :: .inl m :: r => e_fo (e_u (e_u m * e_u n % 4294967296)) (fun z => g F nx ls (.inl z :: r) w c K)
  | .inl n :: a :: r => match e_rg a with
    | some (l, h) => e_mulR l h n (fun v => g F nx ls (v :: r) w c K)
    | none => false
  | b :: .inl m :: r => match e_rg b with
    | some (l, h) => e_mulR l h m (fun v => g F nx ls (v :: r) w c K)
    | none => false
  | _ => false
/-- division of numbers that aren't negative by such that are above 0 -/
def o_idiv (nx : Nat) : e_O := fun g F ls st w c K => match st with
  | .inl n :: .inl m :: r => bif Nat.ble 2147483648 m && Nat.blt 2147483648 n then e_fo ((m - 2147483648) / (n - 2147483648) + 2147483648) (fun z => g F nx ls (.inl z :: r) w c K) else false
  | _ => false
def o_irem (nx : Nat) : e_O := fun g F ls st w c K => match st with
  | .inl n :: .inl m :: r => bif Nat.ble 2147483648 m && Nat.blt 2147483648 n then e_fo ((m - 2147483648) % (n - 2147483648) + 2147483648) (fun z => g F nx ls (.inl z :: r) w c K) else false
  | _ => false
def o_iushr (nx : Nat) : e_O := fun g F ls st w c K => match st with
  | .inl n :: .inl m :: r => e_fo (e_u (e_u m / 2 ^ (e_u n % 32))) (fun z => g F nx ls (.inl z :: r) w c K)
  | b :: .inl m :: r => match e_rg b with
    | some _ => bif Nat.beq m 2147483648 then g F nx ls (.inl 2147483648 :: r) w c K else false
    | none => false
  | _ => false
/-- >> of a number that isn't negative -/
def o_ishr (nx : Nat) : e_O := fun g F ls st w c K => match st with
  | .inl n :: .inl m :: r => bif Nat.ble 2147483648 m then e_fo ((m - 2147483648) / 2 ^ (e_u n % 32) + 2147483648) (fun z => g F nx ls (.inl z :: r) w c K) else false
  | _ => false
def o_ishl (nx : Nat) : e_O := fun g F ls st w c K => match st with
  | .inl n :: .inl m :: r => e_fo (e_u (e_u m * 2 ^ (e_u n % 32) % 4294967296)) (fun z => g F nx ls (.inl z :: r) w c K)
  | _ => false
def o_ineg (nx : Nat) : e_O := fun g F ls st w c K => match st with
  | .inl m :: r => e_fo ((4294967296 - m) % 4294967296) (fun z => g F nx ls (.inl z :: r) w c K)
  | _ => false
def o_i2l (nx : Nat) : e_O := fun g F ls st w c K => match st with
  | .inl m :: r => e_fo (m + 9223372034707292160) (fun z => g F nx ls (.inr (.inr (.inl z)) :: r) w c K)
  | .inr (.inr (.inr (.inl (l, h)))) :: r => e_fo (l + 9223372034707292160) (fun a => e_fo (h + 9223372034707292160) (fun b => g F nx ls (.inr (.inr (.inr (.inr (.inl (a, b))))) :: r) w c K))
  | _ => false
def e_uL (m : Nat) : Nat := (m + 9223372036854775808) % 18446744073709551616
def o_l2i (nx : Nat) : e_O := fun g F ls st w c K => match st with
  | .inr (.inr (.inl m)) :: r => e_fo (e_u (e_uL m % 4294967296)) (fun z => g F nx ls (.inl z :: r) w c K)
  | _ => false
def o_ladd (nx : Nat) : e_O := fun g F ls st w c K => match st with
  | .inr (.inr (.inl n)) :: .inr (.inr (.inl m)) :: r => e_fo ((m + n + 9223372036854775808) % 18446744073709551616) (fun z => g F nx ls (.inr (.inr (.inl z)) :: r) w c K)
  | _ => false
def o_lsub (nx : Nat) : e_O := fun g F ls st w c K => match st with
  | .inr (.inr (.inl n)) :: .inr (.inr (.inl m)) :: r => e_fo ((m + 27670116110564327424 - n) % 18446744073709551616) (fun z => g F nx ls (.inr (.inr (.inl z)) :: r) w c K)
  | _ => false
def o_lmul (nx : Nat) : e_O := fun g F ls st w c K => match st with
  | .inr (.inr (.inl n)) :: .inr (.inr (.inl m)) :: r => e_fo (e_uL (e_uL m * e_uL n % 18446744073709551616)) (fun z => g F nx ls (.inr (.inr (.inl z)) :: r) w c K)
  | _ => false
def o_ldiv (nx : Nat) : e_O := fun g F ls st w c K => match st with
  | .inr (.inr (.inl n)) :: .inr (.inr (.inl m)) :: r => bif Nat.ble 9223372036854775808 m && Nat.blt 9223372036854775808 n then e_fo ((m - 9223372036854775808) / (n - 9223372036854775808) + 9223372036854775808) (fun z => g F nx ls (.inr (.inr (.inl z)) :: r) w c K) else false
  | _ => false
def o_lcmp (nx : Nat) : e_O := fun g F ls st w c K => match st with
  | b :: a :: r => match e_rgL a, e_rgL b with
    | some (l1, h1), some (l2, h2) =>
      bif Nat.blt h1 l2 then g F nx ls (.inl 2147483647 :: r) w c K
      else bif Nat.blt h2 l1 then g F nx ls (.inl 2147483649 :: r) w c K
      else bif Nat.ble h2 l1 then (bif Nat.ble h1 l2 then g F nx ls (.inl 2147483648 :: r) w c K else g F nx ls (.inr (.inr (.inr (.inl (2147483648, 2147483649)))) :: r) w c K)
      else bif Nat.ble h1 l2 then g F nx ls (.inr (.inr (.inr (.inl (2147483647, 2147483648)))) :: r) w c K
      else false
    | _, _ => false
  | _ => false
-- jumps
def o_goto (nx : Nat) : e_O := fun g F ls st w c K => g F nx ls st w c K
/-- 0 lt, 1 ge (tg and nx the other way round), by ranges -/
def e_lt (a b : Option (Nat × Nat)) (t f : Bool) : Bool := match a, b with
  | some (l1, h1), some (l2, h2) => bif Nat.blt h1 l2 then t else bif Nat.ble h2 l1 then f else false
  | _, _ => false
def e_eq (a b : Option (Nat × Nat)) (t f : Bool) : Bool := match a, b with
  | some (l1, h1), some (l2, h2) => bif Nat.blt h1 l2 || Nat.blt h2 l1 then f else bif Nat.beq l1 h1 && Nat.beq l2 h2 then t else false
  | _, _ => false
def e_z : Option (Nat × Nat) := some (2147483648, 2147483648)
def o_iflt (tg nx : Nat) : e_O := fun g F ls st w c K => match st with
  | a :: r => e_lt (e_rg a) e_z (g F tg ls r w c K) (g F nx ls r w c K)
  | _ => false
def o_ifgt (tg nx : Nat) : e_O := fun g F ls st w c K => match st with
  | a :: r => e_lt e_z (e_rg a) (g F tg ls r w c K) (g F nx ls r w c K)
  | _ => false
def o_ifeq (tg nx : Nat) : e_O := fun g F ls st w c K => match st with
  | a :: r => e_eq (e_rg a) e_z (g F tg ls r w c K) (g F nx ls r w c K)
  | _ => false
def o_clt (tg nx : Nat) : e_O := fun g F ls st w c K => match st with
  | b :: a :: r => e_lt (e_rg a) (e_rg b) (g F tg ls r w c K) (g F nx ls r w c K)
  | _ => false
def o_cgt (tg nx : Nat) : e_O := fun g F ls st w c K => match st with
  | b :: a :: r => e_lt (e_rg b) (e_rg a) (g F tg ls r w c K) (g F nx ls r w c K)
  | _ => false
def o_ceq (tg nx : Nat) : e_O := fun g F ls st w c K => match st with
  | b :: a :: r => e_eq (e_rg a) (e_rg b) (g F tg ls r w c K) (g F nx ls r w c K)
  | _ => false
def o_acmp (tg nx : Nat) : e_O := fun g F ls st w c K => match st with
  | .inr (.inr (.inr (.inr (.inr (.inl b))))) :: .inr (.inr (.inr (.inr (.inr (.inl a))))) :: r => bif Nat.beq a b then g F tg ls r w c K else false
  | _ => false
def o_null (tg nx : Nat) : e_O := fun g F ls st w c K => match st with
  | .inr (.inl (some _)) :: r => g F nx ls r w c K
  | .inr (.inl none) :: r => g F tg ls r w c K
  | _ => false
/-- all of the places i to i + n of the targets are the same -/
def e_tgt (ts : List Nat) (i n : Nat) : Option Nat := match n with
  | 0 => e_nth ts i
  | m + 1 => match e_nth ts (i + m + 1), e_tgt ts i m with
    | some a, some b => bif Nat.beq a b then some b else none
    | _, _ => none
def o_switch (lo : Nat) (ts : List Nat) (d : Nat) : e_O := fun g F ls st w c K => match st with
  | a :: r => match e_rg a with
    | some (l, h) => bif Nat.blt h lo then g F d ls r w c K
      else bif Nat.ble (lo + ts.length) l then g F d ls r w c K
      else bif Nat.ble lo l && Nat.blt h (lo + ts.length) then (match e_tgt ts (l - lo) (h - l) with
        | some t => g F t ls r w c K
        | none => false)
      else false
    | none => false
  | _ => false
-- the heap
def e_f1 (c k : Nat) : Nat → Option Nat := fun ci => bif Nat.beq ci c then some k else none
noncomputable def o_getf (fi : Nat → Option Nat) (nx : Nat) : e_O := fun g F ls st w c K => match st with
  | .inr (.inl (some q)) :: r => match e_tget 9 w q with
    | .inl (ci, fs) => match fi ci with
      | some i => match e_nth fs i with
        | some v => g F nx ls (v :: r) w c K
        | none => false
      | none => false
    | _ => false
  | _ => false
noncomputable def o_putf (fi : Nat → Option Nat) (ok : e_V → Bool) (nx : Nat) : e_O := fun g F ls st w c K => match st with
  | v :: .inr (.inl (some q)) :: r => bif ok v && Nat.blt q 512 then (match e_tget 9 w q with
    | .inl (ci, fs) => match fi ci with
      | some i => e_rep v fs i (fun fs' => e_tput (.inl (ci, fs')) 9 w q (fun w' => g F nx ls r w' c K))
      | none => false
    | _ => false) else false
  | _ => false
/-- what an array holds that isn't ours: the script (0) and constant ones -/
def e_fc (fc : List (List (Nat × e_V))) (F : e_F) (k : Nat) : List (Nat × e_V) := match k with
  | 0 => F.2.2.2
  | z + 1 => match e_nth fc z with
    | some l => l
    | none => []
noncomputable def o_alen (fc : List (List (Nat × e_V))) (nx : Nat) : e_O := fun g F ls st w c K => match st with
  | .inr (.inr (.inr (.inr (.inr (.inl k))))) :: r => e_fo (e_rlen (e_fc fc F k) + 2147483648) (fun z => bif Nat.ble k fc.length && Nat.blt z 4294967296 then g F nx ls (.inl z :: r) w c K else false)
  | .inr (.inl (some q)) :: r => match e_tget 9 w q with
    | .inr (_, rs) => e_fo (e_rlen rs + 2147483648) (fun z => g F nx ls (.inl z :: r) w c K)
    | _ => false
  | _ => false
/-- tc: the kind of array -/
noncomputable def o_aldO (tc nx : Nat) : e_O := fun g F ls st w c K => match st with
  | i :: .inr (.inl (some q)) :: r => match e_rg i, e_tget 9 w q with
    | some (l, h), .inr (t, rs) => bif Nat.beq t tc && Nat.ble 2147483648 l && Nat.ble l h then (match e_rget rs (l - 2147483648) (h - 2147483648) with
      | some v => g F nx ls (v :: r) w c K
      | none => false) else false
    | _, _ => false
  | _ => false
/-- ints, of arrays that aren't ours too -/
noncomputable def o_ald (fc : List (List (Nat × e_V))) (nx : Nat) : e_O := fun g F ls st w c K => match st with
  | i :: .inr (.inr (.inr (.inr (.inr (.inl k))))) :: r => match e_rg i with
    | some (l, h) => bif Nat.ble k fc.length && Nat.ble 2147483648 l && Nat.ble l h then (match e_rget (e_fc fc F k) (l - 2147483648) (h - 2147483648) with
      | some v => bif e_okI v && Nat.blt k 3 then g F nx ls (v :: r) w c K else false
      | none => false) else false
    | none => false
  | st => o_aldO 0 nx g F ls st w c K
noncomputable def o_ast (tc : Nat) (ok : e_V → Bool) (nx : Nat) : e_O := fun g F ls st w c K => match st with
  | v :: .inl i :: .inr (.inl (some q)) :: r => bif ok v && Nat.blt q 512 && Nat.ble 2147483648 i then (match e_tget 9 w q with
    | .inr (t, rs) => bif Nat.beq t tc then e_rset v rs (i - 2147483648) (fun rs' => e_tput (.inr (t, rs')) 9 w q (fun w' => g F nx ls r w' c K)) else false
    | _ => false) else false
  | _ => false
/-- the kind of a cell: its class, or 100 and what array it is -/
def e_cod (x : e_C) : Nat := match x with
  | .inl (ci, _) => ci
  | .inr (t, _) => 100 + t
noncomputable def e_okS (okc : Nat → Bool) (w : e_W) (v : e_V) : Bool := match v with
  | .inr (.inl none) => true
  | .inr (.inl (some j)) => okc (e_cod (e_tget 9 w j))
  | _ => false
/-- a store into an array of references -/
noncomputable def o_astR (tc : Nat) (okc : Nat → Bool) (nx : Nat) : e_O := fun g F ls st w c K => match st with
  | v :: .inl i :: .inr (.inl (some q)) :: r => bif e_okS okc w v && Nat.blt q 512 && Nat.ble 2147483648 i then (match e_tget 9 w q with
    | .inr (t, rs) => bif Nat.beq t tc then e_rset v rs (i - 2147483648) (fun rs' => e_tput (.inr (t, rs')) 9 w q (fun w' => g F nx ls r w' c K)) else false
    | _ => false) else false
  | _ => false
/-- the next cell of the picture -/
noncomputable def e_push (x : e_C) (n : Nat) (w : e_W) (c : e_Q) (k : e_W → e_Q → Bool) : Bool := match c with
  | (q, cc, ss) => bif Nat.blt q 512 then e_tput x 9 w q (fun w' => e_fo (q + 1) fun q' => e_fo (cc + 1) fun c' => e_fo (ss + n) fun s' => k w' (q', c', s')) else false
noncomputable def o_new (ci n : Nat) (fs : List e_V) (nx : Nat) : e_O := fun g F ls st w c K => e_push (.inl (ci, fs)) n w c (fun w' c' => g F nx ls (.inr (.inl (some c.1)) :: st) w' c' K)
noncomputable def o_newa (tc : Nat) (v : e_V) (nx : Nat) : e_O := fun g F ls st w c K => match st with
  | .inl m :: r => bif Nat.ble 2147483648 m && Nat.ble m 2214592512 then (match m - 2147483648 with
    | 0 => e_push (.inr (tc, [])) 0 w c (fun w' c' => g F nx ls (.inr (.inl (some c.1)) :: r) w' c' K)
    | z + 1 => e_push (.inr (tc, [(Nat.succ z, v)])) (Nat.succ z) w c (fun w' c' => g F nx ls (.inr (.inl (some c.1)) :: r) w' c' K)) else false
  | _ => false
-- ends
def o_ret (ok : e_V → Bool) : e_O := fun _ _ _ st w c K => match st with
  | [v] => bif ok v then K (.inl (some v)) w c else false
  | _ => false
def o_retv : e_O := fun _ _ _ st w c K => match st with
  | [] => K (.inl none) w c
  | _ => false
-- calls
/-- the first n of a stack, turned round, as locals; a long takes two -/
def e_args : Nat → List e_V → List e_V → (List e_V → List e_V → Bool) → Bool
  | 0, as, st, k => k as st
  | n + 1, as, st, k => match st with
    | v :: r => e_args n (v :: as) r k
    | [] => false
def e_loc : List e_V → Nat → (e_A → Bool) → Bool
  | [], m, k => k (List.replicate m none)
  | v :: l, m, k => match m with
    | 0 => false
    | z + 1 => bif e_is1 v then e_loc l z (fun a => k (some v :: a)) else match z with
      | 0 => false
      | y + 1 => e_loc l y (fun a => k (some v :: none :: a))
def e_stw : List e_V → Nat
  | [] => 0
  | v :: r => (bif e_is1 v then 1 else 2) + e_stw r
def e_go (y m : Nat) (as : List e_V) (nx : Nat) (r : List e_V) (g : e_G) (F : e_F) (ls : e_A) (w : e_W) (c : e_Q) (K : e_K) (X : Nat → e_W → e_Q → Bool) : Bool := match F with
  | (_, fr, lo, bx) => bif Nat.blt 0 fr && Nat.ble (m + 19) lo && Nat.ble (e_stw r) 8 then e_fo (fr - 1) (fun fr' => e_fo (lo - (m + 19)) (fun lo' => e_loc as m (fun la =>
    g (y, fr', lo', bx) 0 la [] w c (fun z w' c' => match z with
      | .inl (some v) => g F nx ls (v :: r) w' c' K
      | .inl none => g F nx ls r w' c' K
      | .inr E => X E w' c')))) else false
/-- a static call of the method y (m locals, n arguments) -/
def o_callS (y m n nx : Nat) : e_O := fun g F ls st w c K => e_args n [] st (fun as r => e_go y m as nx r g F ls w c K (fun _ _ _ => false))
/-- a call of the method y on a receiver, by invokespecial or of a nest mate's private method -/
def o_callI (y m n nx : Nat) : e_O := fun g F ls st w c K => e_args n [] st (fun as r => match as with
  | .inr (.inl (some _)) :: _ => e_go y m as nx r g F ls w c K (fun _ _ _ => false)
  | _ => false)
/-- a call by the receiver's class; X: what is done where it throws -/
noncomputable def o_callX (X : e_G → e_F → e_A → e_K → Nat → e_W → e_Q → Bool) (sel : Nat → Option (Nat × Nat)) (n nx : Nat) : e_O := fun g F ls st w c K => e_args n [] st (fun as r => match as with
  | .inr (.inl (some q)) :: _ => match e_tget 9 w q with
    | .inl (ci, _) => match sel ci with
      | some (y, m) => e_go y m as nx r g F ls w c K (X g F ls K)
      | none => false
    | _ => false
  | _ => false)
def e_s1 (c y m : Nat) : Nat → Option (Nat × Nat) := fun ci => bif Nat.beq ci c then some (y, m) else none
noncomputable def o_callV (sel : Nat → Option (Nat × Nat)) (n nx : Nat) : e_O := o_callX (fun _ _ _ _ _ _ _ => false) sel n nx
/-- a method's table: a tree by the place; the tables: a tree by the method -/
abbrev e_X : Type := Nat → Option e_O
def e_lf (q : Nat) (o : e_O) : e_X := fun p => bif Nat.beq p q then some o else none
def e_br (k : Nat) (a b : e_X) : e_X := fun p => bif Nat.ble k p then b p else a p
def e_no : e_X := fun _ => none
def e_lm (q : Nat) (f : e_X) : Nat → e_X := fun M => bif Nat.beq M q then f else e_no
def e_bm (k : Nat) (a b : Nat → e_X) : Nat → e_X := fun M => bif Nat.ble k M then b M else a M
def e_run (tab : Nat → e_X) (fuel : Nat) : e_G := Nat.rec (motive := fun _ => e_G) (fun _ _ _ _ _ _ _ => false) (fun _ ih F pc ls st w c K => match tab F.1 pc with
  | some o => o ih F ls st w c K
  | none => false) fuel
/-- an exception of one's own: its number; a cell of six slots that isn't in the picture -/
def o_throw (E : Nat) : e_O := fun _ F _ st w c K => bif Nat.ble 6 F.2.1 && Nat.ble 90 F.2.2.1 && Nat.ble (e_stw st) 8 then (match c with
  | (q, cc, ss) => e_fo (cc + 1) fun c' => e_fo (ss + 6) fun s' => K (.inr E) w (q, c', s')) else false
def e_hat : List (Nat × Nat) → Nat → Option Nat
  | [], _ => none
  | (e, h) :: l, E => bif Nat.beq e E then some h else e_hat l E
/-- a call whose throws are caught here: where to, by the number of the class -/
noncomputable def o_callVX (sel : Nat → Option (Nat × Nat)) (n nx : Nat) (hs : List (Nat × Nat)) : e_O := o_callX (fun g F ls K E w c => match e_hat hs E with
  | some h => g F h ls [e_Tp] w c K
  | none => false) sel n nx
def e_sameB (a b : e_V) : Bool := match a, b with
  | .inl m, .inl n => Nat.beq m n
  | .inr (.inl (some m)), .inr (.inl (some n)) => Nat.beq m n
  | .inr (.inl none), .inr (.inl none) => true
  | .inr (.inr (.inl m)), .inr (.inr (.inl n)) => Nat.beq m n
  | .inr (.inr (.inr (.inr (.inr (.inl m))))), .inr (.inr (.inr (.inr (.inr (.inl n))))) => Nat.beq m n
  | _, _ => false
end
section
/-! WHAT THE EVALUATOR'S VALUES STAND FOR -/
def e_i (m : Nat) : Int32 := Int32.ofInt ((m : Int) - 2147483648)
def e_l (m : Nat) : Int64 := Int64.ofInt ((m : Int) - 9223372036854775808)
theorem e_i_int {m : Nat} (h : m < 4294967296) : (e_i m).toInt = (m : Int) - 2147483648 := by
  unfold e_i
  rw [Int32.toInt_ofInt]
  have : Int32.size = 4294967296 := rfl
  simp only [this]
  rw [Int.bmod_eq_of_le_mul_two] <;> omega
theorem e_l_int {m : Nat} (h : m < 18446744073709551616) : (e_l m).toInt = (m : Int) - 9223372036854775808 := by
  unfold e_l
  rw [Int64.toInt_ofInt]
  have : Int64.size = 18446744073709551616 := rfl
  simp only [this]
  rw [Int.bmod_eq_of_le_mul_two] <;> omega
theorem e_i_of (x : Int32) : ∃ m : Nat, m < 4294967296 ∧ x = e_i m := by
  refine ⟨(x.toInt + 2147483648).toNat, ?_, ?_⟩
  · have h1 := x.toInt_lt
    have h2 := x.le_toInt
    omega
  · have h1 := x.toInt_lt
    have h2 := x.le_toInt
    apply Int32.toInt_inj.mp
    rw [e_i_int (by omega)]
    omega
theorem e_i_eq {x : Int32} {m : Nat} (h : m < 4294967296) (e : x.toInt = (m : Int) - 2147483648) : x = e_i m := Int32.toInt_inj.mp (by rw [e_i_int h, e])
theorem e_l_eq {x : Int64} {m : Nat} (h : m < 18446744073709551616) (e : x.toInt = (m : Int) - 9223372036854775808) : x = e_l m := Int64.toInt_inj.mp (by rw [e_l_int h, e])
theorem e_i_lt {a b : Nat} (ha : a < 4294967296) (hb : b < 4294967296) : e_i a < e_i b ↔ a < b := by rw [Int32.lt_iff_toInt_lt, e_i_int ha, e_i_int hb]; omega
theorem e_i_le {a b : Nat} (ha : a < 4294967296) (hb : b < 4294967296) : e_i a ≤ e_i b ↔ a ≤ b := by rw [Int32.le_iff_toInt_le, e_i_int ha, e_i_int hb]; omega
theorem e_i_inj {a b : Nat} (ha : a < 4294967296) (hb : b < 4294967296) : e_i a = e_i b ↔ a = b := by
  constructor
  · intro h
    have := congrArg Int32.toInt h
    rw [e_i_int ha, e_i_int hb] at this
    omega
  · rintro rfl; rfl
theorem e_l_lt {a b : Nat} (ha : a < 18446744073709551616) (hb : b < 18446744073709551616) : e_l a < e_l b ↔ a < b := by rw [Int64.lt_iff_toInt_lt, e_l_int ha, e_l_int hb]; omega
theorem e_l_inj {a b : Nat} (ha : a < 18446744073709551616) (hb : b < 18446744073709551616) : e_l a = e_l b ↔ a = b := by
  constructor
  · intro h
    have := congrArg Int64.toInt h
    rw [e_l_int ha, e_l_int hb] at this
    omega
  · rintro rfl; rfl
theorem e_i0 : e_i 2147483648 = 0 := by decide
theorem e_i_nn {m : Nat} (h : m < 4294967296) (h2 : 2147483648 ≤ m) : e_i m = nI (m - 2147483648) := by
  symm
  apply e_i_eq h
  rw [nI_toInt (by omega)]
  omega
theorem e_i_cl {m : Nat} (h : m < 4294967296) (h2 : 2147483648 ≤ m) : (e_i m).toNatClampNeg = m - 2147483648 := by rw [e_i_nn h h2, nI_clamp (by omega)]
theorem e_i_neg {m : Nat} (h : m < 4294967296) (h2 : 2147483648 ≤ m) : ¬ e_i m < 0 := by rw [← e_i0, e_i_lt h (by omega)]; omega
theorem e_i_u {m : Nat} (h : m < 4294967296) : (e_i m).toBitVec.toNat = e_u m := by
  have h1 := e_i_int h
  have h2 : (e_i m).toInt = (e_i m).toBitVec.toInt := rfl
  rw [h2, BitVec.toInt_eq_toNat_cond] at h1
  have h3 := (e_i m).toBitVec.isLt
  unfold e_u
  split at h1 <;> omega
theorem e_i_ofu {x : Int32} : x = e_i (e_u x.toBitVec.toNat) := by
  obtain ⟨m, h, rfl⟩ := e_i_of x
  rw [e_i_u h]
  have h9 : m = e_u (e_u m) := by unfold e_u; omega
  exact congrArg e_i h9
theorem e_u_lt (m : Nat) : e_u m < 4294967296 := Nat.mod_lt _ (by decide)
/-- a value of the evaluator, and one of the machine -/
def e_rel (ad : Nat → Nat) (as : List Nat) (v : e_V) (x : Value) : Prop := match v with
  | .inl m => m < 4294967296 ∧ x = .int (e_i m)
  | .inr (.inl (some i)) => ∃ a, as[i]? = some a ∧ x = .ref a
  | .inr (.inl none) => x = .null
  | .inr (.inr (.inl m)) => m < 18446744073709551616 ∧ x = .long (e_l m)
  | .inr (.inr (.inr (.inl q))) => ∃ m, q.1 ≤ m ∧ m ≤ q.2 ∧ m < 4294967296 ∧ x = .int (e_i m)
  | .inr (.inr (.inr (.inr (.inl q)))) => ∃ m, q.1 ≤ m ∧ m ≤ q.2 ∧ m < 18446744073709551616 ∧ x = .long (e_l m)
  | .inr (.inr (.inr (.inr (.inr (.inl k))))) => x = .ref (ad k)
  | .inr (.inr (.inr (.inr (.inr (.inr _))))) => ∃ a, x = .ref a
theorem e_rel_rg {ad : Nat → Nat} {as : List Nat} {v : e_V} {x : Value} {q : Nat × Nat} (h : e_rel ad as v x) (hq : e_rg v = some q) : ∃ m, q.1 ≤ m ∧ m ≤ q.2 ∧ m < 4294967296 ∧ x = .int (e_i m) := by
  unfold e_rg at hq
  split at hq
  · cases hq
    obtain ⟨h1, h2⟩ := h
    exact ⟨_, Nat.le_refl _, Nat.le_refl _, h1, h2⟩
  · cases hq
    exact h
  · cases hq
theorem e_rel_rgL {ad : Nat → Nat} {as : List Nat} {v : e_V} {x : Value} {q : Nat × Nat} (h : e_rel ad as v x) (hq : e_rgL v = some q) : ∃ m, q.1 ≤ m ∧ m ≤ q.2 ∧ m < 18446744073709551616 ∧ x = .long (e_l m) := by
  unfold e_rgL at hq
  split at hq
  · cases hq
    obtain ⟨h1, h2⟩ := h
    exact ⟨_, Nat.le_refl _, Nat.le_refl _, h1, h2⟩
  · cases hq
    exact h
  · cases hq
theorem e_rel_I {ad : Nat → Nat} {as : List Nat} {v : e_V} {x : Value} (h : e_rel ad as v x) (hq : e_okI v = true) : ∃ z, x = .int z := by
  unfold e_okI at hq
  split at hq
  · next q hq2 =>
    obtain ⟨m, -, -, -, h2⟩ := e_rel_rg h hq2
    exact ⟨_, h2⟩
  · cases hq
theorem e_rel_L {ad : Nat → Nat} {as : List Nat} {v : e_V} {x : Value} (h : e_rel ad as v x) (hq : e_okL v = true) : ∃ z, x = .long z := by
  unfold e_okL at hq
  split at hq
  · next q hq2 =>
    obtain ⟨m, -, -, -, h2⟩ := e_rel_rgL h hq2
    exact ⟨_, h2⟩
  · cases hq
theorem e_rel_R {ad : Nat → Nat} {as : List Nat} {v : e_V} {x : Value} (h : e_rel ad as v x) (hq : e_okR v = true) : x = .null ∨ ∃ a, x = .ref a := by
  unfold e_okR at hq
  split at hq
  · next r =>
    cases r with
    | none => exact Or.inl h
    | some i => obtain ⟨a, -, h⟩ := h; exact Or.inr ⟨a, h⟩
  · next q =>
    cases q with
    | inl k => exact Or.inr ⟨_, h⟩
    | inr u => exact Or.inr h
  · cases hq
theorem e_rel_1 {ad : Nat → Nat} {as : List Nat} {v w : e_V} {x : Value} (h : e_rel ad as v x) (hq : e_c1 (some v) = some w) : w = v ∧ x.category = 1 := by
  unfold e_c1 at hq
  split at hq
  · next m e => cases e; cases hq; obtain ⟨-, rfl⟩ := h; exact ⟨rfl, rfl⟩
  · next r e =>
    cases e; cases hq
    refine ⟨rfl, ?_⟩
    cases r with
    | none => rw [show x = .null from h]; rfl
    | some i => obtain ⟨a, -, rfl⟩ := h; rfl
  · next q e => cases e; cases hq; obtain ⟨m, -, -, -, rfl⟩ := h; exact ⟨rfl, rfl⟩
  · next q e =>
    cases e; cases hq
    refine ⟨rfl, ?_⟩
    cases q with
    | inl k => rw [show x = .ref (ad k) from h]; rfl
    | inr u => obtain ⟨a, rfl⟩ := h; rfl
  · cases hq
theorem e_rel_mono {ad : Nat → Nat} {as as' : List Nat} {v : e_V} {x : Value} (h : e_rel ad as v x) (hp : as <+: as') : e_rel ad as' v x := by
  obtain ⟨t, rfl⟩ := hp
  unfold e_rel at h ⊢
  split
  · exact h
  · obtain ⟨a, h1, h2⟩ := h
    exact ⟨a, by rw [List.getElem?_append_left (List.getElem?_eq_some_iff.mp h1).1]; exact h1, h2⟩
  all_goals exact h
/-- a stack -/
def e_st (ad : Nat → Nat) (as : List Nat) : List e_V → List Value → Prop
  | [], [] => True
  | v :: r, x :: y => e_rel ad as v x ∧ e_st ad as r y
  | _, _ => False
theorem e_st_nil {ad : Nat → Nat} {as : List Nat} {ys : List Value} (h : e_st ad as [] ys) : ys = [] := by
  cases ys with
  | nil => rfl
  | cons a l => exact h.elim
theorem e_st_cons {ad : Nat → Nat} {as : List Nat} {v : e_V} {r : List e_V} {ys : List Value} (h : e_st ad as (v :: r) ys) : ∃ x y, ys = x :: y ∧ e_rel ad as v x ∧ e_st ad as r y := by
  cases ys with
  | nil => exact h.elim
  | cons a l => exact ⟨a, l, rfl, h.1, h.2⟩
theorem e_st_mono {ad : Nat → Nat} {as as' : List Nat} (hp : as <+: as') : ∀ {st : List e_V} {ys : List Value}, e_st ad as st ys → e_st ad as' st ys
  | [], [], _ => trivial
  | _ :: _, _ :: _, h => ⟨e_rel_mono h.1 hp, e_st_mono hp h.2⟩
/-- locals -/
def e_lo (ad : Nat → Nat) (as : List Nat) (al : e_A) (ls : Array Slot) (nL : Nat) : Prop :=
  al.length = nL ∧ ∃ lv, lv_has ls nL lv ∧ ∀ (i : Nat) (v : e_V), al[i]? = some (some v) → ∃ x, (i, x) ∈ lv ∧ e_rel ad as v x
theorem e_lo_mono {ad : Nat → Nat} {as as' : List Nat} {al : e_A} {ls : Array Slot} {nL : Nat} (h : e_lo ad as al ls nL) (hp : as <+: as') : e_lo ad as' al ls nL := by
  obtain ⟨h1, lv, h2, h3⟩ := h
  exact ⟨h1, lv, h2, fun i v hv => by obtain ⟨x, a, b⟩ := h3 i v hv; exact ⟨x, a, e_rel_mono b hp⟩⟩
theorem e_nth_eq {α : Type} : ∀ (l : List α) (n : Nat), e_nth l n = l[n]?
  | [], n => by cases n <;> rfl
  | a :: l, 0 => rfl
  | a :: l, n + 1 => by rw [show e_nth (a :: l) (n + 1) = e_nth l n from rfl, e_nth_eq l n]; rfl
theorem e_lo_at {ad : Nat → Nat} {as : List Nat} {al : e_A} {ls : Array Slot} {nL n : Nat} {v : e_V} (h : e_lo ad as al ls nL) (hv : e_nth al n = some (some v)) : ∃ x, ls[n]? = some (.val x) ∧ e_rel ad as v x := by
  obtain ⟨h1, lv, h2, h3⟩ := h
  rw [e_nth_eq] at hv
  obtain ⟨x, a, b⟩ := h3 n v hv
  exact ⟨x, h2.2.2 _ a, b⟩
theorem e_fo_t {n : Nat} {k : Nat → Bool} (h : e_fo n k = true) : k n = true := by
  unfold e_fo at h
  split at h <;> exact h
/-- a store: what the list of locals is behind it -/
theorem e_lst_t {x : Option e_V} : ∀ {l : e_A} {n : Nat} {k : e_A → Bool}, e_lst x l n k = true → ∃ l', k l' = true ∧ l'.length = l.length ∧ n < l.length ∧ ∀ (j : Nat) (v : e_V), l'[j]? = some (some v) → (j = n ∧ x = some v) ∨ (j ≠ n ∧ ∃ u, l[j]? = some (some u) ∧ (j + 1 ≠ n → u = v) ∧ (j + 1 = n → e_c1 (some u) = some v))
  | [], n, k, h => by unfold e_lst at h; cases h
  | a :: l, 0, k, h => by
    unfold e_lst at h
    refine ⟨_, h, rfl, by simp, fun j v hj => ?_⟩
    cases j with
    | zero =>
      simp only [List.getElem?_cons_zero, Option.some.injEq] at hj
      exact Or.inl ⟨rfl, hj⟩
    | succ j => exact Or.inr ⟨by omega, v, hj, fun _ => rfl, fun z => by omega⟩
  | a :: l, 1, k, h => by
    rw [show e_lst x (a :: l) 1 k = e_lst x l 0 (fun l' => k (e_c1 a :: l')) from rfl] at h
    obtain ⟨l', h1, h2, h3, h4⟩ := e_lst_t h
    refine ⟨_, h1, by simp [h2], by simp; omega, fun j v hj => ?_⟩
    cases j with
    | zero =>
      simp only [List.getElem?_cons_zero, Option.some.injEq] at hj
      cases a with
      | none => cases hj
      | some u => exact Or.inr ⟨by omega, u, rfl, fun z => (z rfl).elim, fun _ => hj⟩
    | succ j =>
      rcases h4 j v hj with ⟨e1, e2⟩ | ⟨e1, u, e2, e3, e4⟩
      · exact Or.inl ⟨by omega, e2⟩
      · exact Or.inr ⟨by omega, u, e2, fun z => e3 (by omega), fun z => e4 (by omega)⟩
  | a :: l, n + 2, k, h => by
    rw [show e_lst x (a :: l) (n + 2) k = e_lst x l (n + 1) (fun l' => k (a :: l')) from rfl] at h
    obtain ⟨l', h1, h2, h3, h4⟩ := e_lst_t h
    refine ⟨_, h1, by simp [h2], by simp; omega, fun j v hj => ?_⟩
    cases j with
    | zero => exact Or.inr ⟨by omega, v, hj, fun _ => rfl, fun z => by omega⟩
    | succ j =>
      rcases h4 j v hj with ⟨e1, e2⟩ | ⟨e1, u, e2, e3, e4⟩
      · exact Or.inl ⟨by omega, e2⟩
      · exact Or.inr ⟨by omega, u, e2, fun z => e3 (by omega), fun z => e4 (by omega)⟩
end
section
/-! THE HEAP'S PICTURE, THE FRAME, AND THE OPERATIONS -/
def e_rat (rs : List (Nat × e_V)) (j : Nat) : Option e_V := e_rget rs j j
/-- what an array holds; tc: int, boolean, long, references -/
def e_arr (ad : Nat → Nat) (as : List Nat) (rs : List (Nat × e_V)) (tc : Nat) (f : (Nat → Int32) ⊕ (Nat → Int64) ⊕ (Nat → UInt32) ⊕ (Nat → UInt64) ⊕ (Nat → Option Nat)) : Prop := match tc, f with
  | 0, .inl f => ∀ (j : Nat) (v : e_V), e_rat rs j = some v → e_rel ad as v (.int (f j))
  | 1, .inl f => ∀ (j : Nat) (v : e_V), e_rat rs j = some v → e_rel ad as v (.int (f j))
  | 2, .inr (.inl f) => ∀ (j : Nat) (v : e_V), e_rat rs j = some v → e_rel ad as v (.long (f j))
  | _ + 3, .inr (.inr (.inr (.inr f))) => ∀ (j : Nat) (v : e_V), e_rat rs j = some v → e_rel ad as v (va_rf (f j))
  | _, _ => False
theorem e_arr_mono {ad : Nat → Nat} {as as' : List Nat} (hp : as <+: as') {rs : List (Nat × e_V)} : ∀ {tc : Nat} {f : (Nat → Int32) ⊕ (Nat → Int64) ⊕ (Nat → UInt32) ⊕ (Nat → UInt64) ⊕ (Nat → Option Nat)}, e_arr ad as rs tc f → e_arr ad as' rs tc f
  | 0, .inl _, h => fun j v hv => e_rel_mono (h j v hv) hp
  | 1, .inl _, h => fun j v hv => e_rel_mono (h j v hv) hp
  | 2, .inr (.inl _), h => fun j v hv => e_rel_mono (h j v hv) hp
  | _ + 3, .inr (.inr (.inr (.inr _))), h => fun j v hv => e_rel_mono (h j v hv) hp
  | 0, .inr _, h => h.elim
  | 1, .inr _, h => h.elim
  | 2, .inl _, h => h.elim
  | 2, .inr (.inr _), h => h.elim
  | _ + 3, .inl _, h => h.elim
  | _ + 3, .inr (.inl _), h => h.elim
  | _ + 3, .inr (.inr (.inl _)), h => h.elim
  | _ + 3, .inr (.inr (.inr (.inl _))), h => h.elim
/-- a cell of the picture, and one of the world -/
def e_ent (ad : Nat → Nat) (as : List Nat) (tys : List (ClassId × FieldType)) (x : e_C) (e : va_E) : Prop := match x, e with
  | .inl (ci, fs), .inr (cj, vs) => ci = cj ∧ fs.length = vs.length ∧ ∀ (k : Nat) (v : e_V), fs[k]? = some v → ∃ y, vs[k]? = some y ∧ e_rel ad as v y
  | .inr (tc, rs), .inl (cA, n, f) => (∃ ty, tys[tc]? = some (cA, ty)) ∧ n = e_rlen rs ∧ n < 2147483648 ∧ e_arr ad as rs tc f
  | _, _ => False
theorem e_ent_mono {ad : Nat → Nat} {as as' : List Nat} {tys : List (ClassId × FieldType)} (hp : as <+: as') : ∀ {x : e_C} {e : va_E}, e_ent ad as tys x e → e_ent ad as' tys x e
  | .inl (_, _), .inr (_, _), h => ⟨h.1, h.2.1, fun k v hv => by obtain ⟨y, a, b⟩ := h.2.2 k v hv; exact ⟨y, a, e_rel_mono b hp⟩⟩
  | .inr (_, _), .inl (_, _, _), h => ⟨h.1, h.2.1, h.2.2.1, e_arr_mono hp h.2.2.2⟩
  | .inl (_, _), .inl _, h => h.elim
  | .inr (_, _), .inr _, h => h.elim
def e_wk (ad : Nat → Nat) (as : List Nat) (tys : List (ClassId × FieldType)) (w : e_W) (n : Nat) (ws : va_W) : Prop :=
  ws.map (·.1) = as ∧ ws.length = n ∧ n ≤ 512 ∧ ∀ (i : Nat) (q : Nat × va_E), ws[i]? = some q → e_ent ad as tys (e_tget 9 w i) q.2
/-- the frame's picture: locals, stack, heap -/
def e_S (ad : Nat → Nat) (D : va_G) (cl : List vw_C) (tys : List (ClassId × FieldType)) (A : Nat → Prop) (H0 : Heap) (nL : Nat) (as0 : List Nat) (al : e_A) (st : List e_V) (w : e_W) (n : Nat) (as : List Nat) (ws : va_W) (H : Heap) (locs : List Loc) (ls : Array Slot) (ys : List Value) : Prop :=
  e_lo ad as al ls nL ∧ e_st ad as st ys ∧ e_wk ad as tys w n ws ∧ va_P D cl ws H ∧ va_D A ws ∧ va_S A H0 H locs ∧ as0 <+: as
section EO
variable {p : Program} {l : Launch} {e : Env} {R : Room} {s : State} {m : MethodId} {args : Array Value} {below : List Frame} {meth : Method} {cd : Code} {Q : State → Prop} {cc : ByteArray}
variable {ad : Nat → Nat} {D : va_G} {cl : List vw_C} {tys : List (ClassId × FieldType)} {A : Nat → Prop} {H0 : Heap} {nL : Nat} {as0 : List Nat}
/-- from each state of the picture the frame comes to Q -/
def e_WG (p : Program) (l : Launch) (e : Env) (R : Room) (s : State) (m : MethodId) (args : Array Value) (below : List Frame) (meth : Method) (cd : Code) (Q : State → Prop) (ad : Nat → Nat) (D : va_G) (cl : List vw_C) (tys : List (ClassId × FieldType)) (A : Nat → Prop) (H0 : Heap) (nL : Nat) (as0 : List Nat) (k0 s0 : Nat)
    (pc : Nat) (al : e_A) (st : List e_V) (w : e_W) (c : e_Q) : Prop :=
  ∀ (as : List Nat) (ws : va_W) (H : Heap) (locs : List Loc) (ls : Array Slot) (ys : List Value), e_S ad D cl tys A H0 nL as0 al st w c.1 as ws H locs ls ys →
    W p l e R s m args below meth cd H locs (c.2.1 - k0) (c.2.2 - s0) Q (F0 m pc ls ys)
variable {k0 s0 : Nat} {pc : Nat} {al : e_A} {st : List e_V} {w : e_W} {c : e_Q}
theorem e_iload {n nx : Nat} {v : e_V} (hx : p.tables.exec = Jvm.exec) (hb : cd.code = cc) {i : Instr} {len : Nat} (hd : decode cc pc = .ok (i, len)) (hnx : nx = pc + len) (hi : i = .iload n ∧ len = 2 ∨ (∃ k : Fin 4, k.val = n ∧ i = .iload_n k ∧ len = 1)) (hv : e_nth al n = some (some v)) (ok : e_okI v = true)
    (h : e_WG p l e R s m args below meth cd Q ad D cl tys A H0 nL as0 k0 s0 nx al (v :: st) w c) : e_WG p l e R s m args below meth cd Q ad D cl tys A H0 nL as0 k0 s0 pc al st w c := by
  intro as ws H locs ls ys hS
  obtain ⟨h1, h2, h3⟩ := hS
  obtain ⟨x, hl, hr⟩ := e_lo_at h1 hv
  obtain ⟨z, rfl⟩ := e_rel_I hr ok
  subst hnx
  rcases hi with ⟨rfl, rfl⟩ | ⟨k, hk, rfl, rfl⟩
  · exact lv_iload hx hb hd hl (h as ws H locs ls (.int z :: ys) ⟨h1, ⟨hr, h2⟩, h3⟩)
  · exact lv_iload_n hx hb hd hk hl (h as ws H locs ls (.int z :: ys) ⟨h1, ⟨hr, h2⟩, h3⟩)
theorem e_lload {n nx : Nat} {v : e_V} (hx : p.tables.exec = Jvm.exec) (hb : cd.code = cc) {i : Instr} {len : Nat} (hd : decode cc pc = .ok (i, len)) (hnx : nx = pc + len) (hi : i = .lload n ∧ len = 2 ∨ (∃ k : Fin 4, k.val = n ∧ i = .lload_n k ∧ len = 1)) (hv : e_nth al n = some (some v)) (ok : e_okL v = true)
    (h : e_WG p l e R s m args below meth cd Q ad D cl tys A H0 nL as0 k0 s0 nx al (v :: st) w c) : e_WG p l e R s m args below meth cd Q ad D cl tys A H0 nL as0 k0 s0 pc al st w c := by
  intro as ws H locs ls ys hS
  obtain ⟨h1, h2, h3⟩ := hS
  obtain ⟨x, hl, hr⟩ := e_lo_at h1 hv
  obtain ⟨z, rfl⟩ := e_rel_L hr ok
  subst hnx
  rcases hi with ⟨rfl, rfl⟩ | ⟨k, hk, rfl, rfl⟩
  · exact lv_lload hx hb hd hl (h as ws H locs ls (.long z :: ys) ⟨h1, ⟨hr, h2⟩, h3⟩)
  · exact lv_lload_n hx hb hd hk hl (h as ws H locs ls (.long z :: ys) ⟨h1, ⟨hr, h2⟩, h3⟩)
theorem e_aload {n nx : Nat} {v : e_V} (hx : p.tables.exec = Jvm.exec) (hb : cd.code = cc) {i : Instr} {len : Nat} (hd : decode cc pc = .ok (i, len)) (hnx : nx = pc + len) (hi : i = .aload n ∧ len = 2 ∨ (∃ k : Fin 4, k.val = n ∧ i = .aload_n k ∧ len = 1)) (hv : e_nth al n = some (some v)) (ok : e_okR v = true)
    (h : e_WG p l e R s m args below meth cd Q ad D cl tys A H0 nL as0 k0 s0 nx al (v :: st) w c) : e_WG p l e R s m args below meth cd Q ad D cl tys A H0 nL as0 k0 s0 pc al st w c := by
  intro as ws H locs ls ys hS
  obtain ⟨h1, h2, h3⟩ := hS
  obtain ⟨x, hl, hr⟩ := e_lo_at h1 hv
  subst hnx
  rcases hi with ⟨rfl, rfl⟩ | ⟨k, hk, rfl, rfl⟩ <;> rcases e_rel_R hr ok with rfl | ⟨a, rfl⟩
  · exact lv_aloadN hx hb hd hl (h as ws H locs ls (.null :: ys) ⟨h1, ⟨hr, h2⟩, h3⟩)
  · exact lv_aload hx hb hd hl (h as ws H locs ls (.ref a :: ys) ⟨h1, ⟨hr, h2⟩, h3⟩)
  · exact lv_aload_nN hx hb hd hk hl (h as ws H locs ls (.null :: ys) ⟨h1, ⟨hr, h2⟩, h3⟩)
  · exact lv_aload_n hx hb hd hk hl (h as ws H locs ls (.ref a :: ys) ⟨h1, ⟨hr, h2⟩, h3⟩)
/-- a store of one word -/
theorem e_lo_store {as : List Nat} {al al' : e_A} {ls ls' : Array Slot} {n : Nat} {v : e_V} {x : Value} {lv lv' : List (Nat × Value)} (hl : al.length = nL) (hr : e_rel ad as v x)
    (h3 : ∀ (i : Nat) (v : e_V), al[i]? = some (some v) → ∃ x, (i, x) ∈ lv ∧ e_rel ad as v x)
    (e1 : al'.length = al.length) (e2 : ∀ (j : Nat) (u : e_V), al'[j]? = some (some u) → (j = n ∧ some v = some u) ∨ (j ≠ n ∧ ∃ t, al[j]? = some (some t) ∧ (j + 1 ≠ n → t = u) ∧ (j + 1 = n → e_c1 (some t) = some u)))
    (hv : lv_has ls' nL lv') (hlv : (n, x) :: lv.filter (fun q => !(q.1 == n) && !(q.1 + 1 == n && q.2.category == 2)) = lv') : e_lo ad as al' ls' nL := by
  refine ⟨e1.trans hl, lv', hv, fun j u hj => ?_⟩
  subst hlv
  rcases e2 j u hj with ⟨rfl, e⟩ | ⟨hne, t, ht, f1, f2⟩
  · cases e
    exact ⟨x, List.mem_cons_self, hr⟩
  · obtain ⟨y, hy, hry⟩ := h3 j t ht
    by_cases hj1 : j + 1 = n
    · obtain ⟨rfl, hc⟩ := e_rel_1 hry (f2 hj1)
      exact ⟨y, List.mem_cons_of_mem _ (List.mem_filter.mpr ⟨hy, by simp [hne, hc]⟩), hry⟩
    · rw [← f1 hj1]
      exact ⟨y, List.mem_cons_of_mem _ (List.mem_filter.mpr ⟨hy, by simp [hne, hj1]⟩), hry⟩
theorem e_istore {n nx : Nat} {v : e_V} {al' : e_A} (hx : p.tables.exec = Jvm.exec) (hb : cd.code = cc) {i : Instr} {len : Nat} (hd : decode cc pc = .ok (i, len)) (hnx : nx = pc + len) (hi : i = .istore n ∧ len = 2 ∨ (∃ k : Fin 4, k.val = n ∧ i = .istore_n k ∧ len = 1)) (ok : e_okI v = true)
    (e1 : al'.length = al.length) (e3 : n < al.length) (e2 : ∀ (j : Nat) (u : e_V), al'[j]? = some (some u) → (j = n ∧ some v = some u) ∨ (j ≠ n ∧ ∃ t, al[j]? = some (some t) ∧ (j + 1 ≠ n → t = u) ∧ (j + 1 = n → e_c1 (some t) = some u)))
    (h : e_WG p l e R s m args below meth cd Q ad D cl tys A H0 nL as0 k0 s0 nx al' st w c) : e_WG p l e R s m args below meth cd Q ad D cl tys A H0 nL as0 k0 s0 pc al (v :: st) w c := by
  intro as ws H locs ls ys hS
  obtain ⟨⟨hl, lv, hlv, h3⟩, h2, h4⟩ := hS
  obtain ⟨x, ys, rfl, hr, h5⟩ := e_st_cons h2
  obtain ⟨z, rfl⟩ := e_rel_I hr ok
  subst hnx
  rcases hi with ⟨rfl, rfl⟩ | ⟨k, hk, rfl, rfl⟩
  · exact lv_istore hx hb hd hlv (by omega) rfl fun ls' hls' => h as ws H locs ls' ys ⟨e_lo_store (ls := ls) hl hr h3 e1 e2 hls' rfl, h5, h4⟩
  · exact lv_istore_n hx hb hd hk hlv (by omega) rfl fun ls' hls' => h as ws H locs ls' ys ⟨e_lo_store (ls := ls) hl hr h3 e1 e2 hls' rfl, h5, h4⟩
theorem e_astore {n nx : Nat} {v : e_V} {al' : e_A} (hx : p.tables.exec = Jvm.exec) (hb : cd.code = cc) {i : Instr} {len : Nat} (hd : decode cc pc = .ok (i, len)) (hnx : nx = pc + len) (hi : i = .astore n ∧ len = 2 ∨ (∃ k : Fin 4, k.val = n ∧ i = .astore_n k ∧ len = 1)) (ok : e_okR v = true)
    (e1 : al'.length = al.length) (e3 : n < al.length) (e2 : ∀ (j : Nat) (u : e_V), al'[j]? = some (some u) → (j = n ∧ some v = some u) ∨ (j ≠ n ∧ ∃ t, al[j]? = some (some t) ∧ (j + 1 ≠ n → t = u) ∧ (j + 1 = n → e_c1 (some t) = some u)))
    (h : e_WG p l e R s m args below meth cd Q ad D cl tys A H0 nL as0 k0 s0 nx al' st w c) : e_WG p l e R s m args below meth cd Q ad D cl tys A H0 nL as0 k0 s0 pc al (v :: st) w c := by
  intro as ws H locs ls ys hS
  obtain ⟨⟨hl, lv, hlv, h3⟩, h2, h4⟩ := hS
  obtain ⟨x, ys, rfl, hr, h5⟩ := e_st_cons h2
  subst hnx
  rcases hi with ⟨rfl, rfl⟩ | ⟨k, hk, rfl, rfl⟩ <;> rcases e_rel_R hr ok with rfl | ⟨a, rfl⟩
  · exact lv_astoreN hx hb hd hlv (by omega) rfl fun ls' hls' => h as ws H locs ls' ys ⟨e_lo_store (ls := ls) hl hr h3 e1 e2 hls' rfl, h5, h4⟩
  · exact lv_astore hx hb hd hlv (by omega) rfl fun ls' hls' => h as ws H locs ls' ys ⟨e_lo_store (ls := ls) hl hr h3 e1 e2 hls' rfl, h5, h4⟩
  · exact lv_astore_nN hx hb hd hk hlv (by omega) rfl fun ls' hls' => h as ws H locs ls' ys ⟨e_lo_store (ls := ls) hl hr h3 e1 e2 hls' rfl, h5, h4⟩
  · exact lv_astore_n hx hb hd hk hlv (by omega) rfl fun ls' hls' => h as ws H locs ls' ys ⟨e_lo_store (ls := ls) hl hr h3 e1 e2 hls' rfl, h5, h4⟩
/-- an instruction that changes the stack alone, or jumps -/
theorem e_pure {nx : Nat} {st' : List e_V} (hrow : ∀ (as : List Nat) (ys : List Value), e_st ad as st ys → ∃ ys', e_st ad as st' ys' ∧ ∀ (H : Heap) (locs : List Loc) (cells slots : Nat) (ls : Array Slot), W p l e R s m args below meth cd H locs cells slots Q (F0 m nx ls ys') → W p l e R s m args below meth cd H locs cells slots Q (F0 m pc ls ys))
    (h : e_WG p l e R s m args below meth cd Q ad D cl tys A H0 nL as0 k0 s0 nx al st' w c) : e_WG p l e R s m args below meth cd Q ad D cl tys A H0 nL as0 k0 s0 pc al st w c := by
  intro as ws H locs ls ys hS
  obtain ⟨h1, h2, h3⟩ := hS
  obtain ⟨ys', h4, h5⟩ := hrow as ys h2
  exact h5 _ _ _ _ _ (h as ws H locs ls ys' ⟨h1, h4, h3⟩)
theorem e_push1 {nx : Nat} {v : e_V} {x : Value} (hr : ∀ as, e_rel ad as v x) (hrow : ∀ (H : Heap) (locs : List Loc) (cells slots : Nat) (ls : Array Slot) (ys : List Value), W p l e R s m args below meth cd H locs cells slots Q (F0 m nx ls (x :: ys)) → W p l e R s m args below meth cd H locs cells slots Q (F0 m pc ls ys))
    (h : e_WG p l e R s m args below meth cd Q ad D cl tys A H0 nL as0 k0 s0 nx al (v :: st) w c) : e_WG p l e R s m args below meth cd Q ad D cl tys A H0 nL as0 k0 s0 pc al st w c := e_pure (st' := v :: st) (fun as ys h2 => ⟨x :: ys, ⟨hr as, h2⟩, fun H locs cells slots ls k => hrow H locs cells slots ls ys k⟩) h
theorem e_iconst {nx z : Nat} {n : Int} (hx : p.tables.exec = Jvm.exec) (hb : cd.code = cc) (hd : decode cc pc = .ok (.iconst n, 1)) (hnx : nx = pc + 1) (hz : Int32.ofInt n = e_i z ∧ z < 4294967296) (h : e_WG p l e R s m args below meth cd Q ad D cl tys A H0 nL as0 k0 s0 nx al (.inl z :: st) w c) : e_WG p l e R s m args below meth cd Q ad D cl tys A H0 nL as0 k0 s0 pc al st w c :=
  e_push1 (v := .inl z) (x := .int (e_i z)) (fun _ => ⟨hz.2, rfl⟩) (fun H locs cells slots ls ys k => by subst hnx; exact lv_iconst hx hb hd hz.1 k) h
theorem e_bipush {nx z : Nat} {n : Int} (hx : p.tables.exec = Jvm.exec) (hb : cd.code = cc) (hd : decode cc pc = .ok (.bipush n, 2)) (hnx : nx = pc + 2) (hz : (Int8.ofInt n).toInt32 = e_i z ∧ z < 4294967296) (h : e_WG p l e R s m args below meth cd Q ad D cl tys A H0 nL as0 k0 s0 nx al (.inl z :: st) w c) : e_WG p l e R s m args below meth cd Q ad D cl tys A H0 nL as0 k0 s0 pc al st w c :=
  e_push1 (v := .inl z) (x := .int (e_i z)) (fun _ => ⟨hz.2, rfl⟩) (fun H locs cells slots ls ys k => by subst hnx; exact lv_bipush hx hb hd hz.1 k) h
theorem e_sipush {nx z : Nat} {n : Int} (hx : p.tables.exec = Jvm.exec) (hb : cd.code = cc) (hd : decode cc pc = .ok (.sipush n, 3)) (hnx : nx = pc + 3) (hz : (Int16.ofInt n).toInt32 = e_i z ∧ z < 4294967296) (h : e_WG p l e R s m args below meth cd Q ad D cl tys A H0 nL as0 k0 s0 nx al (.inl z :: st) w c) : e_WG p l e R s m args below meth cd Q ad D cl tys A H0 nL as0 k0 s0 pc al st w c :=
  e_push1 (v := .inl z) (x := .int (e_i z)) (fun _ => ⟨hz.2, rfl⟩) (fun H locs cells slots ls ys k => by subst hnx; exact lv_sipush hx hb hd hz.1 k) h
theorem e_lconst {nx z : Nat} {n : Fin 2} (hx : p.tables.exec = Jvm.exec) (hb : cd.code = cc) (hd : decode cc pc = .ok (.lconst n, 1)) (hnx : nx = pc + 1) (hz : Int64.ofNat (n : Nat) = e_l z ∧ z < 18446744073709551616) (h : e_WG p l e R s m args below meth cd Q ad D cl tys A H0 nL as0 k0 s0 nx al (.inr (.inr (.inl z)) :: st) w c) : e_WG p l e R s m args below meth cd Q ad D cl tys A H0 nL as0 k0 s0 pc al st w c :=
  e_push1 (v := .inr (.inr (.inl z))) (x := .long (e_l z)) (fun _ => ⟨hz.2, rfl⟩) (fun H locs cells slots ls ys k => by subst hnx; exact lv_lconst hx hb hd hz.1 k) h
theorem e_ldc2 {nx z index : Nat} {own : String} {v : Int64} (hx : p.tables.exec = Jvm.exec) (hb : cd.code = cc) (hown : s.vm.findClass own = some m.cls) (hconst : (Jvm.Cond.constantLong own index v).before args s = true) (hd : decode cc pc = .ok (.ldc2_w index, 3)) (hnx : nx = pc + 3) (hz : v = e_l z ∧ z < 18446744073709551616) (h : e_WG p l e R s m args below meth cd Q ad D cl tys A H0 nL as0 k0 s0 nx al (.inr (.inr (.inl z)) :: st) w c) : e_WG p l e R s m args below meth cd Q ad D cl tys A H0 nL as0 k0 s0 pc al st w c :=
  e_push1 (v := .inr (.inr (.inl z))) (x := .long (e_l z)) (fun _ => ⟨hz.2, rfl⟩) (fun H locs cells slots ls ys k => by subst hnx; rw [← hz.1] at k; exact lv_ldc2 hx hb hown hconst hd k) h
theorem e_ldc {nx z index : Nat} {own : String} {v : Int32} (hx : p.tables.exec = Jvm.exec) (hb : cd.code = cc) (hown : s.vm.findClass own = some m.cls) (hconst : (Jvm.Cond.constant own index v).before args s = true) (hd : decode cc pc = .ok (.ldc index, 2)) (hnx : nx = pc + 2) (hz : v = e_i z ∧ z < 4294967296) (h : e_WG p l e R s m args below meth cd Q ad D cl tys A H0 nL as0 k0 s0 nx al (.inl z :: st) w c) : e_WG p l e R s m args below meth cd Q ad D cl tys A H0 nL as0 k0 s0 pc al st w c :=
  e_push1 (v := .inl z) (x := .int (e_i z)) (fun _ => ⟨hz.2, rfl⟩) (fun H locs cells slots ls ys k => by subst hnx; rw [← hz.1] at k; exact lv_ldc hx hb hown hconst hd k) h
theorem e_null {nx : Nat} (hx : p.tables.exec = Jvm.exec) (hb : cd.code = cc) (hd : decode cc pc = .ok (.aconst_null, 1)) (hnx : nx = pc + 1) (h : e_WG p l e R s m args below meth cd Q ad D cl tys A H0 nL as0 k0 s0 nx al (.inr (.inl none) :: st) w c) : e_WG p l e R s m args below meth cd Q ad D cl tys A H0 nL as0 k0 s0 pc al st w c :=
  e_push1 (v := .inr (.inl none)) (x := .null) (fun _ => rfl) (fun H locs cells slots ls ys k => by subst hnx; exact lv_null hx hb hd k) h
theorem e_is1_t {as : List Nat} {v : e_V} {x : Value} (h : e_rel ad as v x) (h1 : e_is1 v = true) : x.category = 1 := by
  unfold e_is1 at h1
  split at h1
  · next u hu => exact (e_rel_1 h hu).2
  · cases h1
theorem e_dup {nx : Nat} {v : e_V} {r : List e_V} (hx : p.tables.exec = Jvm.exec) (hb : cd.code = cc) (hd : decode cc pc = .ok (.dup, 1)) (hnx : nx = pc + 1) (h1 : e_is1 v = true) (h : e_WG p l e R s m args below meth cd Q ad D cl tys A H0 nL as0 k0 s0 nx al (v :: v :: r) w c) : e_WG p l e R s m args below meth cd Q ad D cl tys A H0 nL as0 k0 s0 pc al (v :: r) w c :=
  e_pure (st' := v :: v :: r) (fun as ys h2 => by
    obtain ⟨x, y, rfl, a, b⟩ := e_st_cons h2
    exact ⟨x :: x :: y, ⟨a, a, b⟩, fun H locs cells slots ls k => by subst hnx; exact lv_dup hx hb hd (e_is1_t a h1) k⟩) h
theorem e_dup_x1 {nx : Nat} {v u : e_V} {r : List e_V} (hx : p.tables.exec = Jvm.exec) (hb : cd.code = cc) (hd : decode cc pc = .ok (.dup_x1, 1)) (hnx : nx = pc + 1) (h1 : e_is1 v = true) (h6 : e_is1 u = true) (h : e_WG p l e R s m args below meth cd Q ad D cl tys A H0 nL as0 k0 s0 nx al (v :: u :: v :: r) w c) : e_WG p l e R s m args below meth cd Q ad D cl tys A H0 nL as0 k0 s0 pc al (v :: u :: r) w c :=
  e_pure (st' := v :: u :: v :: r) (fun as ys h2 => by
    obtain ⟨x, y, rfl, a, h2⟩ := e_st_cons h2
    obtain ⟨x2, y, rfl, a2, b⟩ := e_st_cons h2
    exact ⟨x :: x2 :: x :: y, ⟨a, a2, a, b⟩, fun H locs cells slots ls k => by subst hnx; exact lv_dup_x1 hx hb hd (e_is1_t a h1) (e_is1_t a2 h6) k⟩) h
theorem e_dup2 {nx : Nat} {v u : e_V} {r : List e_V} (hx : p.tables.exec = Jvm.exec) (hb : cd.code = cc) (hd : decode cc pc = .ok (.dup2, 1)) (hnx : nx = pc + 1) (h1 : e_is1 v = true) (h6 : e_is1 u = true) (h : e_WG p l e R s m args below meth cd Q ad D cl tys A H0 nL as0 k0 s0 nx al (v :: u :: v :: u :: r) w c) : e_WG p l e R s m args below meth cd Q ad D cl tys A H0 nL as0 k0 s0 pc al (v :: u :: r) w c :=
  e_pure (st' := v :: u :: v :: u :: r) (fun as ys h2 => by
    obtain ⟨x, y, rfl, a, h2⟩ := e_st_cons h2
    obtain ⟨x2, y, rfl, a2, b⟩ := e_st_cons h2
    exact ⟨x :: x2 :: x :: x2 :: y, ⟨a, a2, a, a2, b⟩, fun H locs cells slots ls k => by subst hnx; exact lv_dup2_11 hx hb hd (e_is1_t a h1) (e_is1_t a2 h6) k⟩) h
theorem e_pop {nx : Nat} {v : e_V} {r : List e_V} (hx : p.tables.exec = Jvm.exec) (hb : cd.code = cc) (hd : decode cc pc = .ok (.pop, 1)) (hnx : nx = pc + 1) (h1 : e_is1 v = true) (h : e_WG p l e R s m args below meth cd Q ad D cl tys A H0 nL as0 k0 s0 nx al r w c) : e_WG p l e R s m args below meth cd Q ad D cl tys A H0 nL as0 k0 s0 pc al (v :: r) w c :=
  e_pure (st' := r) (fun as ys h2 => by
    obtain ⟨x, y, rfl, a, b⟩ := e_st_cons h2
    exact ⟨y, b, fun H locs cells slots ls k => by subst hnx; exact lv_pop hx hb hd (e_is1_t a h1) k⟩) h
/-- two ints that give one -/
theorem e_b2 {nx : Nat} {a b v : e_V} {r : List e_V} (g : Int32 → Int32 → Int32) (hg : ∀ as x y, e_rel ad as a x → e_rel ad as b y → ∃ x1 y1, x = .int x1 ∧ y = .int y1 ∧ e_rel ad as v (.int (g x1 y1)))
    (hrow : ∀ (x y : Int32), (∃ as, e_rel ad as b (.int y)) → ∀ (H : Heap) (locs : List Loc) (cells slots : Nat) (ls : Array Slot) (ys : List Value), W p l e R s m args below meth cd H locs cells slots Q (F0 m nx ls (.int (g x y) :: ys)) → W p l e R s m args below meth cd H locs cells slots Q (F0 m pc ls (.int y :: .int x :: ys)))
    (h : e_WG p l e R s m args below meth cd Q ad D cl tys A H0 nL as0 k0 s0 nx al (v :: r) w c) : e_WG p l e R s m args below meth cd Q ad D cl tys A H0 nL as0 k0 s0 pc al (b :: a :: r) w c :=
  e_pure (st' := v :: r) (fun as ys h2 => by
    obtain ⟨y, ys, rfl, hy, h3⟩ := e_st_cons h2
    obtain ⟨x, ys, rfl, hx, h4⟩ := e_st_cons h3
    obtain ⟨x1, y1, rfl, rfl, hv⟩ := hg as x y hx hy
    exact ⟨.int (g x1 y1) :: ys, ⟨hv, h4⟩, fun H locs cells slots ls k => hrow x1 y1 ⟨as, hy⟩ H locs cells slots ls ys k⟩) h
theorem e_b2L {nx : Nat} {a b v : e_V} {r : List e_V} (g : Int64 → Int64 → Int64) (hg : ∀ as x y, e_rel ad as a x → e_rel ad as b y → ∃ x1 y1, x = .long x1 ∧ y = .long y1 ∧ e_rel ad as v (.long (g x1 y1)))
    (hrow : ∀ (x y : Int64), (∃ as, e_rel ad as b (.long y)) → ∀ (H : Heap) (locs : List Loc) (cells slots : Nat) (ls : Array Slot) (ys : List Value), W p l e R s m args below meth cd H locs cells slots Q (F0 m nx ls (.long (g x y) :: ys)) → W p l e R s m args below meth cd H locs cells slots Q (F0 m pc ls (.long y :: .long x :: ys)))
    (h : e_WG p l e R s m args below meth cd Q ad D cl tys A H0 nL as0 k0 s0 nx al (v :: r) w c) : e_WG p l e R s m args below meth cd Q ad D cl tys A H0 nL as0 k0 s0 pc al (b :: a :: r) w c :=
  e_pure (st' := v :: r) (fun as ys h2 => by
    obtain ⟨y, ys, rfl, hy, h3⟩ := e_st_cons h2
    obtain ⟨x, ys, rfl, hx, h4⟩ := e_st_cons h3
    obtain ⟨x1, y1, rfl, rfl, hv⟩ := hg as x y hx hy
    exact ⟨.long (g x1 y1) :: ys, ⟨hv, h4⟩, fun H locs cells slots ls k => hrow x1 y1 ⟨as, hy⟩ H locs cells slots ls ys k⟩) h
theorem e_u1 {nx : Nat} {a v : e_V} {r : List e_V} (hg : ∀ as x, e_rel ad as a x → ∃ x2, e_rel ad as v x2 ∧ ∀ (H : Heap) (locs : List Loc) (cells slots : Nat) (ls : Array Slot) (ys : List Value), W p l e R s m args below meth cd H locs cells slots Q (F0 m nx ls (x2 :: ys)) → W p l e R s m args below meth cd H locs cells slots Q (F0 m pc ls (x :: ys)))
    (h : e_WG p l e R s m args below meth cd Q ad D cl tys A H0 nL as0 k0 s0 nx al (v :: r) w c) : e_WG p l e R s m args below meth cd Q ad D cl tys A H0 nL as0 k0 s0 pc al (a :: r) w c :=
  e_pure (st' := v :: r) (fun as ys h2 => by
    obtain ⟨x, ys, rfl, hx, h2⟩ := e_st_cons h2
    obtain ⟨x2, hv, hr⟩ := hg as x hx
    exact ⟨x2 :: ys, ⟨hv, h2⟩, fun H locs cells slots ls k => hr H locs cells slots ls ys k⟩) h
theorem e_iadd {nx : Nat} {a b v : e_V} {r : List e_V} (hx : p.tables.exec = Jvm.exec) (hb : cd.code = cc) (hd : decode cc pc = .ok (.iadd, 1)) (hnx : nx = pc + 1) (hg : ∀ as x y, e_rel ad as a x → e_rel ad as b y → ∃ x1 y1, x = .int x1 ∧ y = .int y1 ∧ e_rel ad as v (.int ((fun x y : Int32 => x + y) x1 y1))) (h : e_WG p l e R s m args below meth cd Q ad D cl tys A H0 nL as0 k0 s0 nx al (v :: r) w c) : e_WG p l e R s m args below meth cd Q ad D cl tys A H0 nL as0 k0 s0 pc al (b :: a :: r) w c :=
  e_b2 (fun x y : Int32 => x + y) hg (fun x y _ H locs cells slots ls ys k => by subst hnx; exact lv_iadd hx hb hd k) h
theorem e_isub {nx : Nat} {a b v : e_V} {r : List e_V} (hx : p.tables.exec = Jvm.exec) (hb : cd.code = cc) (hd : decode cc pc = .ok (.isub, 1)) (hnx : nx = pc + 1) (hg : ∀ as x y, e_rel ad as a x → e_rel ad as b y → ∃ x1 y1, x = .int x1 ∧ y = .int y1 ∧ e_rel ad as v (.int ((fun x y : Int32 => x - y) x1 y1))) (h : e_WG p l e R s m args below meth cd Q ad D cl tys A H0 nL as0 k0 s0 nx al (v :: r) w c) : e_WG p l e R s m args below meth cd Q ad D cl tys A H0 nL as0 k0 s0 pc al (b :: a :: r) w c :=
  e_b2 (fun x y : Int32 => x - y) hg (fun x y _ H locs cells slots ls ys k => by subst hnx; exact lv_isub hx hb hd k) h
theorem e_imul {nx : Nat} {a b v : e_V} {r : List e_V} (hx : p.tables.exec = Jvm.exec) (hb : cd.code = cc) (hd : decode cc pc = .ok (.imul, 1)) (hnx : nx = pc + 1) (hg : ∀ as x y, e_rel ad as a x → e_rel ad as b y → ∃ x1 y1, x = .int x1 ∧ y = .int y1 ∧ e_rel ad as v (.int ((fun x y : Int32 => x * y) x1 y1))) (h : e_WG p l e R s m args below meth cd Q ad D cl tys A H0 nL as0 k0 s0 nx al (v :: r) w c) : e_WG p l e R s m args below meth cd Q ad D cl tys A H0 nL as0 k0 s0 pc al (b :: a :: r) w c :=
  e_b2 (fun x y : Int32 => x * y) hg (fun x y _ H locs cells slots ls ys k => by subst hnx; exact lv_imul hx hb hd k) h
theorem e_iand {nx : Nat} {a b v : e_V} {r : List e_V} (hx : p.tables.exec = Jvm.exec) (hb : cd.code = cc) (hd : decode cc pc = .ok (.iand, 1)) (hnx : nx = pc + 1) (hg : ∀ as x y, e_rel ad as a x → e_rel ad as b y → ∃ x1 y1, x = .int x1 ∧ y = .int y1 ∧ e_rel ad as v (.int ((fun x y : Int32 => x &&& y) x1 y1))) (h : e_WG p l e R s m args below meth cd Q ad D cl tys A H0 nL as0 k0 s0 nx al (v :: r) w c) : e_WG p l e R s m args below meth cd Q ad D cl tys A H0 nL as0 k0 s0 pc al (b :: a :: r) w c :=
  e_b2 (fun x y : Int32 => x &&& y) hg (fun x y _ H locs cells slots ls ys k => by subst hnx; exact lv_iand hx hb hd k) h
theorem e_ior {nx : Nat} {a b v : e_V} {r : List e_V} (hx : p.tables.exec = Jvm.exec) (hb : cd.code = cc) (hd : decode cc pc = .ok (.ior, 1)) (hnx : nx = pc + 1) (hg : ∀ as x y, e_rel ad as a x → e_rel ad as b y → ∃ x1 y1, x = .int x1 ∧ y = .int y1 ∧ e_rel ad as v (.int ((fun x y : Int32 => x ||| y) x1 y1))) (h : e_WG p l e R s m args below meth cd Q ad D cl tys A H0 nL as0 k0 s0 nx al (v :: r) w c) : e_WG p l e R s m args below meth cd Q ad D cl tys A H0 nL as0 k0 s0 pc al (b :: a :: r) w c :=
  e_b2 (fun x y : Int32 => x ||| y) hg (fun x y _ H locs cells slots ls ys k => by subst hnx; exact lv_ior hx hb hd k) h
theorem e_ixor {nx : Nat} {a b v : e_V} {r : List e_V} (hx : p.tables.exec = Jvm.exec) (hb : cd.code = cc) (hd : decode cc pc = .ok (.ixor, 1)) (hnx : nx = pc + 1) (hg : ∀ as x y, e_rel ad as a x → e_rel ad as b y → ∃ x1 y1, x = .int x1 ∧ y = .int y1 ∧ e_rel ad as v (.int ((fun x y : Int32 => x ^^^ y) x1 y1))) (h : e_WG p l e R s m args below meth cd Q ad D cl tys A H0 nL as0 k0 s0 nx al (v :: r) w c) : e_WG p l e R s m args below meth cd Q ad D cl tys A H0 nL as0 k0 s0 pc al (b :: a :: r) w c :=
  e_b2 (fun x y : Int32 => x ^^^ y) hg (fun x y _ H locs cells slots ls ys k => by subst hnx; exact lv_ixor hx hb hd k) h
theorem e_ishl {nx : Nat} {a b v : e_V} {r : List e_V} (hx : p.tables.exec = Jvm.exec) (hb : cd.code = cc) (hd : decode cc pc = .ok (.ishl, 1)) (hnx : nx = pc + 1) (hg : ∀ as x y, e_rel ad as a x → e_rel ad as b y → ∃ x1 y1, x = .int x1 ∧ y = .int y1 ∧ e_rel ad as v (.int ((fun x y : Int32 => x <<< (y &&& 31)) x1 y1))) (h : e_WG p l e R s m args below meth cd Q ad D cl tys A H0 nL as0 k0 s0 nx al (v :: r) w c) : e_WG p l e R s m args below meth cd Q ad D cl tys A H0 nL as0 k0 s0 pc al (b :: a :: r) w c :=
  e_b2 (fun x y : Int32 => x <<< (y &&& 31)) hg (fun x y _ H locs cells slots ls ys k => by subst hnx; exact lv_ishl hx hb hd k) h
theorem e_ishr {nx : Nat} {a b v : e_V} {r : List e_V} (hx : p.tables.exec = Jvm.exec) (hb : cd.code = cc) (hd : decode cc pc = .ok (.ishr, 1)) (hnx : nx = pc + 1) (hg : ∀ as x y, e_rel ad as a x → e_rel ad as b y → ∃ x1 y1, x = .int x1 ∧ y = .int y1 ∧ e_rel ad as v (.int ((fun x y : Int32 => x >>> (y &&& 31)) x1 y1))) (h : e_WG p l e R s m args below meth cd Q ad D cl tys A H0 nL as0 k0 s0 nx al (v :: r) w c) : e_WG p l e R s m args below meth cd Q ad D cl tys A H0 nL as0 k0 s0 pc al (b :: a :: r) w c :=
  e_b2 (fun x y : Int32 => x >>> (y &&& 31)) hg (fun x y _ H locs cells slots ls ys k => by subst hnx; exact lv_ishr hx hb hd k) h
theorem e_iushr {nx : Nat} {a b v : e_V} {r : List e_V} (hx : p.tables.exec = Jvm.exec) (hb : cd.code = cc) (hd : decode cc pc = .ok (.iushr, 1)) (hnx : nx = pc + 1) (hg : ∀ as x y, e_rel ad as a x → e_rel ad as b y → ∃ x1 y1, x = .int x1 ∧ y = .int y1 ∧ e_rel ad as v (.int ((fun x y : Int32 => (x.toUInt32 >>> (y.toUInt32 &&& Int32.toUInt32 31)).toInt32) x1 y1))) (h : e_WG p l e R s m args below meth cd Q ad D cl tys A H0 nL as0 k0 s0 nx al (v :: r) w c) : e_WG p l e R s m args below meth cd Q ad D cl tys A H0 nL as0 k0 s0 pc al (b :: a :: r) w c :=
  e_b2 (fun x y : Int32 => (x.toUInt32 >>> (y.toUInt32 &&& Int32.toUInt32 31)).toInt32) hg (fun x y _ H locs cells slots ls ys k => by subst hnx; exact lv_iushr hx hb hd rfl k) h
theorem e_idiv {nx : Nat} {a b v : e_V} {r : List e_V} (hx : p.tables.exec = Jvm.exec) (hb : cd.code = cc) (hd : decode cc pc = .ok (.idiv, 1)) (hnx : nx = pc + 1) (h0 : ∀ as y, e_rel ad as b (.int y) → ¬ y = 0) (hg : ∀ as x y, e_rel ad as a x → e_rel ad as b y → ∃ x1 y1, x = .int x1 ∧ y = .int y1 ∧ e_rel ad as v (.int ((fun x y : Int32 => x / y) x1 y1))) (h : e_WG p l e R s m args below meth cd Q ad D cl tys A H0 nL as0 k0 s0 nx al (v :: r) w c) : e_WG p l e R s m args below meth cd Q ad D cl tys A H0 nL as0 k0 s0 pc al (b :: a :: r) w c :=
  e_b2 (fun x y : Int32 => x / y) hg (fun x y hy H locs cells slots ls ys k => by subst hnx; obtain ⟨as, hy⟩ := hy; exact lv_idiv hx hb hd (h0 as y hy) k) h
theorem e_irem {nx : Nat} {a b v : e_V} {r : List e_V} (hx : p.tables.exec = Jvm.exec) (hb : cd.code = cc) (hd : decode cc pc = .ok (.irem, 1)) (hnx : nx = pc + 1) (h0 : ∀ as y, e_rel ad as b (.int y) → ¬ y = 0) (hg : ∀ as x y, e_rel ad as a x → e_rel ad as b y → ∃ x1 y1, x = .int x1 ∧ y = .int y1 ∧ e_rel ad as v (.int ((fun x y : Int32 => x - x / y * y) x1 y1))) (h : e_WG p l e R s m args below meth cd Q ad D cl tys A H0 nL as0 k0 s0 nx al (v :: r) w c) : e_WG p l e R s m args below meth cd Q ad D cl tys A H0 nL as0 k0 s0 pc al (b :: a :: r) w c :=
  e_b2 (fun x y : Int32 => x - x / y * y) hg (fun x y hy H locs cells slots ls ys k => by subst hnx; obtain ⟨as, hy⟩ := hy; exact lv_irem hx hb hd (h0 as y hy) k) h
theorem e_ladd {nx : Nat} {a b v : e_V} {r : List e_V} (hx : p.tables.exec = Jvm.exec) (hb : cd.code = cc) (hd : decode cc pc = .ok (.ladd, 1)) (hnx : nx = pc + 1) (hg : ∀ as x y, e_rel ad as a x → e_rel ad as b y → ∃ x1 y1, x = .long x1 ∧ y = .long y1 ∧ e_rel ad as v (.long ((fun x y : Int64 => x + y) x1 y1))) (h : e_WG p l e R s m args below meth cd Q ad D cl tys A H0 nL as0 k0 s0 nx al (v :: r) w c) : e_WG p l e R s m args below meth cd Q ad D cl tys A H0 nL as0 k0 s0 pc al (b :: a :: r) w c :=
  e_b2L (fun x y : Int64 => x + y) hg (fun x y _ H locs cells slots ls ys k => by subst hnx; exact lv_ladd hx hb hd k) h
theorem e_lsub {nx : Nat} {a b v : e_V} {r : List e_V} (hx : p.tables.exec = Jvm.exec) (hb : cd.code = cc) (hd : decode cc pc = .ok (.lsub, 1)) (hnx : nx = pc + 1) (hg : ∀ as x y, e_rel ad as a x → e_rel ad as b y → ∃ x1 y1, x = .long x1 ∧ y = .long y1 ∧ e_rel ad as v (.long ((fun x y : Int64 => x - y) x1 y1))) (h : e_WG p l e R s m args below meth cd Q ad D cl tys A H0 nL as0 k0 s0 nx al (v :: r) w c) : e_WG p l e R s m args below meth cd Q ad D cl tys A H0 nL as0 k0 s0 pc al (b :: a :: r) w c :=
  e_b2L (fun x y : Int64 => x - y) hg (fun x y _ H locs cells slots ls ys k => by subst hnx; exact lv_lsub hx hb hd k) h
theorem e_lmul {nx : Nat} {a b v : e_V} {r : List e_V} (hx : p.tables.exec = Jvm.exec) (hb : cd.code = cc) (hd : decode cc pc = .ok (.lmul, 1)) (hnx : nx = pc + 1) (hg : ∀ as x y, e_rel ad as a x → e_rel ad as b y → ∃ x1 y1, x = .long x1 ∧ y = .long y1 ∧ e_rel ad as v (.long ((fun x y : Int64 => x * y) x1 y1))) (h : e_WG p l e R s m args below meth cd Q ad D cl tys A H0 nL as0 k0 s0 nx al (v :: r) w c) : e_WG p l e R s m args below meth cd Q ad D cl tys A H0 nL as0 k0 s0 pc al (b :: a :: r) w c :=
  e_b2L (fun x y : Int64 => x * y) hg (fun x y _ H locs cells slots ls ys k => by subst hnx; exact lv_lmul hx hb hd k) h
theorem e_ldiv {nx : Nat} {a b v : e_V} {r : List e_V} (hx : p.tables.exec = Jvm.exec) (hb : cd.code = cc) (hd : decode cc pc = .ok (.ldiv, 1)) (hnx : nx = pc + 1) (h0 : ∀ as y, e_rel ad as b (.long y) → ¬ y = 0) (hg : ∀ as x y, e_rel ad as a x → e_rel ad as b y → ∃ x1 y1, x = .long x1 ∧ y = .long y1 ∧ e_rel ad as v (.long ((fun x y : Int64 => x / y) x1 y1))) (h : e_WG p l e R s m args below meth cd Q ad D cl tys A H0 nL as0 k0 s0 nx al (v :: r) w c) : e_WG p l e R s m args below meth cd Q ad D cl tys A H0 nL as0 k0 s0 pc al (b :: a :: r) w c :=
  e_b2L (fun x y : Int64 => x / y) hg (fun x y hy H locs cells slots ls ys k => by subst hnx; obtain ⟨as, hy⟩ := hy; exact lv_ldiv hx hb hd (h0 as y hy) k) h
end EO
end
section
section SN
/-! THE FRAME'S CONTEXT; what an evaluation says of the machine -/
def e_fcs : List (List (Nat × e_V)) := [[(1, e_I 2147483648), (2, e_I 2147484160), (1, e_I 2147483648)], [(2, e_I 2147483648), (2, e_I 2147484160)], []]
def e_sv : List (String × String × String × Nat) := [("Plateroomprinter", "PAGE_XS", "[I", 1), ("Plateroomprinter", "PAGE_YS", "[I", 2), ("java/util/ArrayList", "DEFAULTCAPACITY_EMPTY_ELEMENTDATA", "[Ljava/lang/Object;", 3), ("java/lang/Integer$IntegerCache", "cache", "[Ljava/lang/Integer;", 260)]
def e_xs : List String := ["java/lang/IllegalArgumentException", "java/lang/IllegalStateException", "java/lang/IndexOutOfBoundsException"]
def e_xn (E : Nat) : Option String := e_xs[E]?
def e_A0 (base : Nat) : Nat → Prop := fun q => base ≤ q
/-- the cells that aren't ours, and the static fields that lead to them -/
def e_sf (F : e_F) (ad : Nat → Nat) (base : Nat) (s : State) (H : Heap) : Prop :=
  (∀ k, k ≤ e_fcs.length → ∃ (ty : FieldType) (f : Nat → Value), (k < 3 → ty = .int) ∧ va_T ty (ad k) (e_rlen (e_fc e_fcs F k)) f (e_A0 base) s H ∧ ∀ (j : Nat) (v : e_V), e_rat (e_fc e_fcs F k) j = some v → e_rel ad [] v (f j)) ∧
  (∀ q ∈ e_sv, va_Z q.1 q.2.1 q.2.2.1 (.ref (ad q.2.2.2)) (e_A0 base) s H) ∧ vx_Zq Bundle.tN "UNASSIGNED_STACK" Bundle.steD (e_A0 base) s H ∧ vx_Zq Bundle.tN "SUPPRESSED_SENTINEL" Bundle.listD (e_A0 base) s H ∧
  vb_C (fun j => ad (j + 4)) (e_A0 base) s H ∧ va_T (.object "java/lang/Integer") (ad 260) 256 (fun j => .ref (ad (j + 4))) (e_A0 base) s H ∧ va_Z "java/lang/Integer$IntegerCache" "high" "I" (.int 127) (e_A0 base) s H ∧ va_Mi "[Ljava/lang/Object;" (ad 261) s
/-- what the tables say, of the classes and the method M -/
def e_Kx (D : va_G) (tys : List (ClassId × FieldType)) (s : State) : Prop := va_K D e_cl tys s ∧ tys.map (·.2) = e_kt ∧ (∀ w ∈ e_nw, va_Nw w s) ∧ (∀ q ∈ e_sr, ∃ sa, vk_R q.1 q.2.1 q.2.2 sa s) ∧ (∀ q ∈ e_nc, va_Nc q.1 q.2 s) ∧ ∀ q ∈ e_fw, va_Fw q.1 q.2.1 q.2.2 s
/-- the exception table, as the words have it -/
def e_Et (y : MethodName) (cd : Code) : Prop := (∀ (b : ByteArray) (mL : Nat) (rt : Option FieldType), Jvm.Cond.code y b mL rt ∈ e_ws → cd.exceptionTable.toList = []) ∧ ∀ (b : ByteArray) (mL : Nat) (rt : Option FieldType) (hh : List (Nat × Nat × Nat × Nat)), Jvm.Cond.codeWith y b mL rt hh ∈ e_ws → cd.exceptionTable.toList = tableOf hh
def e_Cx (F : e_F) (p : Program) (l : Launch) (s : State) (m : MethodId) (args : Array Value) (meth : Method) (cd : Code) (ad : Nat → Nat) (D : va_G) (tys : List (ClassId × FieldType)) (base nL : Nat) : Prop :=
  l.flags = flags0 ∧ p.tables.exec = Jvm.exec ∧ meth.locks = false ∧ (∀ w ∈ e_ws, w.before args s = true) ∧ e_Kx D tys s ∧ base ≤ s.heap.size ∧ e_sf F ad base s s.heap ∧
  ∃ q, e_ml[F.1]? = some q ∧ cd.code = q.2.1 ∧ cd.maxLocals = nL ∧ q.2.2.1 = nL ∧ s.vm.findClass q.1.cls = some m.cls ∧ meth.sig.returnType = q.2.2.2 ∧ meth.name = q.1.name ∧ e_Et q.1 cd
abbrev e_wg (p : Program) (l : Launch) (e : Env) (R : Room) (s : State) (m : MethodId) (args : Array Value) (below : List Frame) (meth : Method) (cd : Code) (Q : State → Prop) (ad : Nat → Nat) (D : va_G) (tys : List (ClassId × FieldType)) (base nL : Nat) (as0 : List Nat) (k0 s0 : Nat) (pc : Nat) (al : e_A) (st : List e_V) (w : e_W) (c : e_Q) : Prop := e_WG p l e R s m args below meth cd Q ad D e_cl tys (e_A0 base) s.heap nL as0 k0 s0 pc al st w c
/-- the heap's part of a state -/
def e_H (ad : Nat → Nat) (D : va_G) (tys : List (ClassId × FieldType)) (A : Nat → Prop) (H0 : Heap) (as0 : List Nat) (w : e_W) (n : Nat) (as : List Nat) (ws : va_W) (H : Heap) (locs : List Loc) : Prop :=
  e_wk ad as tys w n ws ∧ va_P D e_cl ws H ∧ va_D A ws ∧ va_S A H0 H locs ∧ as0 <+: as
def e_nm : List String := ["java/lang/RuntimeException", "java/lang/Exception"]
/-- a throw of X at pc: 'new; dup; ldc; invokespecial; athrow', its words and its room -/
def e_Th (l : Launch) (R : Room) (s : State) (m : MethodId) (args : Array Value) (cd : Code) (X : String) (pc : Nat) (ls : Array Slot) (ys : List Value) : Prop := ∃ (own text : String) (ik is ic sa : Nat), s.vm.findClass own = some m.cls ∧ Bundle.fit X = true ∧ (Cond.classLink own ik X).before args s = true ∧ (Cond.initialized X).before args s = true ∧ vk_R own is text sa s ∧ (∀ w ∈ vx_atS own ic X e_nm, w.before args s = true) ∧ (∀ w ∈ Cond.classLink own ik X :: Cond.initialized X :: vx_atS own ic X e_nm, vx_ot w = true) ∧
  decode cd.code pc = .ok (.new ik, 3) ∧ decode cd.code (pc + 3) = .ok (.dup, 1) ∧ (decode cd.code (pc + 4) = .ok (.ldc is, 2) ∧ decode cd.code (pc + 6) = .ok (.invokespecial ic, 3) ∧ decode cd.code (pc + 9) = .ok (.athrow, 1) ∨ decode cd.code (pc + 4) = .ok (.ldc_w is, 3) ∧ decode cd.code (pc + 7) = .ok (.invokespecial ic, 3) ∧ decode cd.code (pc + 10) = .ok (.athrow, 1)) ∧ cd.exceptionTable.toList = [] ∧ ls.size = cd.maxLocals ∧ (ys.map fun v => v.category).sum ≤ 8 ∧ 5 < R.frames ∧ 90 ≤ R.locals
/-- a place of the law where the walk is cut: the place, the locals, the stack -/
def e_spP : Nat := 36
def e_spA : e_A := [some (e_B 0), some (e_R 0), some (e_R 331), some (e_R 349), some (e_I 2147483648), none, none]
def e_spS : List e_V := [e_I 2147483648, e_B 0]
/-- what is owed where the frame ends with z (1000: it stands at the cut) -/
def e_En (p : Program) (l : Launch) (e : Env) (R : Room) (s : State) (m : MethodId) (args : Array Value) (below : List Frame) (meth : Method) (cd : Code) (Q : State → Prop) (ad : Nat → Nat) (D : va_G) (tys : List (ClassId × FieldType)) (base nL : Nat) (as0 : List Nat) (k0 s0 : Nat) (z : e_Z) (w : e_W) (c : e_Q) : Prop := ∀ (as : List Nat) (ws : va_W) (H : Heap) (locs : List Loc), e_H ad D tys (e_A0 base) s.heap as0 w c.1 as ws H locs → match z with
  | .inl (some v) => ∀ (pc : Nat) (ls : Array Slot) (x : Value), e_rel ad as v x → ((∃ y, x = .int y ∧ (meth.sig.returnType = some .int ∨ meth.sig.returnType = some .boolean ∧ (y = 0 ∨ y = 1))) ∧ decode cd.code pc = .ok (.ireturn, 1) ∨ (∃ y, x = .long y ∧ meth.sig.returnType = some .long) ∧ decode cd.code pc = .ok (.lreturn, 1) ∨ ((x = .null ∨ ∃ a, x = .ref a) ∧ ∃ rt, meth.sig.returnType = some rt ∧ ((∃ n, rt = .object n) ∨ ∃ t, rt = .array t)) ∧ decode cd.code pc = .ok (.areturn, 1)) → W p l e R s m args below meth cd H locs (c.2.1 - k0) (c.2.2 - s0) Q (F0 m pc ls [x])
  | .inl none => ∀ (pc : Nat) (ls : Array Slot), meth.sig.returnType = none → decode cd.code pc = .ok (.return_, 1) → W p l e R s m args below meth cd H locs (c.2.1 - k0) (c.2.2 - s0) Q (F0 m pc ls [])
  | .inr E => (E = 1000 → ∀ (ls : Array Slot) (ys : List Value), e_lo ad as e_spA ls nL → e_st ad as e_spS ys → W p l e R s m args below meth cd H locs (c.2.1 - k0) (c.2.2 - s0) Q (F0 m e_spP ls ys)) ∧ ∀ (pc : Nat) (ls : Array Slot) (ys : List Value) (X : String) (n1 n2 : Nat), e_xn E = some X → e_Th l R s m args cd X pc ls ys → n1 + 1 ≤ c.2.1 - k0 → n2 + 6 ≤ c.2.2 - s0 → W p l e R s m args below meth cd H locs n1 n2 Q (F0 m pc ls ys)
def e_Ok (F : e_F) (pc : Nat) (al : e_A) (st : List e_V) (w : e_W) (c : e_Q) (z : e_Z) (w' : e_W) (c' : e_Q) : Prop :=
  c.1 ≤ c'.1 ∧ c.2.1 ≤ c'.2.1 ∧ c.2.2 ≤ c'.2.2 ∧ ∀ (p : Program) (l : Launch) (e : Env) (R : Room) (s : State) (m : MethodId) (args : Array Value) (below : List Frame) (meth : Method) (cd : Code) (Q : State → Prop) (ad : Nat → Nat) (D : va_G) (tys : List (ClassId × FieldType)) (base nL : Nat) (as0 : List Nat) (k0 s0 : Nat), e_Cx F p l s m args meth cd ad D tys base nL → F.2.1 ≤ R.frames → F.2.2.1 ≤ R.locals → k0 ≤ c.2.1 → s0 ≤ c.2.2 → c'.2.1 - k0 ≤ R.cells → c'.2.2 - s0 ≤ R.slots → e_En p l e R s m args below meth cd Q ad D tys base nL as0 k0 s0 z w' c' → e_wg p l e R s m args below meth cd Q ad D tys base nL as0 k0 s0 pc al st w c
def e_Gd (g : e_G) : Prop := ∀ (F : e_F) (pc : Nat) (al : e_A) (st : List e_V) (w : e_W) (c : e_Q) (K : e_K), g F pc al st w c K = true → ∃ z w' c', K z w' c' = true ∧ e_Ok F pc al st w c z w' c'
def e_Sn (M pc : Nat) (o : e_O) : Prop := ∀ g, e_Gd g → ∀ (F : e_F) (al : e_A) (st : List e_V) (w : e_W) (c : e_Q) (K : e_K), F.1 = M → o g F al st w c K = true → ∃ z w' c', K z w' c' = true ∧ e_Ok F pc al st w c z w' c'
def e_Tb (M : Nat) (f : e_X) : Prop := ∀ pc o, f pc = some o → e_Sn M pc o
def e_TT (t : Nat → e_X) : Prop := ∀ M, e_Tb M (t M)
theorem e_lfT {M q : Nat} {o : e_O} (h : e_Sn M q o) : e_Tb M (e_lf q o) := by
  intro pc o' ho
  unfold e_lf at ho
  cases hb : Nat.beq pc q with
  | false => rw [hb, cond_false] at ho; cases ho
  | true =>
    rw [hb, cond_true] at ho
    cases ho
    cases Nat.eq_of_beq_eq_true hb
    exact h
theorem e_brT {M k : Nat} {a b : e_X} (ha : e_Tb M a) (hb : e_Tb M b) : e_Tb M (e_br k a b) := by
  intro pc o ho
  unfold e_br at ho
  cases hc : Nat.ble k pc with
  | false => rw [hc, cond_false] at ho; exact ha pc o ho
  | true => rw [hc, cond_true] at ho; exact hb pc o ho
theorem e_noT {M : Nat} : e_Tb M e_no := fun _ _ h => by cases h
theorem e_lmT {q : Nat} {f : e_X} (h : e_Tb q f) : e_TT (e_lm q f) := by
  intro M
  unfold e_lm
  cases hb : Nat.beq M q with
  | false => rw [cond_false]; exact e_noT
  | true => rw [cond_true]; cases Nat.eq_of_beq_eq_true hb; exact h
theorem e_bmT {k : Nat} {a b : Nat → e_X} (ha : e_TT a) (hb : e_TT b) : e_TT (e_bm k a b) := by
  intro M
  unfold e_bm
  cases hc : Nat.ble k M with
  | false => rw [cond_false]; exact ha M
  | true => rw [cond_true]; exact hb M
/-- THE EVALUATOR IS SOUND, if each row of the tables is -/
theorem e_sound {tab : Nat → e_X} (ht : e_TT tab) : ∀ fuel, e_Gd (e_run tab fuel) := by
  intro fuel
  induction fuel with
  | zero => intro F pc al st w c K h; cases h
  | succ n ih =>
    intro F pc al st w c K h
    have h1 : (match tab F.1 pc with
      | some o => o (e_run tab n) F al st w c K
      | none => false) = true := h
    split at h1
    · next o ho => exact ht F.1 pc o ho _ ih F al st w c K rfl h1
    · cases h1
/-- a step that makes nothing -/
theorem e_step {F : e_F} {pc nx : Nat} {al al' : e_A} {st st' : List e_V} {w w1 w' : e_W} {c c' : e_Q} {z : e_Z} (hok : e_Ok F nx al' st' w1 c z w' c')
    (hrow : ∀ (p : Program) (l : Launch) (e : Env) (R : Room) (s : State) (m : MethodId) (args : Array Value) (below : List Frame) (meth : Method) (cd : Code) (Q : State → Prop) (ad : Nat → Nat) (D : va_G) (tys : List (ClassId × FieldType)) (base nL : Nat) (as0 : List Nat) (k0 s0 : Nat), e_Cx F p l s m args meth cd ad D tys base nL → e_wg p l e R s m args below meth cd Q ad D tys base nL as0 k0 s0 nx al' st' w1 c → e_wg p l e R s m args below meth cd Q ad D tys base nL as0 k0 s0 pc al st w c) : e_Ok F pc al st w c z w' c' := by
  obtain ⟨h1, h2, h3, h4⟩ := hok
  refine ⟨h1, h2, h3, ?_⟩
  intro p l e R s m args below meth cd Q ad D tys base nL as0 k0 s0 hC hf hl hk hs hc hsl hE
  exact hrow p l e R s m args below meth cd Q ad D tys base nL as0 k0 s0 hC (h4 p l e R s m args below meth cd Q ad D tys base nL as0 k0 s0 hC hf hl hk hs hc hsl hE)

theorem e_cc {F : e_F} {M nL base : Nat} {cc : ByteArray} {p : Program} {l : Launch} {s : State} {m : MethodId} {args : Array Value} {meth : Method} {cd : Code} {ad : Nat → Nat} {D : va_G} {tys : List (ClassId × FieldType)} (hM : F.1 = M) (hq : (e_ml[M]?).map (·.2.1) = some cc) (hC : e_Cx F p l s m args meth cd ad D tys base nL) : p.tables.exec = Jvm.exec ∧ cd.code = cc := by
  obtain ⟨-, hx, -, -, -, -, -, q, h1, h2, -⟩ := hC
  rw [hM] at h1
  rw [h1] at hq
  cases hq
  exact ⟨hx, h2⟩
theorem e_own {F : e_F} {M nL base : Nat} {own : String} {p : Program} {l : Launch} {s : State} {m : MethodId} {args : Array Value} {meth : Method} {cd : Code} {ad : Nat → Nat} {D : va_G} {tys : List (ClassId × FieldType)} (hM : F.1 = M) (ho : (e_ml[M]?).map (·.1.cls) = some own) (hC : e_Cx F p l s m args meth cd ad D tys base nL) : s.vm.findClass own = some m.cls := by
  obtain ⟨-, hx, -, -, -, -, -, q, h1, h2, -, -, h5, -⟩ := hC
  rw [hM] at h1
  rw [h1] at ho
  cases ho
  exact h5
theorem e_wd {F : e_F} {nL base : Nat} {p : Program} {l : Launch} {s : State} {m : MethodId} {args : Array Value} {meth : Method} {cd : Code} {ad : Nat → Nat} {D : va_G} {tys : List (ClassId × FieldType)} (hC : e_Cx F p l s m args meth cd ad D tys base nL) {w : Jvm.Cond} (hw : w ∈ lw_tbl) (hg : goodWord w = true) : w.before args s = true := hC.2.2.2.1 w (List.mem_filter.mpr ⟨hw, hg⟩)
variable {M pc : Nat} {cc : ByteArray}
theorem s_iload {n nx len : Nat} {i : Instr} (hq : (e_ml[M]?).map (·.2.1) = some cc) (hd : decode cc pc = .ok (i, len)) (hnx : nx = pc + len) (hi : i = .iload n ∧ len = 2 ∨ (∃ k : Fin 4, k.val = n ∧ i = .iload_n k ∧ len = 1)) : e_Sn M pc (o_load e_okI n nx) := by
  intro g hg F al st w c K hM h
  unfold o_load at h
  split at h
  · next v hv =>
    cases ho : e_okI v with
    | false => rw [ho] at h; cases h
    | true =>
      rw [ho] at h
      replace h : g F nx al (v :: st) w c K = true := h
      obtain ⟨z, w', c', hK, hok⟩ := hg _ _ _ _ _ _ _ h
      refine ⟨z, w', c', hK, e_step hok ?_⟩
      intro p l e R s m args below meth cd Q ad D tys base nL as0 k0 s0 hC hW
      obtain ⟨hx, hb⟩ := e_cc hM hq hC
      exact e_iload hx hb hd hnx hi hv ho hW
  · cases h
theorem s_lload {n nx len : Nat} {i : Instr} (hq : (e_ml[M]?).map (·.2.1) = some cc) (hd : decode cc pc = .ok (i, len)) (hnx : nx = pc + len) (hi : i = .lload n ∧ len = 2 ∨ (∃ k : Fin 4, k.val = n ∧ i = .lload_n k ∧ len = 1)) : e_Sn M pc (o_load e_okL n nx) := by
  intro g hg F al st w c K hM h
  unfold o_load at h
  split at h
  · next v hv =>
    cases ho : e_okL v with
    | false => rw [ho] at h; cases h
    | true =>
      rw [ho] at h
      replace h : g F nx al (v :: st) w c K = true := h
      obtain ⟨z, w', c', hK, hok⟩ := hg _ _ _ _ _ _ _ h
      refine ⟨z, w', c', hK, e_step hok ?_⟩
      intro p l e R s m args below meth cd Q ad D tys base nL as0 k0 s0 hC hW
      obtain ⟨hx, hb⟩ := e_cc hM hq hC
      exact e_lload hx hb hd hnx hi hv ho hW
  · cases h
theorem s_aload {n nx len : Nat} {i : Instr} (hq : (e_ml[M]?).map (·.2.1) = some cc) (hd : decode cc pc = .ok (i, len)) (hnx : nx = pc + len) (hi : i = .aload n ∧ len = 2 ∨ (∃ k : Fin 4, k.val = n ∧ i = .aload_n k ∧ len = 1)) : e_Sn M pc (o_load e_okR n nx) := by
  intro g hg F al st w c K hM h
  unfold o_load at h
  split at h
  · next v hv =>
    cases ho : e_okR v with
    | false => rw [ho] at h; cases h
    | true =>
      rw [ho] at h
      replace h : g F nx al (v :: st) w c K = true := h
      obtain ⟨z, w', c', hK, hok⟩ := hg _ _ _ _ _ _ _ h
      refine ⟨z, w', c', hK, e_step hok ?_⟩
      intro p l e R s m args below meth cd Q ad D tys base nL as0 k0 s0 hC hW
      obtain ⟨hx, hb⟩ := e_cc hM hq hC
      exact e_aload hx hb hd hnx hi hv ho hW
  · cases h
theorem s_istore {n nx len : Nat} {i : Instr} (hq : (e_ml[M]?).map (·.2.1) = some cc) (hd : decode cc pc = .ok (i, len)) (hnx : nx = pc + len) (hi : i = .istore n ∧ len = 2 ∨ (∃ k : Fin 4, k.val = n ∧ i = .istore_n k ∧ len = 1)) : e_Sn M pc (o_store e_okI n nx) := by
  intro g hg F al st w c K hM h
  unfold o_store at h
  split at h
  · next v r =>
    cases ho : e_okI v with
    | false => rw [ho] at h; cases h
    | true =>
      rw [ho] at h
      replace h : e_lst (some v) al n (fun ls' => g F nx ls' r w c K) = true := h
      obtain ⟨al', h, e1, e3, e2⟩ := e_lst_t h
      obtain ⟨z, w', c', hK, hok⟩ := hg _ _ _ _ _ _ _ h
      refine ⟨z, w', c', hK, e_step hok ?_⟩
      intro p l e R s m args below meth cd Q ad D tys base nL as0 k0 s0 hC hW
      obtain ⟨hx, hb⟩ := e_cc hM hq hC
      exact e_istore hx hb hd hnx hi ho e1 e3 e2 hW
  · cases h
theorem s_astore {n nx len : Nat} {i : Instr} (hq : (e_ml[M]?).map (·.2.1) = some cc) (hd : decode cc pc = .ok (i, len)) (hnx : nx = pc + len) (hi : i = .astore n ∧ len = 2 ∨ (∃ k : Fin 4, k.val = n ∧ i = .astore_n k ∧ len = 1)) : e_Sn M pc (o_store e_okR n nx) := by
  intro g hg F al st w c K hM h
  unfold o_store at h
  split at h
  · next v r =>
    cases ho : e_okR v with
    | false => rw [ho] at h; cases h
    | true =>
      rw [ho] at h
      replace h : e_lst (some v) al n (fun ls' => g F nx ls' r w c K) = true := h
      obtain ⟨al', h, e1, e3, e2⟩ := e_lst_t h
      obtain ⟨z, w', c', hK, hok⟩ := hg _ _ _ _ _ _ _ h
      refine ⟨z, w', c', hK, e_step hok ?_⟩
      intro p l e R s m args below meth cd Q ad D tys base nL as0 k0 s0 hC hW
      obtain ⟨hx, hb⟩ := e_cc hM hq hC
      exact e_astore hx hb hd hnx hi ho e1 e3 e2 hW
  · cases h
end SN
end
section
/-! NUMBERS BY THEIR CODES -/
theorem n_add {m n : Nat} (hm : m < 4294967296) (hn : n < 4294967296) : e_i m + e_i n = e_i ((m + n + 2147483648) % 4294967296) := by
  apply e_i_eq (Nat.mod_lt _ (by decide))
  rw [Int32.toInt_add, e_i_int hm, e_i_int hn, Int.bmod_def]
  split <;> omega
theorem n_addR {m n : Nat} (hm : m < 4294967296) (hn : n < 4294967296) (h1 : 2147483648 ≤ m + n) (h2 : m + n < 6442450944) : e_i m + e_i n = e_i (m + n - 2147483648) := by
  apply e_i_eq (by omega)
  rw [Int32.toInt_add, e_i_int hm, e_i_int hn, Int.bmod_def]
  split <;> omega
theorem n_sub {m n : Nat} (hm : m < 4294967296) (hn : n < 4294967296) : e_i m - e_i n = e_i ((m + 6442450944 - n) % 4294967296) := by
  apply e_i_eq (Nat.mod_lt _ (by decide))
  rw [Int32.toInt_sub, e_i_int hm, e_i_int hn, Int.bmod_def]
  split <;> omega
theorem n_subR {m n : Nat} (hm : m < 4294967296) (hn : n < 4294967296) (h1 : n ≤ m + 2147483648) (h2 : m + 2147483648 - n < 4294967296) : e_i m - e_i n = e_i (m + 2147483648 - n) := by
  apply e_i_eq (by omega)
  rw [Int32.toInt_sub, e_i_int hm, e_i_int hn, Int.bmod_def]
  split <;> omega
theorem n_neg {m : Nat} (hm : m < 4294967296) : - e_i m = e_i ((4294967296 - m) % 4294967296) := by
  apply e_i_eq (Nat.mod_lt _ (by decide))
  rw [Int32.toInt_neg, e_i_int hm, Int.bmod_def]
  split <;> omega
theorem n_ofu {x : Int32} {k : Nat} (h : x.toBitVec.toNat = k) : x = e_i (e_u k) := by rw [← h]; exact e_i_ofu
theorem n_mul {m n : Nat} (hm : m < 4294967296) (hn : n < 4294967296) : e_i m * e_i n = e_i (e_u (e_u m * e_u n % 4294967296)) := by
  apply n_ofu
  rw [Int32.toBitVec_mul, BitVec.toNat_mul, e_i_u hm, e_i_u hn]
theorem n_and {m n : Nat} (hm : m < 4294967296) (hn : n < 4294967296) : e_i m &&& e_i n = e_i (e_u (Nat.land (e_u m) (e_u n) % 4294967296)) := by
  apply n_ofu
  rw [Int32.toBitVec_and, BitVec.toNat_and, e_i_u hm, e_i_u hn]
  exact (Nat.mod_eq_of_lt (Nat.lt_of_le_of_lt Nat.and_le_left (e_u_lt m))).symm
theorem n_or {m n : Nat} (hm : m < 4294967296) (hn : n < 4294967296) : e_i m ||| e_i n = e_i (e_u (Nat.lor (e_u m) (e_u n) % 4294967296)) := by
  apply n_ofu
  rw [Int32.toBitVec_or, BitVec.toNat_or, e_i_u hm, e_i_u hn]
  exact (Nat.mod_eq_of_lt (Nat.or_lt_two_pow (n := 32) (e_u_lt m) (e_u_lt n))).symm
theorem n_xor {m n : Nat} (hm : m < 4294967296) (hn : n < 4294967296) : e_i m ^^^ e_i n = e_i (e_u (Nat.xor (e_u m) (e_u n) % 4294967296)) := by
  apply n_ofu
  rw [Int32.toBitVec_xor, BitVec.toNat_xor, e_i_u hm, e_i_u hn]
  exact (Nat.mod_eq_of_lt (Nat.xor_lt_two_pow (n := 32) (e_u_lt m) (e_u_lt n))).symm
theorem n_sm {n : Nat} (hn : n < 4294967296) : ((e_i n &&& 31).toBitVec.smod 32).toNat = e_u n % 32 := by
  have h1 : (e_i n &&& 31).toBitVec.toNat = e_u n % 32 := by
    rw [Int32.toBitVec_and, BitVec.toNat_and, e_i_u hn]
    exact Nat.and_two_pow_sub_one_eq_mod (e_u n) 5
  have h2 : (e_i n &&& 31).toBitVec = BitVec.ofNat 32 (e_u n % 32) := by
    apply BitVec.eq_of_toNat_eq
    rw [h1, BitVec.toNat_ofNat]
    omega
  rw [h2]
  have h3 : ∀ k : Nat, k < 32 → ((BitVec.ofNat 32 k).smod 32).toNat = k := by decide +kernel
  exact h3 _ (Nat.mod_lt _ (by decide))
theorem n_shl {m n : Nat} (hm : m < 4294967296) (hn : n < 4294967296) : e_i m <<< (e_i n &&& 31) = e_i (e_u (e_u m * 2 ^ (e_u n % 32) % 4294967296)) := by
  apply n_ofu
  rw [pk_shl _ _ _ (n_sm hn), e_i_u hm]
theorem n_ushr {m n : Nat} (hm : m < 4294967296) (hn : n < 4294967296) : ((e_i m).toUInt32 >>> ((e_i n).toUInt32 &&& Int32.toUInt32 31)).toInt32 = e_i (e_u (e_u m / 2 ^ (e_u n % 32))) := by
  apply n_ofu
  rw [pk_ushr _ _ (e_u n % 32) ?_, e_i_u hm]
  have h1 : ((e_i n).toUInt32 &&& Int32.toUInt32 31).toBitVec.toNat = e_u n % 32 := by
    have h0 : ((e_i n).toUInt32).toBitVec.toNat = e_u n := e_i_u hn
    rw [UInt32.toBitVec_and, BitVec.toNat_and, h0]
    exact Nat.and_two_pow_sub_one_eq_mod (e_u n) 5
  rw [BitVec.toNat_umod, h1]
  exact Nat.mod_mod _ _
theorem n_shr {m n : Nat} (hm : m < 4294967296) (hn : n < 4294967296) (h : 2147483648 ≤ m) : e_i m >>> (e_i n &&& 31) = e_i ((m - 2147483648) / 2 ^ (e_u n % 32) + 2147483648) := by
  rw [e_i_nn hm h, pk_shrN (by omega) _ _ (n_sm hn)]
  have h2 : (m - 2147483648) / 2 ^ (e_u n % 32) ≤ m - 2147483648 := Nat.div_le_self _ _
  generalize (m - 2147483648) / 2 ^ (e_u n % 32) = q at h2 ⊢
  rw [e_i_nn (by omega) (by omega), Nat.add_sub_cancel]
theorem n_div {m n : Nat} (hm : m < 4294967296) (hn : n < 4294967296) (h : 2147483648 ≤ m) (h0 : 2147483648 < n) : e_i m / e_i n = e_i ((m - 2147483648) / (n - 2147483648) + 2147483648) := by
  rw [e_i_nn hm h, e_i_nn hn (by omega), pk_div (by omega) (by omega) (by omega)]
  have h2 : (m - 2147483648) / (n - 2147483648) ≤ m - 2147483648 := Nat.div_le_self _ _
  generalize (m - 2147483648) / (n - 2147483648) = q at h2 ⊢
  rw [e_i_nn (by omega) (by omega), Nat.add_sub_cancel]
theorem n_rem {m n : Nat} (hm : m < 4294967296) (hn : n < 4294967296) (h : 2147483648 ≤ m) (h0 : 2147483648 < n) : e_i m - e_i m / e_i n * e_i n = e_i ((m - 2147483648) % (n - 2147483648) + 2147483648) := by
  rw [e_i_nn hm h, e_i_nn hn (by omega), pk_rem (by omega) (by omega) (by omega)]
  have h2 : (m - 2147483648) % (n - 2147483648) < n - 2147483648 := Nat.mod_lt _ (by omega)
  rw [e_i_nn (by omega) (by omega), Nat.add_sub_cancel]
theorem n_ne0 {n : Nat} (hn : n < 4294967296) (h0 : 2147483648 < n) : ¬ e_i n = 0 := by
  rw [← e_i0, e_i_inj hn (by decide)]
  omega
theorem n_mulR {m l h n : Nat} (hm : m < 4294967296) (hl : l ≤ m) (hh : m ≤ h) (hn : n < 4294967296) (h1 : 2147483648 ≤ n) (h2 : 2147483648 * (n - 2147483648) ≤ l * (n - 2147483648) + 2147483648) (h3 : h * (n - 2147483648) + 2147483648 - 2147483648 * (n - 2147483648) < 4294967296) :
    ∃ k, l * (n - 2147483648) + 2147483648 - 2147483648 * (n - 2147483648) ≤ k ∧ k ≤ h * (n - 2147483648) + 2147483648 - 2147483648 * (n - 2147483648) ∧ k < 4294967296 ∧ e_i m * e_i n = e_i k := by
  obtain ⟨k, rfl⟩ : ∃ k, n = k + 2147483648 := ⟨n - 2147483648, by omega⟩
  rw [Nat.add_sub_cancel] at *
  have a1 : l * k ≤ m * k := Nat.mul_le_mul_right k hl
  have a2 : m * k ≤ h * k := Nat.mul_le_mul_right k hh
  refine ⟨m * k + 2147483648 - 2147483648 * k, by omega, by omega, by omega, ?_⟩
  apply e_i_eq (by omega)
  rw [Int32.toInt_mul, e_i_int hm, e_i_int hn]
  have a3 : ((m : Int) - 2147483648) * (((k + 2147483648 : Nat) : Int) - 2147483648) = ((m * k : Nat) : Int) - ((2147483648 * k : Nat) : Int) := by
    rw [show (((k + 2147483648 : Nat) : Int) - 2147483648) = (k : Int) by omega, Int.sub_mul]
    simp
  rw [a3, Int.bmod_def]
  split <;> omega
theorem n_i2l {m : Nat} (hm : m < 4294967296) : (e_i m).toInt64 = e_l (m + 9223372034707292160) := by
  apply e_l_eq (by omega)
  rw [Int32.toInt_toInt64, e_i_int hm]
  omega
theorem n_l2i {m : Nat} (hm : m < 18446744073709551616) : (e_l m).toInt32 = e_i (e_u (e_uL m % 4294967296)) := by
  apply e_i_eq (e_u_lt _)
  rw [Int64.toInt_toInt32, e_l_int hm, Int.bmod_def]
  unfold e_u e_uL
  split <;> omega
theorem n_ladd {m n : Nat} (hm : m < 18446744073709551616) (hn : n < 18446744073709551616) : e_l m + e_l n = e_l ((m + n + 9223372036854775808) % 18446744073709551616) := by
  apply e_l_eq (Nat.mod_lt _ (by decide))
  rw [Int64.toInt_add, e_l_int hm, e_l_int hn, Int.bmod_def]
  split <;> omega
theorem n_lsub {m n : Nat} (hm : m < 18446744073709551616) (hn : n < 18446744073709551616) : e_l m - e_l n = e_l ((m + 27670116110564327424 - n) % 18446744073709551616) := by
  apply e_l_eq (Nat.mod_lt _ (by decide))
  rw [Int64.toInt_sub, e_l_int hm, e_l_int hn, Int.bmod_def]
  split <;> omega
theorem n_lu {m : Nat} (h : m < 18446744073709551616) : (e_l m).toBitVec.toNat = e_uL m := by
  have h1 := e_l_int h
  have h2 : (e_l m).toInt = (e_l m).toBitVec.toInt := rfl
  rw [h2, BitVec.toInt_eq_toNat_cond] at h1
  have h3 := (e_l m).toBitVec.isLt
  unfold e_uL
  split at h1 <;> omega
theorem n_lof (x : Int64) : ∃ m : Nat, m < 18446744073709551616 ∧ x = e_l m := by
  have h1 := x.toInt_lt
  have h2 := x.le_toInt
  refine ⟨(x.toInt + 9223372036854775808).toNat, by omega, ?_⟩
  apply e_l_eq (by omega)
  omega
theorem n_lofu {x : Int64} {k : Nat} (h : x.toBitVec.toNat = k) : x = e_l (e_uL k) := by
  obtain ⟨m, hm, rfl⟩ := n_lof x
  rw [n_lu hm] at h
  subst h
  have h9 : m = e_uL (e_uL m) := by unfold e_uL; omega
  exact congrArg e_l h9
theorem n_lmul {m n : Nat} (hm : m < 18446744073709551616) (hn : n < 18446744073709551616) : e_l m * e_l n = e_l (e_uL (e_uL m * e_uL n % 18446744073709551616)) := by
  apply n_lofu
  rw [Int64.toBitVec_mul, BitVec.toNat_mul, n_lu hm, n_lu hn]
theorem n_lnn {m : Nat} (h : m < 18446744073709551616) (h2 : 9223372036854775808 ≤ m) : e_l m = lN (m - 9223372036854775808) := by
  symm
  apply e_l_eq h
  rw [pk_lT (by omega)]
  omega
theorem n_ldiv {m n : Nat} (hm : m < 18446744073709551616) (hn : n < 18446744073709551616) (h : 9223372036854775808 ≤ m) (h0 : 9223372036854775808 < n) : e_l m / e_l n = e_l ((m - 9223372036854775808) / (n - 9223372036854775808) + 9223372036854775808) := by
  rw [n_lnn hm h, n_lnn hn (by omega), pk_lDiv (by omega) (by omega) (by omega)]
  have h2 : (m - 9223372036854775808) / (n - 9223372036854775808) ≤ m - 9223372036854775808 := Nat.div_le_self _ _
  generalize (m - 9223372036854775808) / (n - 9223372036854775808) = q at h2 ⊢
  rw [n_lnn (by omega) (by omega), Nat.add_sub_cancel]
theorem n_l0 : e_l 9223372036854775808 = 0 := by decide
theorem n_lne0 {n : Nat} (hn : n < 18446744073709551616) (h0 : 9223372036854775808 < n) : ¬ e_l n = 0 := by
  rw [← n_l0, e_l_inj hn (by decide)]
  omega
theorem n_cmp {a b : Nat} (ha : a < 18446744073709551616) (hb : b < 18446744073709551616) : lg_cmp (e_l a) (e_l b) = if b < a then e_i 2147483649 else if a = b then e_i 2147483648 else e_i 2147483647 := by
  unfold lg_cmp
  have h1 : (e_l a > e_l b) ↔ b < a := e_l_lt hb ha
  have h2 : (e_l a = e_l b) ↔ a = b := e_l_inj ha hb
  simp only [h1, h2]
  split
  · decide
  · split <;> decide
end
section
section SN
variable {M pc : Nat} {cc : ByteArray}
theorem s_iconst {nx z : Nat} {n : Int} (hq : (e_ml[M]?).map (·.2.1) = some cc) (hd : decode cc pc = .ok (.iconst n, 1)) (hnx : nx = pc + 1) (hz : Int32.ofInt n = e_i z ∧ z < 4294967296) : e_Sn M pc (o_push (.inl z) nx) := by
  intro g hg F al st w c K hM h
  replace h : g F nx al (.inl z :: st) w c K = true := h
  obtain ⟨z, w', c', hK, hok⟩ := hg _ _ _ _ _ _ _ h
  refine ⟨z, w', c', hK, e_step hok ?_⟩
  intro p l e R s m args below meth cd Q ad D tys base nL as0 k0 s0 hC hW
  obtain ⟨hx, hb⟩ := e_cc hM hq hC
  exact e_iconst hx hb hd hnx hz hW
theorem s_bipush {nx z : Nat} {n : Int} (hq : (e_ml[M]?).map (·.2.1) = some cc) (hd : decode cc pc = .ok (.bipush n, 2)) (hnx : nx = pc + 2) (hz : (Int8.ofInt n).toInt32 = e_i z ∧ z < 4294967296) : e_Sn M pc (o_push (.inl z) nx) := by
  intro g hg F al st w c K hM h
  replace h : g F nx al (.inl z :: st) w c K = true := h
  obtain ⟨z, w', c', hK, hok⟩ := hg _ _ _ _ _ _ _ h
  refine ⟨z, w', c', hK, e_step hok ?_⟩
  intro p l e R s m args below meth cd Q ad D tys base nL as0 k0 s0 hC hW
  obtain ⟨hx, hb⟩ := e_cc hM hq hC
  exact e_bipush hx hb hd hnx hz hW
theorem s_sipush {nx z : Nat} {n : Int} (hq : (e_ml[M]?).map (·.2.1) = some cc) (hd : decode cc pc = .ok (.sipush n, 3)) (hnx : nx = pc + 3) (hz : (Int16.ofInt n).toInt32 = e_i z ∧ z < 4294967296) : e_Sn M pc (o_push (.inl z) nx) := by
  intro g hg F al st w c K hM h
  replace h : g F nx al (.inl z :: st) w c K = true := h
  obtain ⟨z, w', c', hK, hok⟩ := hg _ _ _ _ _ _ _ h
  refine ⟨z, w', c', hK, e_step hok ?_⟩
  intro p l e R s m args below meth cd Q ad D tys base nL as0 k0 s0 hC hW
  obtain ⟨hx, hb⟩ := e_cc hM hq hC
  exact e_sipush hx hb hd hnx hz hW
theorem s_lconst {nx z : Nat} {n : Fin 2} (hq : (e_ml[M]?).map (·.2.1) = some cc) (hd : decode cc pc = .ok (.lconst n, 1)) (hnx : nx = pc + 1) (hz : Int64.ofNat (n : Nat) = e_l z ∧ z < 18446744073709551616) : e_Sn M pc (o_push (e_L z) nx) := by
  intro g hg F al st w c K hM h
  replace h : g F nx al (e_L z :: st) w c K = true := h
  obtain ⟨z, w', c', hK, hok⟩ := hg _ _ _ _ _ _ _ h
  refine ⟨z, w', c', hK, e_step hok ?_⟩
  intro p l e R s m args below meth cd Q ad D tys base nL as0 k0 s0 hC hW
  obtain ⟨hx, hb⟩ := e_cc hM hq hC
  exact e_lconst hx hb hd hnx hz hW
theorem s_ldc2 {nx z index : Nat} {own : String} {v : Int64} (hq : (e_ml[M]?).map (·.2.1) = some cc) (ho : (e_ml[M]?).map (·.1.cls) = some own) (hk : Jvm.Cond.constantLong own index v ∈ lw_tbl) (hd : decode cc pc = .ok (.ldc2_w index, 3)) (hnx : nx = pc + 3) (hz : v = e_l z ∧ z < 18446744073709551616) : e_Sn M pc (o_push (e_L z) nx) := by
  intro g hg F al st w c K hM h
  replace h : g F nx al (e_L z :: st) w c K = true := h
  obtain ⟨z, w', c', hK, hok⟩ := hg _ _ _ _ _ _ _ h
  refine ⟨z, w', c', hK, e_step hok ?_⟩
  intro p l e R s m args below meth cd Q ad D tys base nL as0 k0 s0 hC hW
  obtain ⟨hx, hb⟩ := e_cc hM hq hC
  exact e_ldc2 hx hb (e_own hM ho hC) (e_wd hC hk rfl) hd hnx hz hW
theorem s_ldc {nx z index : Nat} {own : String} {v : Int32} (hq : (e_ml[M]?).map (·.2.1) = some cc) (ho : (e_ml[M]?).map (·.1.cls) = some own) (hk : Jvm.Cond.constant own index v ∈ lw_tbl) (hd : decode cc pc = .ok (.ldc index, 2)) (hnx : nx = pc + 2) (hz : v = e_i z ∧ z < 4294967296) : e_Sn M pc (o_push (e_I z) nx) := by
  intro g hg F al st w c K hM h
  replace h : g F nx al (e_I z :: st) w c K = true := h
  obtain ⟨z, w', c', hK, hok⟩ := hg _ _ _ _ _ _ _ h
  refine ⟨z, w', c', hK, e_step hok ?_⟩
  intro p l e R s m args below meth cd Q ad D tys base nL as0 k0 s0 hC hW
  obtain ⟨hx, hb⟩ := e_cc hM hq hC
  exact e_ldc hx hb (e_own hM ho hC) (e_wd hC hk rfl) hd hnx hz hW
theorem s_null {nx : Nat} (hq : (e_ml[M]?).map (·.2.1) = some cc) (hd : decode cc pc = .ok (.aconst_null, 1)) (hnx : nx = pc + 1) : e_Sn M pc (o_push e_N nx) := by
  intro g hg F al st w c K hM h
  replace h : g F nx al (e_N :: st) w c K = true := h
  obtain ⟨z, w', c', hK, hok⟩ := hg _ _ _ _ _ _ _ h
  refine ⟨z, w', c', hK, e_step hok ?_⟩
  intro p l e R s m args below meth cd Q ad D tys base nL as0 k0 s0 hC hW
  obtain ⟨hx, hb⟩ := e_cc hM hq hC
  exact e_null hx hb hd hnx hW
theorem s_pop {nx : Nat} (hq : (e_ml[M]?).map (·.2.1) = some cc) (hd : decode cc pc = .ok (.pop, 1)) (hnx : nx = pc + 1) : e_Sn M pc (o_pop nx) := by
  intro g hg F al st w c K hM h
  unfold o_pop at h
  split at h
  · next v r =>
    cases hbc : e_is1 v with
    | false => rw [hbc, cond_false] at h; cases h
    | true =>
      rw [hbc, cond_true] at h
      replace h : g F nx al r w c K = true := h
      obtain ⟨z, w', c', hK, hok⟩ := hg _ _ _ _ _ _ _ h
      refine ⟨z, w', c', hK, e_step hok ?_⟩
      intro p l e R s m args below meth cd Q ad D tys base nL as0 k0 s0 hC hW
      obtain ⟨hx, hb⟩ := e_cc hM hq hC
      exact e_pop hx hb hd hnx hbc hW
  · cases h
theorem s_dup {nx : Nat} (hq : (e_ml[M]?).map (·.2.1) = some cc) (hd : decode cc pc = .ok (.dup, 1)) (hnx : nx = pc + 1) : e_Sn M pc (o_dup nx) := by
  intro g hg F al st w c K hM h
  unfold o_dup at h
  split at h
  · next v r =>
    cases hbc : e_is1 v with
    | false => rw [hbc, cond_false] at h; cases h
    | true =>
      rw [hbc, cond_true] at h
      replace h : g F nx al (v :: v :: r) w c K = true := h
      obtain ⟨z, w', c', hK, hok⟩ := hg _ _ _ _ _ _ _ h
      refine ⟨z, w', c', hK, e_step hok ?_⟩
      intro p l e R s m args below meth cd Q ad D tys base nL as0 k0 s0 hC hW
      obtain ⟨hx, hb⟩ := e_cc hM hq hC
      exact e_dup hx hb hd hnx hbc hW
  · cases h
theorem s_dup_x1 {nx : Nat} (hq : (e_ml[M]?).map (·.2.1) = some cc) (hd : decode cc pc = .ok (.dup_x1, 1)) (hnx : nx = pc + 1) : e_Sn M pc (o_dup_x1 nx) := by
  intro g hg F al st w c K hM h
  unfold o_dup_x1 at h
  split at h
  · next v u r =>
    cases hbc : (e_is1 v && e_is1 u) with
    | false => rw [hbc, cond_false] at h; cases h
    | true =>
      rw [hbc, cond_true] at h
      replace h : g F nx al (v :: u :: v :: r) w c K = true := h
      obtain ⟨hb1, hb2⟩ := (Bool.and_eq_true _ _).mp hbc
      obtain ⟨z, w', c', hK, hok⟩ := hg _ _ _ _ _ _ _ h
      refine ⟨z, w', c', hK, e_step hok ?_⟩
      intro p l e R s m args below meth cd Q ad D tys base nL as0 k0 s0 hC hW
      obtain ⟨hx, hb⟩ := e_cc hM hq hC
      exact e_dup_x1 hx hb hd hnx hb1 hb2 hW
  · cases h
theorem s_dup2 {nx : Nat} (hq : (e_ml[M]?).map (·.2.1) = some cc) (hd : decode cc pc = .ok (.dup2, 1)) (hnx : nx = pc + 1) : e_Sn M pc (o_dup2 nx) := by
  intro g hg F al st w c K hM h
  unfold o_dup2 at h
  split at h
  · next v u r =>
    cases hbc : (e_is1 v && e_is1 u) with
    | false => rw [hbc, cond_false] at h; cases h
    | true =>
      rw [hbc, cond_true] at h
      replace h : g F nx al (v :: u :: v :: u :: r) w c K = true := h
      obtain ⟨hb1, hb2⟩ := (Bool.and_eq_true _ _).mp hbc
      obtain ⟨z, w', c', hK, hok⟩ := hg _ _ _ _ _ _ _ h
      refine ⟨z, w', c', hK, e_step hok ?_⟩
      intro p l e R s m args below meth cd Q ad D tys base nL as0 k0 s0 hC hW
      obtain ⟨hx, hb⟩ := e_cc hM hq hC
      exact e_dup2 hx hb hd hnx hb1 hb2 hW
  · cases h
theorem v_2 {ad : Nat → Nat} {m n z : Nat} {g : Int32 → Int32 → Int32} (hz : m < 4294967296 → n < 4294967296 → g (e_i m) (e_i n) = e_i z ∧ z < 4294967296) : ∀ as x y, e_rel ad as (.inl m) x → e_rel ad as (.inl n) y → ∃ x1 y1, x = .int x1 ∧ y = .int y1 ∧ e_rel ad as (.inl z) (.int (g x1 y1)) := by
  rintro as x y ⟨h1, rfl⟩ ⟨h2, rfl⟩
  obtain ⟨h3, h4⟩ := hz h1 h2
  exact ⟨_, _, rfl, rfl, h4, by rw [h3]⟩
theorem v_2L {ad : Nat → Nat} {m n z : Nat} {g : Int64 → Int64 → Int64} (hz : m < 18446744073709551616 → n < 18446744073709551616 → g (e_l m) (e_l n) = e_l z ∧ z < 18446744073709551616) : ∀ as x y, e_rel ad as (e_L m) x → e_rel ad as (e_L n) y → ∃ x1 y1, x = .long x1 ∧ y = .long y1 ∧ e_rel ad as (e_L z) (.long (g x1 y1)) := by
  rintro as x y ⟨h1, rfl⟩ ⟨h2, rfl⟩
  obtain ⟨h3, h4⟩ := hz h1 h2
  exact ⟨_, _, rfl, rfl, h4, by rw [h3]⟩
/-- ints by ranges -/
theorem v_2R {ad : Nat → Nat} {a b v : e_V} {q1 q2 : Nat × Nat} {g : Int32 → Int32 → Int32} (ha : e_rg a = some q1) (hb : e_rg b = some q2) (hz : ∀ as m n, q1.1 ≤ m → m ≤ q1.2 → q2.1 ≤ n → n ≤ q2.2 → m < 4294967296 → n < 4294967296 → e_rel ad as v (.int (g (e_i m) (e_i n)))) : ∀ as x y, e_rel ad as a x → e_rel ad as b y → ∃ x1 y1, x = .int x1 ∧ y = .int y1 ∧ e_rel ad as v (.int (g x1 y1)) := by
  intro as x y h1 h2
  obtain ⟨m, m1, m2, m3, rfl⟩ := e_rel_rg h1 ha
  obtain ⟨n, n1, n2, n3, rfl⟩ := e_rel_rg h2 hb
  exact ⟨_, _, rfl, rfl, hz as m n m1 m2 n1 n2 m3 n3⟩
theorem e_mk_t {l h : Nat} {k : e_V → Bool} (hk : e_mk l h k = true) : ∃ v, k v = true ∧ ∀ ad as m, l ≤ m → m ≤ h → m < 4294967296 → e_rel ad as v (.int (e_i m)) := by
  unfold e_mk at hk
  have h1 := e_fo_t (e_fo_t hk)
  cases hb : Nat.beq l h with
  | true =>
    rw [hb] at h1
    refine ⟨_, h1, fun ad as m m1 m2 m3 => ?_⟩
    have := Nat.eq_of_beq_eq_true hb
    obtain rfl : l = m := by omega
    exact ⟨m3, rfl⟩
  | false =>
    rw [hb] at h1
    exact ⟨_, h1, fun ad as m m1 m2 m3 => ⟨m, m1, m2, m3, rfl⟩⟩
theorem s_iadd {nx : Nat} (hq : (e_ml[M]?).map (·.2.1) = some cc) (hd : decode cc pc = .ok (.iadd, 1)) (hnx : nx = pc + 1) : e_Sn M pc (o_iadd nx) := by
  intro g hg F al st w c K hM h
  unfold o_iadd at h
  split at h
  · next n m9 r =>
    replace h := e_fo_t h
    replace h : g F nx al (.inl ((m9 + n + 2147483648) % 4294967296) :: r) w c K = true := h
    obtain ⟨z, w', c', hK, hok⟩ := hg _ _ _ _ _ _ _ h
    refine ⟨z, w', c', hK, e_step hok ?_⟩
    intro p l e R s m args below meth cd Q ad D tys base nL as0 k0 s0 hC hW
    obtain ⟨hx, hb⟩ := e_cc hM hq hC
    exact e_iadd hx hb hd hnx (v_2 (fun h1 h2 => ⟨n_add h1 h2, Nat.mod_lt _ (by decide)⟩)) hW
  · next b a r _ =>
    split at h
    · next l1 h1 l2 h2 ha hb' =>
      cases hbc : (Nat.ble 2147483648 (l1 + l2) && Nat.blt (h1 + h2) 6442450944) with
      | false => rw [hbc, cond_false] at h; cases h
      | true =>
        rw [hbc, cond_true] at h
        obtain ⟨g1, g2⟩ := (Bool.and_eq_true _ _).mp hbc
        replace g1 := Nat.le_of_ble_eq_true g1
        replace g2 : h1 + h2 < 6442450944 := Nat.le_of_ble_eq_true g2
        obtain ⟨v, h, hv⟩ := e_mk_t h
        obtain ⟨z, w', c', hK, hok⟩ := hg _ _ _ _ _ _ _ h
        refine ⟨z, w', c', hK, e_step hok ?_⟩
        intro p l e R s m args below meth cd Q ad D tys base nL as0 k0 s0 hC hW
        obtain ⟨hx, hb⟩ := e_cc hM hq hC
        exact e_iadd hx hb hd hnx (v_2R ha hb' (fun as m n m1 m2 n1 n2 m3 n3 => by
          dsimp only at m1 m2 n1 n2 ⊢
          rw [n_addR m3 n3 (by omega) (by omega)]
          exact hv ad as _ (by omega) (by omega) (by omega))) hW
    · cases h
  · cases h
theorem s_isub {nx : Nat} (hq : (e_ml[M]?).map (·.2.1) = some cc) (hd : decode cc pc = .ok (.isub, 1)) (hnx : nx = pc + 1) : e_Sn M pc (o_isub nx) := by
  intro g hg F al st w c K hM h
  unfold o_isub at h
  split at h
  · next n m9 r =>
    replace h := e_fo_t h
    replace h : g F nx al (.inl ((m9 + 6442450944 - n) % 4294967296) :: r) w c K = true := h
    obtain ⟨z, w', c', hK, hok⟩ := hg _ _ _ _ _ _ _ h
    refine ⟨z, w', c', hK, e_step hok ?_⟩
    intro p l e R s m args below meth cd Q ad D tys base nL as0 k0 s0 hC hW
    obtain ⟨hx, hb⟩ := e_cc hM hq hC
    exact e_isub hx hb hd hnx (v_2 (fun h1 h2 => ⟨n_sub h1 h2, Nat.mod_lt _ (by decide)⟩)) hW
  · next n a r _ =>
    split at h
    · next l1 h1 ha =>
      cases hbc : (Nat.ble n (l1 + 2147483648) && Nat.blt (h1 + 2147483648 - n) 4294967296) with
      | false => rw [hbc, cond_false] at h; cases h
      | true =>
        rw [hbc, cond_true] at h
        obtain ⟨g1, g2⟩ := (Bool.and_eq_true _ _).mp hbc
        replace g1 := Nat.le_of_ble_eq_true g1
        replace g2 : h1 + 2147483648 - n < 4294967296 := Nat.le_of_ble_eq_true g2
        obtain ⟨v, h, hv⟩ := e_mk_t h
        obtain ⟨z, w', c', hK, hok⟩ := hg _ _ _ _ _ _ _ h
        refine ⟨z, w', c', hK, e_step hok ?_⟩
        intro p l e R s m args below meth cd Q ad D tys base nL as0 k0 s0 hC hW
        obtain ⟨hx, hb⟩ := e_cc hM hq hC
        exact e_isub hx hb hd hnx (v_2R ha (rfl : e_rg (.inl n) = some (n, n)) (fun as m k m1 m2 n1 n2 m3 n3 => by
          dsimp only at m1 m2 n1 n2 ⊢
          obtain rfl : n = k := by omega
          rw [n_subR m3 n3 (by omega) (by omega)]
          exact hv ad as _ (by omega) (by omega) (by omega))) hW
    · cases h
  · cases h
theorem s_iand {nx : Nat} (hq : (e_ml[M]?).map (·.2.1) = some cc) (hd : decode cc pc = .ok (.iand, 1)) (hnx : nx = pc + 1) : e_Sn M pc (o_bin Nat.land nx) := by
  intro g hg F al st w c K hM h
  unfold o_bin at h
  split at h
  · next n m9 r =>
    replace h := e_fo_t h
    replace h : g F nx al (.inl (e_u (Nat.land (e_u m9) (e_u n) % 4294967296)) :: r) w c K = true := h
    obtain ⟨z, w', c', hK, hok⟩ := hg _ _ _ _ _ _ _ h
    refine ⟨z, w', c', hK, e_step hok ?_⟩
    intro p l e R s m args below meth cd Q ad D tys base nL as0 k0 s0 hC hW
    obtain ⟨hx, hb⟩ := e_cc hM hq hC
    exact e_iand hx hb hd hnx (v_2 (fun h1 h2 => ⟨n_and h1 h2, e_u_lt _⟩)) hW
  · cases h
theorem s_ior {nx : Nat} (hq : (e_ml[M]?).map (·.2.1) = some cc) (hd : decode cc pc = .ok (.ior, 1)) (hnx : nx = pc + 1) : e_Sn M pc (o_bin Nat.lor nx) := by
  intro g hg F al st w c K hM h
  unfold o_bin at h
  split at h
  · next n m9 r =>
    replace h := e_fo_t h
    replace h : g F nx al (.inl (e_u (Nat.lor (e_u m9) (e_u n) % 4294967296)) :: r) w c K = true := h
    obtain ⟨z, w', c', hK, hok⟩ := hg _ _ _ _ _ _ _ h
    refine ⟨z, w', c', hK, e_step hok ?_⟩
    intro p l e R s m args below meth cd Q ad D tys base nL as0 k0 s0 hC hW
    obtain ⟨hx, hb⟩ := e_cc hM hq hC
    exact e_ior hx hb hd hnx (v_2 (fun h1 h2 => ⟨n_or h1 h2, e_u_lt _⟩)) hW
  · cases h
theorem s_ixor {nx : Nat} (hq : (e_ml[M]?).map (·.2.1) = some cc) (hd : decode cc pc = .ok (.ixor, 1)) (hnx : nx = pc + 1) : e_Sn M pc (o_bin Nat.xor nx) := by
  intro g hg F al st w c K hM h
  unfold o_bin at h
  split at h
  · next n m9 r =>
    replace h := e_fo_t h
    replace h : g F nx al (.inl (e_u (Nat.xor (e_u m9) (e_u n) % 4294967296)) :: r) w c K = true := h
    obtain ⟨z, w', c', hK, hok⟩ := hg _ _ _ _ _ _ _ h
    refine ⟨z, w', c', hK, e_step hok ?_⟩
    intro p l e R s m args below meth cd Q ad D tys base nL as0 k0 s0 hC hW
    obtain ⟨hx, hb⟩ := e_cc hM hq hC
    exact e_ixor hx hb hd hnx (v_2 (fun h1 h2 => ⟨n_xor h1 h2, e_u_lt _⟩)) hW
  · cases h
theorem e_mulR_t {l h n : Nat} {k : e_V → Bool} (hk : e_mulR l h n k = true) : ∃ v, k v = true ∧ 2147483648 ≤ n ∧ ∀ ad as m, l ≤ m → m ≤ h → m < 4294967296 → n < 4294967296 → e_rel ad as v (.int (e_i m * e_i n)) := by
  unfold e_mulR at hk
  cases hbc : (Nat.ble 2147483648 n && Nat.ble (2147483648 * (n - 2147483648)) (l * (n - 2147483648) + 2147483648) && Nat.blt (h * (n - 2147483648) + 2147483648 - 2147483648 * (n - 2147483648)) 4294967296) with
  | false => rw [hbc, cond_false] at hk; cases hk
  | true =>
    rw [hbc, cond_true] at hk
    obtain ⟨g0, g2⟩ := (Bool.and_eq_true _ _).mp hbc
    obtain ⟨g0, g1⟩ := (Bool.and_eq_true _ _).mp g0
    replace g0 := Nat.le_of_ble_eq_true g0
    replace g1 := Nat.le_of_ble_eq_true g1
    replace g2 : h * (n - 2147483648) + 2147483648 - 2147483648 * (n - 2147483648) < 4294967296 := Nat.le_of_ble_eq_true g2
    obtain ⟨v, hv, hr⟩ := e_mk_t hk
    refine ⟨v, hv, g0, fun ad as m m1 m2 m3 n3 => ?_⟩
    obtain ⟨k, k1, k2, k3, k4⟩ := n_mulR m3 m1 m2 n3 g0 g1 g2
    rw [k4]
    exact hr ad as k k1 k2 k3
theorem s_imul {nx : Nat} (hq : (e_ml[M]?).map (·.2.1) = some cc) (hd : decode cc pc = .ok (.imul, 1)) (hnx : nx = pc + 1) : e_Sn M pc (o_imul nx) := by
  intro g hg F al st w c K hM h
  unfold o_imul at h
  split at h
  · next n m9 r =>
    replace h := e_fo_t h
    replace h : g F nx al (.inl (e_u (e_u m9 * e_u n % 4294967296)) :: r) w c K = true := h
    obtain ⟨z, w', c', hK, hok⟩ := hg _ _ _ _ _ _ _ h
    refine ⟨z, w', c', hK, e_step hok ?_⟩
    intro p l e R s m args below meth cd Q ad D tys base nL as0 k0 s0 hC hW
    obtain ⟨hx, hb⟩ := e_cc hM hq hC
    exact e_imul hx hb hd hnx (v_2 (fun h1 h2 => ⟨n_mul h1 h2, e_u_lt _⟩)) hW
  · next n a r _ =>
    split at h
    · next l1 h1 ha =>
      obtain ⟨v, h, -, hv⟩ := e_mulR_t h
      obtain ⟨z, w', c', hK, hok⟩ := hg _ _ _ _ _ _ _ h
      refine ⟨z, w', c', hK, e_step hok ?_⟩
      intro p l e R s m args below meth cd Q ad D tys base nL as0 k0 s0 hC hW
      obtain ⟨hx, hb⟩ := e_cc hM hq hC
      exact e_imul hx hb hd hnx (v_2R ha (rfl : e_rg (.inl n) = some (n, n)) (fun as m k m1 m2 n1 n2 m3 n3 => by
        dsimp only at m1 m2 n1 n2 ⊢
        obtain rfl : n = k := by omega
        exact hv ad as _ m1 m2 m3 n3)) hW
    · cases h
  · next b m9 r _ =>
    split at h
    · next l1 h1 hb' =>
      obtain ⟨v, h, -, hv⟩ := e_mulR_t h
      obtain ⟨z, w', c', hK, hok⟩ := hg _ _ _ _ _ _ _ h
      refine ⟨z, w', c', hK, e_step hok ?_⟩
      intro p l e R s m args below meth cd Q ad D tys base nL as0 k0 s0 hC hW
      obtain ⟨hx, hb⟩ := e_cc hM hq hC
      exact e_imul hx hb hd hnx (v_2R (rfl : e_rg (.inl m9) = some (m9, m9)) hb' (fun as k n m1 m2 n1 n2 m3 n3 => by
        dsimp only at m1 m2 n1 n2 ⊢
        obtain rfl : m9 = k := by omega
        rw [Int32.mul_comm]
        exact hv ad as _ n1 n2 n3 m3)) hW
    · cases h
  · cases h
theorem s_idiv {nx : Nat} (hq : (e_ml[M]?).map (·.2.1) = some cc) (hd : decode cc pc = .ok (.idiv, 1)) (hnx : nx = pc + 1) : e_Sn M pc (o_idiv nx) := by
  intro g hg F al st w c K hM h
  unfold o_idiv at h
  split at h
  · next n m9 r =>
    cases hbc : (Nat.ble 2147483648 m9 && Nat.blt 2147483648 n) with
    | false => rw [hbc, cond_false] at h; cases h
    | true =>
      rw [hbc, cond_true] at h
      obtain ⟨g1, g2⟩ := (Bool.and_eq_true _ _).mp hbc
      replace g1 := Nat.le_of_ble_eq_true g1
      replace g2 : 2147483648 < n := Nat.le_of_ble_eq_true g2
      replace h := e_fo_t h
      replace h : g F nx al (.inl ((m9 - 2147483648) / (n - 2147483648) + 2147483648) :: r) w c K = true := h
      obtain ⟨z, w', c', hK, hok⟩ := hg _ _ _ _ _ _ _ h
      refine ⟨z, w', c', hK, e_step hok ?_⟩
      intro p l e R s m args below meth cd Q ad D tys base nL as0 k0 s0 hC hW
      obtain ⟨hx, hb⟩ := e_cc hM hq hC
      exact e_idiv hx hb hd hnx (fun as y hy => by obtain ⟨y1, y2⟩ := hy; cases y2; exact n_ne0 y1 g2) (v_2 (fun h1 h2 => ⟨n_div h1 h2 g1 g2, (by have := Nat.div_le_self (m9 - 2147483648) (n - 2147483648); generalize (m9 - 2147483648) / (n - 2147483648) = q at *; omega)⟩)) hW
  · cases h
theorem s_irem {nx : Nat} (hq : (e_ml[M]?).map (·.2.1) = some cc) (hd : decode cc pc = .ok (.irem, 1)) (hnx : nx = pc + 1) : e_Sn M pc (o_irem nx) := by
  intro g hg F al st w c K hM h
  unfold o_irem at h
  split at h
  · next n m9 r =>
    cases hbc : (Nat.ble 2147483648 m9 && Nat.blt 2147483648 n) with
    | false => rw [hbc, cond_false] at h; cases h
    | true =>
      rw [hbc, cond_true] at h
      obtain ⟨g1, g2⟩ := (Bool.and_eq_true _ _).mp hbc
      replace g1 := Nat.le_of_ble_eq_true g1
      replace g2 : 2147483648 < n := Nat.le_of_ble_eq_true g2
      replace h := e_fo_t h
      replace h : g F nx al (.inl ((m9 - 2147483648) % (n - 2147483648) + 2147483648) :: r) w c K = true := h
      obtain ⟨z, w', c', hK, hok⟩ := hg _ _ _ _ _ _ _ h
      refine ⟨z, w', c', hK, e_step hok ?_⟩
      intro p l e R s m args below meth cd Q ad D tys base nL as0 k0 s0 hC hW
      obtain ⟨hx, hb⟩ := e_cc hM hq hC
      exact e_irem hx hb hd hnx (fun as y hy => by obtain ⟨y1, y2⟩ := hy; cases y2; exact n_ne0 y1 g2) (v_2 (fun h1 h2 => ⟨n_rem h1 h2 g1 g2, (by have := Nat.mod_lt (m9 - 2147483648) (show n - 2147483648 > 0 by omega); generalize (m9 - 2147483648) % (n - 2147483648) = q at *; omega)⟩)) hW
  · cases h
end SN
end
section
section SN
variable {M pc : Nat} {cc : ByteArray}
theorem s_ishl {nx : Nat} (hq : (e_ml[M]?).map (·.2.1) = some cc) (hd : decode cc pc = .ok (.ishl, 1)) (hnx : nx = pc + 1) : e_Sn M pc (o_ishl nx) := by
  intro g hg F al st w c K hM h
  unfold o_ishl at h
  split at h
  · next n m9 r =>
    replace h := e_fo_t h
    replace h : g F nx al (.inl (e_u (e_u m9 * 2 ^ (e_u n % 32) % 4294967296)) :: r) w c K = true := h
    obtain ⟨z, w', c', hK, hok⟩ := hg _ _ _ _ _ _ _ h
    refine ⟨z, w', c', hK, e_step hok ?_⟩
    intro p l e R s m args below meth cd Q ad D tys base nL as0 k0 s0 hC hW
    obtain ⟨hx, hb⟩ := e_cc hM hq hC
    exact e_ishl hx hb hd hnx (v_2 (fun h1 h2 => ⟨n_shl h1 h2, e_u_lt _⟩)) hW
  · cases h
theorem s_ishr {nx : Nat} (hq : (e_ml[M]?).map (·.2.1) = some cc) (hd : decode cc pc = .ok (.ishr, 1)) (hnx : nx = pc + 1) : e_Sn M pc (o_ishr nx) := by
  intro g hg F al st w c K hM h
  unfold o_ishr at h
  split at h
  · next n m9 r =>
    cases hbc : (Nat.ble 2147483648 m9) with
    | false => rw [hbc, cond_false] at h; cases h
    | true =>
      rw [hbc, cond_true] at h
      replace hbc := Nat.le_of_ble_eq_true hbc
      replace h := e_fo_t h
      replace h : g F nx al (.inl ((m9 - 2147483648) / 2 ^ (e_u n % 32) + 2147483648) :: r) w c K = true := h
      obtain ⟨z, w', c', hK, hok⟩ := hg _ _ _ _ _ _ _ h
      refine ⟨z, w', c', hK, e_step hok ?_⟩
      intro p l e R s m args below meth cd Q ad D tys base nL as0 k0 s0 hC hW
      obtain ⟨hx, hb⟩ := e_cc hM hq hC
      exact e_ishr hx hb hd hnx (v_2 (fun h1 h2 => ⟨n_shr h1 h2 hbc, (by have := Nat.div_le_self (m9 - 2147483648) (2 ^ (e_u n % 32)); generalize (m9 - 2147483648) / 2 ^ (e_u n % 32) = q at *; omega)⟩)) hW
  · cases h
theorem s_iushr {nx : Nat} (hq : (e_ml[M]?).map (·.2.1) = some cc) (hd : decode cc pc = .ok (.iushr, 1)) (hnx : nx = pc + 1) : e_Sn M pc (o_iushr nx) := by
  intro g hg F al st w c K hM h
  unfold o_iushr at h
  split at h
  · next n m9 r =>
    replace h := e_fo_t h
    replace h : g F nx al (.inl (e_u (e_u m9 / 2 ^ (e_u n % 32))) :: r) w c K = true := h
    obtain ⟨z, w', c', hK, hok⟩ := hg _ _ _ _ _ _ _ h
    refine ⟨z, w', c', hK, e_step hok ?_⟩
    intro p l e R s m args below meth cd Q ad D tys base nL as0 k0 s0 hC hW
    obtain ⟨hx, hb⟩ := e_cc hM hq hC
    exact e_iushr hx hb hd hnx (v_2 (fun h1 h2 => ⟨n_ushr h1 h2, e_u_lt _⟩)) hW
  · next b m9 r _ =>
    split at h
    · next q hb' =>
      cases hbc : (Nat.beq m9 2147483648) with
      | false => rw [hbc, cond_false] at h; cases h
      | true =>
        rw [hbc, cond_true] at h
        have hm := Nat.eq_of_beq_eq_true hbc
        obtain ⟨z, w', c', hK, hok⟩ := hg _ _ _ _ _ _ _ h
        refine ⟨z, w', c', hK, e_step hok ?_⟩
        intro p l e R s m args below meth cd Q ad D tys base nL as0 k0 s0 hC hW
        obtain ⟨hx, hb⟩ := e_cc hM hq hC
        exact e_iushr hx hb hd hnx (v_2R (rfl : e_rg (.inl m9) = some (m9, m9)) hb' (fun as k n m1 m2 n1 n2 m3 n3 => by
          dsimp only at m1 m2 n1 n2 ⊢
          obtain rfl : k = 2147483648 := by omega
          refine ⟨by decide, ?_⟩
          rw [n_ushr m3 n3]
          have h5 : e_u 2147483648 = 0 := by decide
          have h6 : e_u 0 = 2147483648 := by decide
          rw [h5, Nat.zero_div, h6])) hW
    · cases h
  · cases h
end SN
end
section
section SN
variable {M pc : Nat} {cc : ByteArray}
theorem s_ineg {nx : Nat} (hq : (e_ml[M]?).map (·.2.1) = some cc) (hd : decode cc pc = .ok (.ineg, 1)) (hnx : nx = pc + 1) : e_Sn M pc (o_ineg nx) := by
  intro g hg F al st w c K hM h
  unfold o_ineg at h
  split at h
  · next m9 r =>
    replace h := e_fo_t h
    replace h : g F nx al (.inl ((4294967296 - m9) % 4294967296) :: r) w c K = true := h
    obtain ⟨z, w', c', hK, hok⟩ := hg _ _ _ _ _ _ _ h
    refine ⟨z, w', c', hK, e_step hok ?_⟩
    intro p l e R s m args below meth cd Q ad D tys base nL as0 k0 s0 hC hW
    obtain ⟨hx, hb⟩ := e_cc hM hq hC
    refine e_u1 (fun as x hx9 => ?_) hW
    obtain ⟨h1, rfl⟩ := hx9
    exact ⟨.int (- e_i m9), ⟨Nat.mod_lt _ (by decide), by rw [n_neg h1]⟩, fun H locs cells slots ls ys k => by subst hnx; exact lv_ineg hx hb hd k⟩
  · cases h
theorem s_i2l {nx : Nat} (hq : (e_ml[M]?).map (·.2.1) = some cc) (hd : decode cc pc = .ok (.i2l, 1)) (hnx : nx = pc + 1) : e_Sn M pc (o_i2l nx) := by
  intro g hg F al st w c K hM h
  unfold o_i2l at h
  split at h
  · next m9 r =>
    replace h := e_fo_t h
    replace h : g F nx al (.inr (.inr (.inl (m9 + 9223372034707292160))) :: r) w c K = true := h
    obtain ⟨z, w', c', hK, hok⟩ := hg _ _ _ _ _ _ _ h
    refine ⟨z, w', c', hK, e_step hok ?_⟩
    intro p l e R s m args below meth cd Q ad D tys base nL as0 k0 s0 hC hW
    obtain ⟨hx, hb⟩ := e_cc hM hq hC
    refine e_u1 (fun as x hx9 => ?_) hW
    obtain ⟨h1, rfl⟩ := hx9
    exact ⟨.long (e_l (m9 + 9223372034707292160)), ⟨by omega, rfl⟩, fun H locs cells slots ls ys k => by subst hnx; exact lv_i2l hx hb hd (n_i2l h1) k⟩
  · next lo hi r =>
    replace h := e_fo_t (e_fo_t h)
    replace h : g F nx al (.inr (.inr (.inr (.inr (.inl (lo + 9223372034707292160, hi + 9223372034707292160))))) :: r) w c K = true := h
    obtain ⟨z, w', c', hK, hok⟩ := hg _ _ _ _ _ _ _ h
    refine ⟨z, w', c', hK, e_step hok ?_⟩
    intro p l e R s m args below meth cd Q ad D tys base nL as0 k0 s0 hC hW
    obtain ⟨hx, hb⟩ := e_cc hM hq hC
    refine e_u1 (fun as x hx9 => ?_) hW
    obtain ⟨k9, h1, h2, h3, rfl⟩ := hx9
    dsimp only at h1 h2
    exact ⟨.long (e_l (k9 + 9223372034707292160)), ⟨k9 + 9223372034707292160, by dsimp only; omega, by dsimp only; omega, by omega, rfl⟩, fun H locs cells slots ls ys k => by subst hnx; exact lv_i2l hx hb hd (n_i2l h3) k⟩
  · cases h
theorem s_l2i {nx : Nat} (hq : (e_ml[M]?).map (·.2.1) = some cc) (hd : decode cc pc = .ok (.l2i, 1)) (hnx : nx = pc + 1) : e_Sn M pc (o_l2i nx) := by
  intro g hg F al st w c K hM h
  unfold o_l2i at h
  split at h
  · next m9 r =>
    replace h := e_fo_t h
    replace h : g F nx al (.inl (e_u (e_uL m9 % 4294967296)) :: r) w c K = true := h
    obtain ⟨z, w', c', hK, hok⟩ := hg _ _ _ _ _ _ _ h
    refine ⟨z, w', c', hK, e_step hok ?_⟩
    intro p l e R s m args below meth cd Q ad D tys base nL as0 k0 s0 hC hW
    obtain ⟨hx, hb⟩ := e_cc hM hq hC
    refine e_u1 (fun as x hx9 => ?_) hW
    obtain ⟨h1, rfl⟩ := hx9
    exact ⟨.int (e_i (e_u (e_uL m9 % 4294967296))), ⟨e_u_lt _, rfl⟩, fun H locs cells slots ls ys k => by subst hnx; exact lv_l2i hx hb hd (n_l2i h1) k⟩
  · cases h
theorem s_ladd {nx : Nat} (hq : (e_ml[M]?).map (·.2.1) = some cc) (hd : decode cc pc = .ok (.ladd, 1)) (hnx : nx = pc + 1) : e_Sn M pc (o_ladd nx) := by
  intro g hg F al st w c K hM h
  unfold o_ladd at h
  split at h
  · next n m9 r =>
    replace h := e_fo_t h
    replace h : g F nx al (.inr (.inr (.inl ((m9 + n + 9223372036854775808) % 18446744073709551616))) :: r) w c K = true := h
    obtain ⟨z, w', c', hK, hok⟩ := hg _ _ _ _ _ _ _ h
    refine ⟨z, w', c', hK, e_step hok ?_⟩
    intro p l e R s m args below meth cd Q ad D tys base nL as0 k0 s0 hC hW
    obtain ⟨hx, hb⟩ := e_cc hM hq hC
    exact e_ladd hx hb hd hnx (v_2L (fun h1 h2 => ⟨n_ladd h1 h2, Nat.mod_lt _ (by decide)⟩)) hW
  · cases h
theorem s_lsub {nx : Nat} (hq : (e_ml[M]?).map (·.2.1) = some cc) (hd : decode cc pc = .ok (.lsub, 1)) (hnx : nx = pc + 1) : e_Sn M pc (o_lsub nx) := by
  intro g hg F al st w c K hM h
  unfold o_lsub at h
  split at h
  · next n m9 r =>
    replace h := e_fo_t h
    replace h : g F nx al (.inr (.inr (.inl ((m9 + 27670116110564327424 - n) % 18446744073709551616))) :: r) w c K = true := h
    obtain ⟨z, w', c', hK, hok⟩ := hg _ _ _ _ _ _ _ h
    refine ⟨z, w', c', hK, e_step hok ?_⟩
    intro p l e R s m args below meth cd Q ad D tys base nL as0 k0 s0 hC hW
    obtain ⟨hx, hb⟩ := e_cc hM hq hC
    exact e_lsub hx hb hd hnx (v_2L (fun h1 h2 => ⟨n_lsub h1 h2, Nat.mod_lt _ (by decide)⟩)) hW
  · cases h
theorem s_lmul {nx : Nat} (hq : (e_ml[M]?).map (·.2.1) = some cc) (hd : decode cc pc = .ok (.lmul, 1)) (hnx : nx = pc + 1) : e_Sn M pc (o_lmul nx) := by
  intro g hg F al st w c K hM h
  unfold o_lmul at h
  split at h
  · next n m9 r =>
    replace h := e_fo_t h
    replace h : g F nx al (.inr (.inr (.inl (e_uL (e_uL m9 * e_uL n % 18446744073709551616)))) :: r) w c K = true := h
    obtain ⟨z, w', c', hK, hok⟩ := hg _ _ _ _ _ _ _ h
    refine ⟨z, w', c', hK, e_step hok ?_⟩
    intro p l e R s m args below meth cd Q ad D tys base nL as0 k0 s0 hC hW
    obtain ⟨hx, hb⟩ := e_cc hM hq hC
    exact e_lmul hx hb hd hnx (v_2L (fun h1 h2 => ⟨n_lmul h1 h2, Nat.mod_lt _ (by decide)⟩)) hW
  · cases h
theorem s_ldiv {nx : Nat} (hq : (e_ml[M]?).map (·.2.1) = some cc) (hd : decode cc pc = .ok (.ldiv, 1)) (hnx : nx = pc + 1) : e_Sn M pc (o_ldiv nx) := by
  intro g hg F al st w c K hM h
  unfold o_ldiv at h
  split at h
  · next n m9 r =>
    cases hbc : (Nat.ble 9223372036854775808 m9 && Nat.blt 9223372036854775808 n) with
    | false => rw [hbc, cond_false] at h; cases h
    | true =>
      rw [hbc, cond_true] at h
      obtain ⟨g1, g2⟩ := (Bool.and_eq_true _ _).mp hbc
      replace g1 := Nat.le_of_ble_eq_true g1
      replace g2 : 9223372036854775808 < n := Nat.le_of_ble_eq_true g2
      replace h := e_fo_t h
      replace h : g F nx al (.inr (.inr (.inl ((m9 - 9223372036854775808) / (n - 9223372036854775808) + 9223372036854775808))) :: r) w c K = true := h
      obtain ⟨z, w', c', hK, hok⟩ := hg _ _ _ _ _ _ _ h
      refine ⟨z, w', c', hK, e_step hok ?_⟩
      intro p l e R s m args below meth cd Q ad D tys base nL as0 k0 s0 hC hW
      obtain ⟨hx, hb⟩ := e_cc hM hq hC
      exact e_ldiv hx hb hd hnx (fun as y hy => by obtain ⟨y1, y2⟩ := hy; cases y2; exact n_lne0 y1 g2) (v_2L (fun h1 h2 => ⟨n_ldiv h1 h2 g1 g2, (by have := Nat.div_le_self (m9 - 9223372036854775808) (n - 9223372036854775808); generalize (m9 - 9223372036854775808) / (n - 9223372036854775808) = q at *; omega)⟩)) hW
  · cases h
end SN
end
section
section SN
variable {M pc : Nat} {cc : ByteArray}
theorem e_lcmpR {p : Program} {l : Launch} {e : Env} {R : Room} {s : State} {m : MethodId} {args : Array Value} {below : List Frame} {meth : Method} {cd : Code} {Q : State → Prop} {ad : Nat → Nat} {D : va_G} {tys : List (ClassId × FieldType)} {A : Nat → Prop} {H0 : Heap} {nL : Nat} {as0 : List Nat} {k0 s0 : Nat} {al : e_A} {r : List e_V} {w : e_W} {c : e_Q} {nx : Nat} {a b v : e_V} {q1 q2 : Nat × Nat} (hx : p.tables.exec = Jvm.exec) (hb : cd.code = cc) (hd : decode cc pc = .ok (.lcmp, 1)) (hnx : nx = pc + 1) (h1 : e_rgL a = some q1) (h2 : e_rgL b = some q2)
    (hv : ∀ as i j, q1.1 ≤ i → i ≤ q1.2 → q2.1 ≤ j → j ≤ q2.2 → e_rel ad as v (.int (if j < i then e_i 2147483649 else if i = j then e_i 2147483648 else e_i 2147483647))) (h : e_WG p l e R s m args below meth cd Q ad D e_cl tys A H0 nL as0 k0 s0 nx al (v :: r) w c) : e_WG p l e R s m args below meth cd Q ad D e_cl tys A H0 nL as0 k0 s0 pc al (b :: a :: r) w c :=
  e_pure (st' := v :: r) (fun as ys h9 => by
    obtain ⟨y, ys, rfl, hy, h3⟩ := e_st_cons h9
    obtain ⟨x, ys, rfl, hx9, h4⟩ := e_st_cons h3
    obtain ⟨i, i1, i2, i3, rfl⟩ := e_rel_rgL hx9 h1
    obtain ⟨j, j1, j2, j3, rfl⟩ := e_rel_rgL hy h2
    refine ⟨.int (if j < i then e_i 2147483649 else if i = j then e_i 2147483648 else e_i 2147483647) :: ys, ⟨hv as i j i1 i2 j1 j2, h4⟩, fun H locs cells slots ls k => ?_⟩
    subst hnx
    refine W.lcmp hx hb hd ?_
    rw [n_cmp i3 j3]
    exact k) h
theorem s_lcmp {nx : Nat} (hq : (e_ml[M]?).map (·.2.1) = some cc) (hd : decode cc pc = .ok (.lcmp, 1)) (hnx : nx = pc + 1) : e_Sn M pc (o_lcmp nx) := by
  intro g hg F al st w c K hM h
  unfold o_lcmp at h
  split at h
  · next b a r =>
    split at h
    · next l1 h1 l2 h2 ha hb' =>
      cases g1 : Nat.blt h1 l2 with
      | true =>
        rw [g1, cond_true] at h
        replace g1 : h1 < l2 := Nat.le_of_ble_eq_true g1
        obtain ⟨z, w', c', hK, hok⟩ := hg _ _ _ _ _ _ _ h
        refine ⟨z, w', c', hK, e_step hok ?_⟩
        intro p l e R s m args below meth cd Q ad D tys base nL as0 k0 s0 hC hW
        obtain ⟨hx, hb⟩ := e_cc hM hq hC
        exact e_lcmpR hx hb hd hnx ha hb' (fun as i j i1 i2 j1 j2 => by
          dsimp only at i1 i2 j1 j2
          rw [if_neg (by omega), if_neg (by omega)]
          exact ⟨by decide, rfl⟩) hW
      | false =>
        rw [g1, cond_false] at h
        cases g2 : Nat.blt h2 l1 with
        | true =>
          rw [g2, cond_true] at h
          replace g2 : h2 < l1 := Nat.le_of_ble_eq_true g2
          obtain ⟨z, w', c', hK, hok⟩ := hg _ _ _ _ _ _ _ h
          refine ⟨z, w', c', hK, e_step hok ?_⟩
          intro p l e R s m args below meth cd Q ad D tys base nL as0 k0 s0 hC hW
          obtain ⟨hx, hb⟩ := e_cc hM hq hC
          exact e_lcmpR hx hb hd hnx ha hb' (fun as i j i1 i2 j1 j2 => by
            dsimp only at i1 i2 j1 j2
            rw [if_pos (by omega)]
            exact ⟨by decide, rfl⟩) hW
        | false =>
          rw [g2, cond_false] at h
          cases g3 : Nat.ble h2 l1 with
          | true =>
            rw [g3, cond_true] at h
            replace g3 := Nat.le_of_ble_eq_true g3
            cases g4 : Nat.ble h1 l2 with
            | true =>
              rw [g4, cond_true] at h
              replace g4 := Nat.le_of_ble_eq_true g4
              obtain ⟨z, w', c', hK, hok⟩ := hg _ _ _ _ _ _ _ h
              refine ⟨z, w', c', hK, e_step hok ?_⟩
              intro p l e R s m args below meth cd Q ad D tys base nL as0 k0 s0 hC hW
              obtain ⟨hx, hb⟩ := e_cc hM hq hC
              exact e_lcmpR hx hb hd hnx ha hb' (fun as i j i1 i2 j1 j2 => by
                dsimp only at i1 i2 j1 j2
                rw [if_neg (by omega), if_pos (by omega)]
                exact ⟨by decide, rfl⟩) hW
            | false =>
              rw [g4, cond_false] at h
              obtain ⟨z, w', c', hK, hok⟩ := hg _ _ _ _ _ _ _ h
              refine ⟨z, w', c', hK, e_step hok ?_⟩
              intro p l e R s m args below meth cd Q ad D tys base nL as0 k0 s0 hC hW
              obtain ⟨hx, hb⟩ := e_cc hM hq hC
              exact e_lcmpR hx hb hd hnx ha hb' (fun as i j i1 i2 j1 j2 => by
                dsimp only at i1 i2 j1 j2
                by_cases hij : j < i
                · rw [if_pos hij]; exact ⟨_, by decide, by decide, by decide, rfl⟩
                · rw [if_neg hij, if_pos (by omega)]; exact ⟨_, by decide, by decide, by decide, rfl⟩) hW
          | false =>
            rw [g3, cond_false] at h
            cases g4 : Nat.ble h1 l2 with
            | true =>
              rw [g4, cond_true] at h
              replace g4 := Nat.le_of_ble_eq_true g4
              obtain ⟨z, w', c', hK, hok⟩ := hg _ _ _ _ _ _ _ h
              refine ⟨z, w', c', hK, e_step hok ?_⟩
              intro p l e R s m args below meth cd Q ad D tys base nL as0 k0 s0 hC hW
              obtain ⟨hx, hb⟩ := e_cc hM hq hC
              exact e_lcmpR hx hb hd hnx ha hb' (fun as i j i1 i2 j1 j2 => by
                dsimp only at i1 i2 j1 j2
                rw [if_neg (by omega)]
                by_cases hij : i = j
                · rw [if_pos hij]; exact ⟨_, by decide, by decide, by decide, rfl⟩
                · rw [if_neg hij]; exact ⟨_, by decide, by decide, by decide, rfl⟩) hW
            | false => rw [g4, cond_false] at h; cases h
    · cases h
  · cases h
end SN
end
section
section SN
variable {M pc : Nat} {cc : ByteArray}
theorem e_lt_t {a b : e_V} {t f : Bool} (h : e_lt (e_rg a) (e_rg b) t f = true) : (t = true ∧ ∀ ad as x y, e_rel ad as a x → e_rel ad as b y → ∃ i j, x = .int i ∧ y = .int j ∧ i < j) ∨ (f = true ∧ ∀ ad as x y, e_rel ad as a x → e_rel ad as b y → ∃ i j, x = .int i ∧ y = .int j ∧ ¬ i < j) := by
  unfold e_lt at h
  split at h
  · next l1 h1 l2 h2 ha hb =>
    cases g1 : Nat.blt h1 l2 with
    | true =>
      rw [g1, cond_true] at h
      replace g1 : h1 < l2 := Nat.le_of_ble_eq_true g1
      refine Or.inl ⟨h, fun ad as x y hx hy => ?_⟩
      obtain ⟨i, i1, i2, i3, rfl⟩ := e_rel_rg hx ha
      obtain ⟨j, j1, j2, j3, rfl⟩ := e_rel_rg hy hb
      dsimp only at i1 i2 j1 j2
      exact ⟨_, _, rfl, rfl, (e_i_lt i3 j3).mpr (by omega)⟩
    | false =>
      rw [g1, cond_false] at h
      cases g2 : Nat.ble h2 l1 with
      | true =>
        rw [g2, cond_true] at h
        replace g2 := Nat.le_of_ble_eq_true g2
        refine Or.inr ⟨h, fun ad as x y hx hy => ?_⟩
        obtain ⟨i, i1, i2, i3, rfl⟩ := e_rel_rg hx ha
        obtain ⟨j, j1, j2, j3, rfl⟩ := e_rel_rg hy hb
        dsimp only at i1 i2 j1 j2
        exact ⟨_, _, rfl, rfl, fun q => by have := (e_i_lt i3 j3).mp q; omega⟩
      | false => rw [g2, cond_false] at h; cases h
  · cases h
theorem e_eq_t {a b : e_V} {t f : Bool} (h : e_eq (e_rg a) (e_rg b) t f = true) : (t = true ∧ ∀ ad as x y, e_rel ad as a x → e_rel ad as b y → ∃ i j, x = .int i ∧ y = .int j ∧ i = j) ∨ (f = true ∧ ∀ ad as x y, e_rel ad as a x → e_rel ad as b y → ∃ i j, x = .int i ∧ y = .int j ∧ ¬ i = j) := by
  unfold e_eq at h
  split at h
  · next l1 h1 l2 h2 ha hb =>
    cases g1 : (Nat.blt h1 l2 || Nat.blt h2 l1) with
    | true =>
      rw [g1, cond_true] at h
      have g2 : h1 < l2 ∨ h2 < l1 := by
        rcases (Bool.or_eq_true _ _).mp g1 with q | q
        · exact Or.inl (Nat.le_of_ble_eq_true q)
        · exact Or.inr (Nat.le_of_ble_eq_true q)
      refine Or.inr ⟨h, fun ad as x y hx hy => ?_⟩
      obtain ⟨i, i1, i2, i3, rfl⟩ := e_rel_rg hx ha
      obtain ⟨j, j1, j2, j3, rfl⟩ := e_rel_rg hy hb
      dsimp only at i1 i2 j1 j2
      exact ⟨_, _, rfl, rfl, fun q => by have := (e_i_inj i3 j3).mp q; omega⟩
    | false =>
      rw [g1, cond_false] at h
      cases g2 : (Nat.beq l1 h1 && Nat.beq l2 h2) with
      | true =>
        rw [g2, cond_true] at h
        obtain ⟨g3, g4⟩ := (Bool.and_eq_true _ _).mp g2
        replace g3 := Nat.eq_of_beq_eq_true g3
        replace g4 := Nat.eq_of_beq_eq_true g4
        have g5 := (Bool.or_eq_false_iff.mp g1).1
        have g6 := (Bool.or_eq_false_iff.mp g1).2
        have g7 : ¬ h1 < l2 := fun q => by rw [show Nat.blt h1 l2 = true from Nat.ble_eq_true_of_le q] at g5; cases g5
        have g8 : ¬ h2 < l1 := fun q => by rw [show Nat.blt h2 l1 = true from Nat.ble_eq_true_of_le q] at g6; cases g6
        refine Or.inl ⟨h, fun ad as x y hx hy => ?_⟩
        obtain ⟨i, i1, i2, i3, rfl⟩ := e_rel_rg hx ha
        obtain ⟨j, j1, j2, j3, rfl⟩ := e_rel_rg hy hb
        dsimp only at i1 i2 j1 j2
        exact ⟨_, _, rfl, rfl, (e_i_inj i3 j3).mpr (by omega)⟩
      | false => rw [g2, cond_false] at h; cases h
  · cases h
theorem e_z0 : e_z = e_rg (.inl 2147483648) := rfl
theorem e_zr {ad : Nat → Nat} {as : List Nat} : e_rel ad as (.inl 2147483648) (.int 0) := ⟨by decide, by rw [e_i0]⟩
theorem s_goto {nx : Nat} {off : Int} (hq : (e_ml[M]?).map (·.2.1) = some cc) (hd : decode cc pc = .ok (.goto off, 3)) (ht : (pc : Int) + off = (nx : Int)) : e_Sn M pc (o_goto nx) := by
  intro g hg F al st w c K hM h
  replace h : g F nx al st w c K = true := h
  obtain ⟨z, w', c', hK, hok⟩ := hg _ _ _ _ _ _ _ h
  refine ⟨z, w', c', hK, e_step hok ?_⟩
  intro p l e R s m args below meth cd Q ad D tys base nL as0 k0 s0 hC hW
  obtain ⟨hx, hb⟩ := e_cc hM hq hC
  exact e_pure (st' := st) (fun as ys h2 => ⟨ys, h2, fun H locs cells slots ls k => lv_goto hx hb hd ht k⟩) hW
theorem s_iflt {tg nx : Nat} {off : Int} (hq : (e_ml[M]?).map (·.2.1) = some cc) (hd : decode cc pc = .ok (.ifCond .lt off, 3)) (ht : (pc : Int) + off = (tg : Int)) (hnx : nx = pc + 3) : e_Sn M pc (o_iflt tg nx) := by
  intro g hg F al st w c K hM h
  unfold o_iflt at h
  split at h
  · next v r =>
    rw [e_z0] at h
    rcases e_lt_t (a := v) (b := .inl 2147483648) h with ⟨h, hv⟩ | ⟨h, hv⟩
    · obtain ⟨z, w', c', hK, hok⟩ := hg _ _ _ _ _ _ _ h
      refine ⟨z, w', c', hK, e_step hok ?_⟩
      intro p l e R s m args below meth cd Q ad D tys base nL as0 k0 s0 hC hW
      obtain ⟨hx, hb⟩ := e_cc hM hq hC
      exact e_pure (st' := r) (fun as ys h2 => by
        obtain ⟨x, y, rfl, hx9, h3⟩ := e_st_cons h2
        obtain ⟨i, j, rfl, hj, hlt⟩ := hv ad as x (.int 0) hx9 e_zr
        cases hj
        exact ⟨y, h3, fun H locs cells slots ls k => by exact lv_if_lt hx hb hd ht (fun _ => k) (fun q => absurd hlt q)⟩) hW
    · obtain ⟨z, w', c', hK, hok⟩ := hg _ _ _ _ _ _ _ h
      refine ⟨z, w', c', hK, e_step hok ?_⟩
      intro p l e R s m args below meth cd Q ad D tys base nL as0 k0 s0 hC hW
      obtain ⟨hx, hb⟩ := e_cc hM hq hC
      exact e_pure (st' := r) (fun as ys h2 => by
        obtain ⟨x, y, rfl, hx9, h3⟩ := e_st_cons h2
        obtain ⟨i, j, rfl, hj, hlt⟩ := hv ad as x (.int 0) hx9 e_zr
        cases hj
        exact ⟨y, h3, fun H locs cells slots ls k => by subst hnx; exact lv_if_lt hx hb hd ht (fun q => absurd q hlt) (fun _ => k)⟩) hW
  · cases h
theorem s_ifge {tg nx : Nat} {off : Int} (hq : (e_ml[M]?).map (·.2.1) = some cc) (hd : decode cc pc = .ok (.ifCond .ge off, 3)) (ht : (pc : Int) + off = (tg : Int)) (hnx : nx = pc + 3) : e_Sn M pc (o_iflt nx tg) := by
  intro g hg F al st w c K hM h
  unfold o_iflt at h
  split at h
  · next v r =>
    rw [e_z0] at h
    rcases e_lt_t (a := v) (b := .inl 2147483648) h with ⟨h, hv⟩ | ⟨h, hv⟩
    · obtain ⟨z, w', c', hK, hok⟩ := hg _ _ _ _ _ _ _ h
      refine ⟨z, w', c', hK, e_step hok ?_⟩
      intro p l e R s m args below meth cd Q ad D tys base nL as0 k0 s0 hC hW
      obtain ⟨hx, hb⟩ := e_cc hM hq hC
      exact e_pure (st' := r) (fun as ys h2 => by
        obtain ⟨x, y, rfl, hx9, h3⟩ := e_st_cons h2
        obtain ⟨i, j, rfl, hj, hlt⟩ := hv ad as x (.int 0) hx9 e_zr
        cases hj
        exact ⟨y, h3, fun H locs cells slots ls k => by subst hnx; exact lv_if_ge hx hb hd ht (fun q => absurd hlt (Int32.not_lt.mpr q)) (fun _ => k)⟩) hW
    · obtain ⟨z, w', c', hK, hok⟩ := hg _ _ _ _ _ _ _ h
      refine ⟨z, w', c', hK, e_step hok ?_⟩
      intro p l e R s m args below meth cd Q ad D tys base nL as0 k0 s0 hC hW
      obtain ⟨hx, hb⟩ := e_cc hM hq hC
      exact e_pure (st' := r) (fun as ys h2 => by
        obtain ⟨x, y, rfl, hx9, h3⟩ := e_st_cons h2
        obtain ⟨i, j, rfl, hj, hlt⟩ := hv ad as x (.int 0) hx9 e_zr
        cases hj
        exact ⟨y, h3, fun H locs cells slots ls k => by exact lv_if_ge hx hb hd ht (fun _ => k) (fun q => absurd (Int32.not_lt.mp hlt) q)⟩) hW
  · cases h
theorem s_ifgt {tg nx : Nat} {off : Int} (hq : (e_ml[M]?).map (·.2.1) = some cc) (hd : decode cc pc = .ok (.ifCond .gt off, 3)) (ht : (pc : Int) + off = (tg : Int)) (hnx : nx = pc + 3) : e_Sn M pc (o_ifgt tg nx) := by
  intro g hg F al st w c K hM h
  unfold o_ifgt at h
  split at h
  · next v r =>
    rw [e_z0] at h
    rcases e_lt_t (a := .inl 2147483648) (b := v) h with ⟨h, hv⟩ | ⟨h, hv⟩
    · obtain ⟨z, w', c', hK, hok⟩ := hg _ _ _ _ _ _ _ h
      refine ⟨z, w', c', hK, e_step hok ?_⟩
      intro p l e R s m args below meth cd Q ad D tys base nL as0 k0 s0 hC hW
      obtain ⟨hx, hb⟩ := e_cc hM hq hC
      exact e_pure (st' := r) (fun as ys h2 => by
        obtain ⟨x, y, rfl, hx9, h3⟩ := e_st_cons h2
        obtain ⟨j, i, hj, rfl, hlt⟩ := hv ad as (.int 0) x e_zr hx9
        cases hj
        exact ⟨y, h3, fun H locs cells slots ls k => by exact lv_if_gt hx hb hd ht (fun _ => k) (fun q => absurd hlt q)⟩) hW
    · obtain ⟨z, w', c', hK, hok⟩ := hg _ _ _ _ _ _ _ h
      refine ⟨z, w', c', hK, e_step hok ?_⟩
      intro p l e R s m args below meth cd Q ad D tys base nL as0 k0 s0 hC hW
      obtain ⟨hx, hb⟩ := e_cc hM hq hC
      exact e_pure (st' := r) (fun as ys h2 => by
        obtain ⟨x, y, rfl, hx9, h3⟩ := e_st_cons h2
        obtain ⟨j, i, hj, rfl, hlt⟩ := hv ad as (.int 0) x e_zr hx9
        cases hj
        exact ⟨y, h3, fun H locs cells slots ls k => by subst hnx; exact lv_if_gt hx hb hd ht (fun q => absurd q hlt) (fun _ => k)⟩) hW
  · cases h
theorem s_ifle {tg nx : Nat} {off : Int} (hq : (e_ml[M]?).map (·.2.1) = some cc) (hd : decode cc pc = .ok (.ifCond .le off, 3)) (ht : (pc : Int) + off = (tg : Int)) (hnx : nx = pc + 3) : e_Sn M pc (o_ifgt nx tg) := by
  intro g hg F al st w c K hM h
  unfold o_ifgt at h
  split at h
  · next v r =>
    rw [e_z0] at h
    rcases e_lt_t (a := .inl 2147483648) (b := v) h with ⟨h, hv⟩ | ⟨h, hv⟩
    · obtain ⟨z, w', c', hK, hok⟩ := hg _ _ _ _ _ _ _ h
      refine ⟨z, w', c', hK, e_step hok ?_⟩
      intro p l e R s m args below meth cd Q ad D tys base nL as0 k0 s0 hC hW
      obtain ⟨hx, hb⟩ := e_cc hM hq hC
      exact e_pure (st' := r) (fun as ys h2 => by
        obtain ⟨x, y, rfl, hx9, h3⟩ := e_st_cons h2
        obtain ⟨j, i, hj, rfl, hlt⟩ := hv ad as (.int 0) x e_zr hx9
        cases hj
        exact ⟨y, h3, fun H locs cells slots ls k => by subst hnx; exact lv_if_le hx hb hd ht (fun q => absurd hlt (Int32.not_lt.mpr q)) (fun _ => k)⟩) hW
    · obtain ⟨z, w', c', hK, hok⟩ := hg _ _ _ _ _ _ _ h
      refine ⟨z, w', c', hK, e_step hok ?_⟩
      intro p l e R s m args below meth cd Q ad D tys base nL as0 k0 s0 hC hW
      obtain ⟨hx, hb⟩ := e_cc hM hq hC
      exact e_pure (st' := r) (fun as ys h2 => by
        obtain ⟨x, y, rfl, hx9, h3⟩ := e_st_cons h2
        obtain ⟨j, i, hj, rfl, hlt⟩ := hv ad as (.int 0) x e_zr hx9
        cases hj
        exact ⟨y, h3, fun H locs cells slots ls k => by exact lv_if_le hx hb hd ht (fun _ => k) (fun q => absurd (Int32.not_lt.mp hlt) q)⟩) hW
  · cases h
theorem s_ifeq {tg nx : Nat} {off : Int} (hq : (e_ml[M]?).map (·.2.1) = some cc) (hd : decode cc pc = .ok (.ifCond .eq off, 3)) (ht : (pc : Int) + off = (tg : Int)) (hnx : nx = pc + 3) : e_Sn M pc (o_ifeq tg nx) := by
  intro g hg F al st w c K hM h
  unfold o_ifeq at h
  split at h
  · next v r =>
    rw [e_z0] at h
    rcases e_eq_t (a := v) (b := .inl 2147483648) h with ⟨h, hv⟩ | ⟨h, hv⟩
    · obtain ⟨z, w', c', hK, hok⟩ := hg _ _ _ _ _ _ _ h
      refine ⟨z, w', c', hK, e_step hok ?_⟩
      intro p l e R s m args below meth cd Q ad D tys base nL as0 k0 s0 hC hW
      obtain ⟨hx, hb⟩ := e_cc hM hq hC
      exact e_pure (st' := r) (fun as ys h2 => by
        obtain ⟨x, y, rfl, hx9, h3⟩ := e_st_cons h2
        obtain ⟨i, j, rfl, hj, hlt⟩ := hv ad as x (.int 0) hx9 e_zr
        cases hj
        exact ⟨y, h3, fun H locs cells slots ls k => by exact lv_if_eq hx hb hd ht (fun _ => k) (fun q => absurd hlt q)⟩) hW
    · obtain ⟨z, w', c', hK, hok⟩ := hg _ _ _ _ _ _ _ h
      refine ⟨z, w', c', hK, e_step hok ?_⟩
      intro p l e R s m args below meth cd Q ad D tys base nL as0 k0 s0 hC hW
      obtain ⟨hx, hb⟩ := e_cc hM hq hC
      exact e_pure (st' := r) (fun as ys h2 => by
        obtain ⟨x, y, rfl, hx9, h3⟩ := e_st_cons h2
        obtain ⟨i, j, rfl, hj, hlt⟩ := hv ad as x (.int 0) hx9 e_zr
        cases hj
        exact ⟨y, h3, fun H locs cells slots ls k => by subst hnx; exact lv_if_eq hx hb hd ht (fun q => absurd q hlt) (fun _ => k)⟩) hW
  · cases h
theorem s_ifne {tg nx : Nat} {off : Int} (hq : (e_ml[M]?).map (·.2.1) = some cc) (hd : decode cc pc = .ok (.ifCond .ne off, 3)) (ht : (pc : Int) + off = (tg : Int)) (hnx : nx = pc + 3) : e_Sn M pc (o_ifeq nx tg) := by
  intro g hg F al st w c K hM h
  unfold o_ifeq at h
  split at h
  · next v r =>
    rw [e_z0] at h
    rcases e_eq_t (a := v) (b := .inl 2147483648) h with ⟨h, hv⟩ | ⟨h, hv⟩
    · obtain ⟨z, w', c', hK, hok⟩ := hg _ _ _ _ _ _ _ h
      refine ⟨z, w', c', hK, e_step hok ?_⟩
      intro p l e R s m args below meth cd Q ad D tys base nL as0 k0 s0 hC hW
      obtain ⟨hx, hb⟩ := e_cc hM hq hC
      exact e_pure (st' := r) (fun as ys h2 => by
        obtain ⟨x, y, rfl, hx9, h3⟩ := e_st_cons h2
        obtain ⟨i, j, rfl, hj, hlt⟩ := hv ad as x (.int 0) hx9 e_zr
        cases hj
        exact ⟨y, h3, fun H locs cells slots ls k => by subst hnx; exact lv_if_ne hx hb hd ht (fun q => absurd hlt q) (fun _ => k)⟩) hW
    · obtain ⟨z, w', c', hK, hok⟩ := hg _ _ _ _ _ _ _ h
      refine ⟨z, w', c', hK, e_step hok ?_⟩
      intro p l e R s m args below meth cd Q ad D tys base nL as0 k0 s0 hC hW
      obtain ⟨hx, hb⟩ := e_cc hM hq hC
      exact e_pure (st' := r) (fun as ys h2 => by
        obtain ⟨x, y, rfl, hx9, h3⟩ := e_st_cons h2
        obtain ⟨i, j, rfl, hj, hlt⟩ := hv ad as x (.int 0) hx9 e_zr
        cases hj
        exact ⟨y, h3, fun H locs cells slots ls k => by exact lv_if_ne hx hb hd ht (fun _ => k) (fun q => absurd q hlt)⟩) hW
  · cases h
theorem s_clt {tg nx : Nat} {off : Int} (hq : (e_ml[M]?).map (·.2.1) = some cc) (hd : decode cc pc = .ok (.if_icmp .lt off, 3)) (ht : (pc : Int) + off = (tg : Int)) (hnx : nx = pc + 3) : e_Sn M pc (o_clt tg nx) := by
  intro g hg F al st w c K hM h
  unfold o_clt at h
  split at h
  · next b a r =>
    rcases e_lt_t h with ⟨h, hv⟩ | ⟨h, hv⟩
    · obtain ⟨z, w', c', hK, hok⟩ := hg _ _ _ _ _ _ _ h
      refine ⟨z, w', c', hK, e_step hok ?_⟩
      intro p l e R s m args below meth cd Q ad D tys base nL as0 k0 s0 hC hW
      obtain ⟨hx, hb⟩ := e_cc hM hq hC
      exact e_pure (st' := r) (fun as ys h2 => by
        obtain ⟨y, ys, rfl, hy9, h3⟩ := e_st_cons h2
        obtain ⟨x, ys, rfl, hx9, h4⟩ := e_st_cons h3
        obtain ⟨i, j, rfl, rfl, hlt⟩ := hv ad as x y hx9 hy9
        exact ⟨ys, h4, fun H locs cells slots ls k => by exact lv_icmp_lt hx hb hd ht (fun _ => k) (fun q => absurd hlt q)⟩) hW
    · obtain ⟨z, w', c', hK, hok⟩ := hg _ _ _ _ _ _ _ h
      refine ⟨z, w', c', hK, e_step hok ?_⟩
      intro p l e R s m args below meth cd Q ad D tys base nL as0 k0 s0 hC hW
      obtain ⟨hx, hb⟩ := e_cc hM hq hC
      exact e_pure (st' := r) (fun as ys h2 => by
        obtain ⟨y, ys, rfl, hy9, h3⟩ := e_st_cons h2
        obtain ⟨x, ys, rfl, hx9, h4⟩ := e_st_cons h3
        obtain ⟨i, j, rfl, rfl, hlt⟩ := hv ad as x y hx9 hy9
        exact ⟨ys, h4, fun H locs cells slots ls k => by subst hnx; exact lv_icmp_lt hx hb hd ht (fun q => absurd q hlt) (fun _ => k)⟩) hW
  · cases h
theorem s_cge {tg nx : Nat} {off : Int} (hq : (e_ml[M]?).map (·.2.1) = some cc) (hd : decode cc pc = .ok (.if_icmp .ge off, 3)) (ht : (pc : Int) + off = (tg : Int)) (hnx : nx = pc + 3) : e_Sn M pc (o_clt nx tg) := by
  intro g hg F al st w c K hM h
  unfold o_clt at h
  split at h
  · next b a r =>
    rcases e_lt_t h with ⟨h, hv⟩ | ⟨h, hv⟩
    · obtain ⟨z, w', c', hK, hok⟩ := hg _ _ _ _ _ _ _ h
      refine ⟨z, w', c', hK, e_step hok ?_⟩
      intro p l e R s m args below meth cd Q ad D tys base nL as0 k0 s0 hC hW
      obtain ⟨hx, hb⟩ := e_cc hM hq hC
      exact e_pure (st' := r) (fun as ys h2 => by
        obtain ⟨y, ys, rfl, hy9, h3⟩ := e_st_cons h2
        obtain ⟨x, ys, rfl, hx9, h4⟩ := e_st_cons h3
        obtain ⟨i, j, rfl, rfl, hlt⟩ := hv ad as x y hx9 hy9
        exact ⟨ys, h4, fun H locs cells slots ls k => by subst hnx; exact lv_icmp_ge hx hb hd ht (fun q => absurd hlt (Int32.not_lt.mpr q)) (fun _ => k)⟩) hW
    · obtain ⟨z, w', c', hK, hok⟩ := hg _ _ _ _ _ _ _ h
      refine ⟨z, w', c', hK, e_step hok ?_⟩
      intro p l e R s m args below meth cd Q ad D tys base nL as0 k0 s0 hC hW
      obtain ⟨hx, hb⟩ := e_cc hM hq hC
      exact e_pure (st' := r) (fun as ys h2 => by
        obtain ⟨y, ys, rfl, hy9, h3⟩ := e_st_cons h2
        obtain ⟨x, ys, rfl, hx9, h4⟩ := e_st_cons h3
        obtain ⟨i, j, rfl, rfl, hlt⟩ := hv ad as x y hx9 hy9
        exact ⟨ys, h4, fun H locs cells slots ls k => by exact lv_icmp_ge hx hb hd ht (fun _ => k) (fun q => absurd (Int32.not_lt.mp hlt) q)⟩) hW
  · cases h
theorem s_cgt {tg nx : Nat} {off : Int} (hq : (e_ml[M]?).map (·.2.1) = some cc) (hd : decode cc pc = .ok (.if_icmp .gt off, 3)) (ht : (pc : Int) + off = (tg : Int)) (hnx : nx = pc + 3) : e_Sn M pc (o_cgt tg nx) := by
  intro g hg F al st w c K hM h
  unfold o_cgt at h
  split at h
  · next b a r =>
    rcases e_lt_t h with ⟨h, hv⟩ | ⟨h, hv⟩
    · obtain ⟨z, w', c', hK, hok⟩ := hg _ _ _ _ _ _ _ h
      refine ⟨z, w', c', hK, e_step hok ?_⟩
      intro p l e R s m args below meth cd Q ad D tys base nL as0 k0 s0 hC hW
      obtain ⟨hx, hb⟩ := e_cc hM hq hC
      exact e_pure (st' := r) (fun as ys h2 => by
        obtain ⟨y, ys, rfl, hy9, h3⟩ := e_st_cons h2
        obtain ⟨x, ys, rfl, hx9, h4⟩ := e_st_cons h3
        obtain ⟨j, i, rfl, rfl, hlt⟩ := hv ad as y x hy9 hx9
        exact ⟨ys, h4, fun H locs cells slots ls k => by exact lv_icmp_gt hx hb hd ht (fun _ => k) (fun q => absurd hlt q)⟩) hW
    · obtain ⟨z, w', c', hK, hok⟩ := hg _ _ _ _ _ _ _ h
      refine ⟨z, w', c', hK, e_step hok ?_⟩
      intro p l e R s m args below meth cd Q ad D tys base nL as0 k0 s0 hC hW
      obtain ⟨hx, hb⟩ := e_cc hM hq hC
      exact e_pure (st' := r) (fun as ys h2 => by
        obtain ⟨y, ys, rfl, hy9, h3⟩ := e_st_cons h2
        obtain ⟨x, ys, rfl, hx9, h4⟩ := e_st_cons h3
        obtain ⟨j, i, rfl, rfl, hlt⟩ := hv ad as y x hy9 hx9
        exact ⟨ys, h4, fun H locs cells slots ls k => by subst hnx; exact lv_icmp_gt hx hb hd ht (fun q => absurd q hlt) (fun _ => k)⟩) hW
  · cases h
theorem s_cle {tg nx : Nat} {off : Int} (hq : (e_ml[M]?).map (·.2.1) = some cc) (hd : decode cc pc = .ok (.if_icmp .le off, 3)) (ht : (pc : Int) + off = (tg : Int)) (hnx : nx = pc + 3) : e_Sn M pc (o_cgt nx tg) := by
  intro g hg F al st w c K hM h
  unfold o_cgt at h
  split at h
  · next b a r =>
    rcases e_lt_t h with ⟨h, hv⟩ | ⟨h, hv⟩
    · obtain ⟨z, w', c', hK, hok⟩ := hg _ _ _ _ _ _ _ h
      refine ⟨z, w', c', hK, e_step hok ?_⟩
      intro p l e R s m args below meth cd Q ad D tys base nL as0 k0 s0 hC hW
      obtain ⟨hx, hb⟩ := e_cc hM hq hC
      exact e_pure (st' := r) (fun as ys h2 => by
        obtain ⟨y, ys, rfl, hy9, h3⟩ := e_st_cons h2
        obtain ⟨x, ys, rfl, hx9, h4⟩ := e_st_cons h3
        obtain ⟨j, i, rfl, rfl, hlt⟩ := hv ad as y x hy9 hx9
        exact ⟨ys, h4, fun H locs cells slots ls k => by subst hnx; exact lv_icmp_le hx hb hd ht (fun q => absurd hlt (Int32.not_lt.mpr q)) (fun _ => k)⟩) hW
    · obtain ⟨z, w', c', hK, hok⟩ := hg _ _ _ _ _ _ _ h
      refine ⟨z, w', c', hK, e_step hok ?_⟩
      intro p l e R s m args below meth cd Q ad D tys base nL as0 k0 s0 hC hW
      obtain ⟨hx, hb⟩ := e_cc hM hq hC
      exact e_pure (st' := r) (fun as ys h2 => by
        obtain ⟨y, ys, rfl, hy9, h3⟩ := e_st_cons h2
        obtain ⟨x, ys, rfl, hx9, h4⟩ := e_st_cons h3
        obtain ⟨j, i, rfl, rfl, hlt⟩ := hv ad as y x hy9 hx9
        exact ⟨ys, h4, fun H locs cells slots ls k => by exact lv_icmp_le hx hb hd ht (fun _ => k) (fun q => absurd (Int32.not_lt.mp hlt) q)⟩) hW
  · cases h
theorem s_ceq {tg nx : Nat} {off : Int} (hq : (e_ml[M]?).map (·.2.1) = some cc) (hd : decode cc pc = .ok (.if_icmp .eq off, 3)) (ht : (pc : Int) + off = (tg : Int)) (hnx : nx = pc + 3) : e_Sn M pc (o_ceq tg nx) := by
  intro g hg F al st w c K hM h
  unfold o_ceq at h
  split at h
  · next b a r =>
    rcases e_eq_t h with ⟨h, hv⟩ | ⟨h, hv⟩
    · obtain ⟨z, w', c', hK, hok⟩ := hg _ _ _ _ _ _ _ h
      refine ⟨z, w', c', hK, e_step hok ?_⟩
      intro p l e R s m args below meth cd Q ad D tys base nL as0 k0 s0 hC hW
      obtain ⟨hx, hb⟩ := e_cc hM hq hC
      exact e_pure (st' := r) (fun as ys h2 => by
        obtain ⟨y, ys, rfl, hy9, h3⟩ := e_st_cons h2
        obtain ⟨x, ys, rfl, hx9, h4⟩ := e_st_cons h3
        obtain ⟨i, j, rfl, rfl, hlt⟩ := hv ad as x y hx9 hy9
        exact ⟨ys, h4, fun H locs cells slots ls k => by exact lv_icmp_eq hx hb hd ht (fun _ => k) (fun q => absurd hlt q)⟩) hW
    · obtain ⟨z, w', c', hK, hok⟩ := hg _ _ _ _ _ _ _ h
      refine ⟨z, w', c', hK, e_step hok ?_⟩
      intro p l e R s m args below meth cd Q ad D tys base nL as0 k0 s0 hC hW
      obtain ⟨hx, hb⟩ := e_cc hM hq hC
      exact e_pure (st' := r) (fun as ys h2 => by
        obtain ⟨y, ys, rfl, hy9, h3⟩ := e_st_cons h2
        obtain ⟨x, ys, rfl, hx9, h4⟩ := e_st_cons h3
        obtain ⟨i, j, rfl, rfl, hlt⟩ := hv ad as x y hx9 hy9
        exact ⟨ys, h4, fun H locs cells slots ls k => by subst hnx; exact lv_icmp_eq hx hb hd ht (fun q => absurd q hlt) (fun _ => k)⟩) hW
  · cases h
theorem s_cne {tg nx : Nat} {off : Int} (hq : (e_ml[M]?).map (·.2.1) = some cc) (hd : decode cc pc = .ok (.if_icmp .ne off, 3)) (ht : (pc : Int) + off = (tg : Int)) (hnx : nx = pc + 3) : e_Sn M pc (o_ceq nx tg) := by
  intro g hg F al st w c K hM h
  unfold o_ceq at h
  split at h
  · next b a r =>
    rcases e_eq_t h with ⟨h, hv⟩ | ⟨h, hv⟩
    · obtain ⟨z, w', c', hK, hok⟩ := hg _ _ _ _ _ _ _ h
      refine ⟨z, w', c', hK, e_step hok ?_⟩
      intro p l e R s m args below meth cd Q ad D tys base nL as0 k0 s0 hC hW
      obtain ⟨hx, hb⟩ := e_cc hM hq hC
      exact e_pure (st' := r) (fun as ys h2 => by
        obtain ⟨y, ys, rfl, hy9, h3⟩ := e_st_cons h2
        obtain ⟨x, ys, rfl, hx9, h4⟩ := e_st_cons h3
        obtain ⟨i, j, rfl, rfl, hlt⟩ := hv ad as x y hx9 hy9
        exact ⟨ys, h4, fun H locs cells slots ls k => by subst hnx; exact lv_icmp_ne hx hb hd ht (fun q => absurd hlt q) (fun _ => k)⟩) hW
    · obtain ⟨z, w', c', hK, hok⟩ := hg _ _ _ _ _ _ _ h
      refine ⟨z, w', c', hK, e_step hok ?_⟩
      intro p l e R s m args below meth cd Q ad D tys base nL as0 k0 s0 hC hW
      obtain ⟨hx, hb⟩ := e_cc hM hq hC
      exact e_pure (st' := r) (fun as ys h2 => by
        obtain ⟨y, ys, rfl, hy9, h3⟩ := e_st_cons h2
        obtain ⟨x, ys, rfl, hx9, h4⟩ := e_st_cons h3
        obtain ⟨i, j, rfl, rfl, hlt⟩ := hv ad as x y hx9 hy9
        exact ⟨ys, h4, fun H locs cells slots ls k => by exact lv_icmp_ne hx hb hd ht (fun _ => k) (fun q => absurd q hlt)⟩) hW
  · cases h
theorem s_ifnull {tg nx : Nat} {off : Int} (hq : (e_ml[M]?).map (·.2.1) = some cc) (hd : decode cc pc = .ok (.ifnull off, 3)) (ht : (pc : Int) + off = (tg : Int)) (hnx : nx = pc + 3) : e_Sn M pc (o_null tg nx) := by
  intro g hg F al st w c K hM h
  unfold o_null at h
  split at h
  · next i r =>
    obtain ⟨z, w', c', hK, hok⟩ := hg _ _ _ _ _ _ _ h
    refine ⟨z, w', c', hK, e_step hok ?_⟩
    intro p l e R s m args below meth cd Q ad D tys base nL as0 k0 s0 hC hW
    obtain ⟨hx, hb⟩ := e_cc hM hq hC
    exact e_pure (st' := r) (fun as ys h2 => by
      obtain ⟨x, y, rfl, ⟨a, -, rfl⟩, h3⟩ := e_st_cons h2
      exact ⟨y, h3, fun H locs cells slots ls k => by subst hnx; exact lv_ifnull hx hb hd k⟩) hW
  · next r =>
    obtain ⟨z, w', c', hK, hok⟩ := hg _ _ _ _ _ _ _ h
    refine ⟨z, w', c', hK, e_step hok ?_⟩
    intro p l e R s m args below meth cd Q ad D tys base nL as0 k0 s0 hC hW
    obtain ⟨hx, hb⟩ := e_cc hM hq hC
    exact e_pure (st' := r) (fun as ys h2 => by
      obtain ⟨x, y, rfl, hx9, h3⟩ := e_st_cons h2
      cases (show x = .null from hx9)
      exact ⟨y, h3, fun H locs cells slots ls k => by exact lv_ifnullN hx hb hd ht k⟩) hW
  · cases h
theorem s_ifnonnull {tg nx : Nat} {off : Int} (hq : (e_ml[M]?).map (·.2.1) = some cc) (hd : decode cc pc = .ok (.ifnonnull off, 3)) (ht : (pc : Int) + off = (tg : Int)) (hnx : nx = pc + 3) : e_Sn M pc (o_null nx tg) := by
  intro g hg F al st w c K hM h
  unfold o_null at h
  split at h
  · next i r =>
    obtain ⟨z, w', c', hK, hok⟩ := hg _ _ _ _ _ _ _ h
    refine ⟨z, w', c', hK, e_step hok ?_⟩
    intro p l e R s m args below meth cd Q ad D tys base nL as0 k0 s0 hC hW
    obtain ⟨hx, hb⟩ := e_cc hM hq hC
    exact e_pure (st' := r) (fun as ys h2 => by
      obtain ⟨x, y, rfl, ⟨a, -, rfl⟩, h3⟩ := e_st_cons h2
      exact ⟨y, h3, fun H locs cells slots ls k => by exact lv_ifnonnull hx hb hd ht k⟩) hW
  · next r =>
    obtain ⟨z, w', c', hK, hok⟩ := hg _ _ _ _ _ _ _ h
    refine ⟨z, w', c', hK, e_step hok ?_⟩
    intro p l e R s m args below meth cd Q ad D tys base nL as0 k0 s0 hC hW
    obtain ⟨hx, hb⟩ := e_cc hM hq hC
    exact e_pure (st' := r) (fun as ys h2 => by
      obtain ⟨x, y, rfl, hx9, h3⟩ := e_st_cons h2
      cases (show x = .null from hx9)
      exact ⟨y, h3, fun H locs cells slots ls k => by subst hnx; exact lv_ifnonnullN hx hb hd k⟩) hW
  · cases h
theorem s_acmpeq {tg nx : Nat} {off : Int} (hq : (e_ml[M]?).map (·.2.1) = some cc) (hd : decode cc pc = .ok (.if_acmp .eq off, 3)) (ht : (pc : Int) + off = (tg : Int)) (hnx : nx = pc + 3) : e_Sn M pc (o_acmp tg nx) := by
  intro g hg F al st w c K hM h
  unfold o_acmp at h
  split at h
  · next b a r =>
    cases hbc : Nat.beq a b with
    | false => rw [hbc, cond_false] at h; cases h
    | true =>
      rw [hbc, cond_true] at h
      cases Nat.eq_of_beq_eq_true hbc
      obtain ⟨z, w', c', hK, hok⟩ := hg _ _ _ _ _ _ _ h
      refine ⟨z, w', c', hK, e_step hok ?_⟩
      intro p l e R s m args below meth cd Q ad D tys base nL as0 k0 s0 hC hW
      obtain ⟨hx, hb⟩ := e_cc hM hq hC
      exact e_pure (st' := r) (fun as ys h2 => by
        obtain ⟨y, ys, rfl, hy9, h3⟩ := e_st_cons h2
        obtain ⟨x, ys, rfl, hx9, h4⟩ := e_st_cons h3
        cases (show x = .ref (ad b) from hx9)
        cases (show y = .ref (ad b) from hy9)
        exact ⟨ys, h4, fun H locs cells slots ls k => by subst hnx; exact lv_acmp_eq (rx := some (ad b)) (ry := some (ad b)) hx hb hd ht (fun _ => k) (fun q => absurd rfl q)⟩) hW
  · cases h
theorem s_acmpne {tg nx : Nat} {off : Int} (hq : (e_ml[M]?).map (·.2.1) = some cc) (hd : decode cc pc = .ok (.if_acmp .ne off, 3)) (ht : (pc : Int) + off = (tg : Int)) (hnx : nx = pc + 3) : e_Sn M pc (o_acmp nx tg) := by
  intro g hg F al st w c K hM h
  unfold o_acmp at h
  split at h
  · next b a r =>
    cases hbc : Nat.beq a b with
    | false => rw [hbc, cond_false] at h; cases h
    | true =>
      rw [hbc, cond_true] at h
      cases Nat.eq_of_beq_eq_true hbc
      obtain ⟨z, w', c', hK, hok⟩ := hg _ _ _ _ _ _ _ h
      refine ⟨z, w', c', hK, e_step hok ?_⟩
      intro p l e R s m args below meth cd Q ad D tys base nL as0 k0 s0 hC hW
      obtain ⟨hx, hb⟩ := e_cc hM hq hC
      exact e_pure (st' := r) (fun as ys h2 => by
        obtain ⟨y, ys, rfl, hy9, h3⟩ := e_st_cons h2
        obtain ⟨x, ys, rfl, hx9, h4⟩ := e_st_cons h3
        cases (show x = .ref (ad b) from hx9)
        cases (show y = .ref (ad b) from hy9)
        exact ⟨ys, h4, fun H locs cells slots ls k => by subst hnx; exact lv_acmp_ne (rx := some (ad b)) (ry := some (ad b)) hx hb hd ht (fun q => absurd rfl q) (fun _ => k)⟩) hW
  · cases h
theorem e_tgt_t {ts : List Nat} : ∀ {n i t : Nat}, e_tgt ts i n = some t → ∀ j, i ≤ j → j ≤ i + n → ts[j]? = some t
  | 0, i, t, h, j, h1, h2 => by
    obtain rfl : i = j := by omega
    rw [← e_nth_eq]; exact h
  | n + 1, i, t, h, j, h1, h2 => by
    unfold e_tgt at h
    split at h
    · next a b ha hb =>
      cases hbc : Nat.beq a b with
      | false => rw [hbc, cond_false] at h; cases h
      | true =>
        rw [hbc, cond_true] at h
        cases h
        by_cases hj : j = i + n + 1
        · subst hj
          rw [← e_nth_eq, ha, Nat.eq_of_beq_eq_true hbc]
        · exact e_tgt_t hb j h1 (by omega)
    · cases h
theorem s_switch {lo d len : Nat} {ts : List Nat} {dflt low hi : Int} {offs : Array Int} (hq : (e_ml[M]?).map (·.2.1) = some cc) (hd : decode cc pc = .ok (.tableswitch dflt low hi offs, len)) (hlo : (lo : Int) = low + 2147483648) (hhi : hi = low + ts.length - 1) (hdf : (pc : Int) + dflt = (d : Int)) (hts : offs.toList.map (fun o => (pc : Int) + o) = ts.map (fun t : Nat => (t : Int))) : e_Sn M pc (o_switch lo ts d) := by
  intro g hg F al st w c K hM h
  unfold o_switch at h
  split at h
  · next a r =>
    split at h
    · next l1 h1 ha =>
      cases g1 : Nat.blt h1 lo with
      | true =>
        rw [g1, cond_true] at h
        replace g1 : h1 < lo := Nat.le_of_ble_eq_true g1
        obtain ⟨z, w', c', hK, hok⟩ := hg _ _ _ _ _ _ _ h
        refine ⟨z, w', c', hK, e_step hok ?_⟩
        intro p l e R s m args below meth cd Q ad D tys base nL as0 k0 s0 hC hW
        obtain ⟨hx, hb⟩ := e_cc hM hq hC
        exact e_pure (st' := r) (fun as ys h2 => by
          obtain ⟨x, y, rfl, hx9, h3⟩ := e_st_cons h2
          obtain ⟨i, i1, i2, i3, rfl⟩ := e_rel_rg hx9 ha
          dsimp only at i1 i2
          exact ⟨y, h3, fun H locs cells slots ls k => lv_tableOut hx hb hd (Or.inl (by rw [e_i_int i3]; omega)) hdf k⟩) hW
      | false =>
        rw [g1, cond_false] at h
        cases g2 : Nat.ble (lo + ts.length) l1 with
        | true =>
          rw [g2, cond_true] at h
          replace g2 := Nat.le_of_ble_eq_true g2
          obtain ⟨z, w', c', hK, hok⟩ := hg _ _ _ _ _ _ _ h
          refine ⟨z, w', c', hK, e_step hok ?_⟩
          intro p l e R s m args below meth cd Q ad D tys base nL as0 k0 s0 hC hW
          obtain ⟨hx, hb⟩ := e_cc hM hq hC
          exact e_pure (st' := r) (fun as ys h2 => by
            obtain ⟨x, y, rfl, hx9, h3⟩ := e_st_cons h2
            obtain ⟨i, i1, i2, i3, rfl⟩ := e_rel_rg hx9 ha
            dsimp only at i1 i2
            exact ⟨y, h3, fun H locs cells slots ls k => lv_tableOut hx hb hd (Or.inr (by rw [e_i_int i3]; omega)) hdf k⟩) hW
        | false =>
          rw [g2, cond_false] at h
          cases g3 : (Nat.ble lo l1 && Nat.blt h1 (lo + ts.length)) with
          | false => rw [g3, cond_false] at h; cases h
          | true =>
            rw [g3, cond_true] at h
            obtain ⟨g4, g5⟩ := (Bool.and_eq_true _ _).mp g3
            replace g4 := Nat.le_of_ble_eq_true g4
            replace g5 : h1 < lo + ts.length := Nat.le_of_ble_eq_true g5
            split at h
            · next t ht =>
              obtain ⟨z, w', c', hK, hok⟩ := hg _ _ _ _ _ _ _ h
              refine ⟨z, w', c', hK, e_step hok ?_⟩
              intro p l e R s m args below meth cd Q ad D tys base nL as0 k0 s0 hC hW
              obtain ⟨hx, hb⟩ := e_cc hM hq hC
              exact e_pure (st' := r) (fun as ys h2 => by
                obtain ⟨x, y, rfl, hx9, h3⟩ := e_st_cons h2
                obtain ⟨i, i1, i2, i3, rfl⟩ := e_rel_rg hx9 ha
                dsimp only at i1 i2
                refine ⟨y, h3, fun H locs cells slots ls k => ?_⟩
                have hj : ((e_i i).toInt - low).toNat = i - lo := by rw [e_i_int i3]; omega
                have ht2 := e_tgt_t ht (i - lo) (by omega) (by omega)
                have h8 : (offs.toList.map (fun o => (pc : Int) + o))[i - lo]? = some (t : Int) := by rw [hts, List.getElem?_map, ht2]; rfl
                rw [List.getElem?_map] at h8
                cases h10 : offs.toList[i - lo]? with
                | none => rw [h10] at h8; cases h8
                | some off =>
                  rw [h10] at h8
                  have h11 : (pc : Int) + off = (t : Int) := Option.some.inj h8
                  exact lv_tableIn hx hb hd (by rw [e_i_int i3]; omega) (by rw [e_i_int i3]; omega) (by rw [hj, ← Array.getElem?_toList]; exact h10) h11 k) hW
            · cases h
    · cases h
  · cases h
theorem s_iinc {n d nx : Nat} {zz : Int} (hq : (e_ml[M]?).map (·.2.1) = some cc) (hd : decode cc pc = .ok (.iinc n zz, 3)) (hnx : nx = pc + 3) (hz : (d : Int) = zz ∨ (d : Int) = zz + 4294967296) (hz2 : -32768 ≤ zz ∧ zz ≤ 32767) : e_Sn M pc (o_iinc n d nx) := by
  intro g hg F al st w c K hM h
  unfold o_iinc at h
  split at h
  · next m9 hv =>
    replace h := e_fo_t h
    obtain ⟨al', h, e1, e3, e2⟩ := e_lst_t h
    obtain ⟨z, w', c', hK, hok⟩ := hg _ _ _ _ _ _ _ h
    refine ⟨z, w', c', hK, e_step hok ?_⟩
    intro p l e R s m args below meth cd Q ad D tys base nL as0 k0 s0 hC hW
    obtain ⟨hx, hb⟩ := e_cc hM hq hC
    intro as ws H locs ls ys hS
    obtain ⟨⟨hl, lv, hlv, h3⟩, h4⟩ := hS
    rw [e_nth_eq] at hv
    obtain ⟨x, hx1, hx2, rfl⟩ := h3 n _ hv
    obtain ⟨i, hi⟩ := List.getElem?_of_mem hx1
    have h5 : e_i m9 + Int32.ofInt zz = e_i ((m9 + d) % 4294967296) := by
      apply e_i_eq (Nat.mod_lt _ (by decide))
      rw [Int32.toInt_add, e_i_int hx2, Int32.toInt_ofInt, show Int32.size = 4294967296 from rfl, Int.bmod_def, Int.bmod_def]
      split <;> split <;> omega
    subst hnx
    exact lv_iinc hx hb hd hlv hi h5 (by omega) rfl fun ls' hls' => hW as ws H locs ls' ys ⟨e_lo_store (v := .inl ((m9 + d) % 4294967296)) (ls := ls) hl ⟨Nat.mod_lt _ (by decide), rfl⟩ h3 e1 e2 hls' rfl, h4⟩
  · cases h
theorem s_lstore {n nx len : Nat} {i : Instr} (hq : (e_ml[M]?).map (·.2.1) = some cc) (hd : decode cc pc = .ok (i, len)) (hnx : nx = pc + len) (hi : i = .lstore n ∧ len = 2 ∨ (∃ k : Fin 4, k.val = n ∧ i = .lstore_n k ∧ len = 1)) : e_Sn M pc (o_storeL n nx) := by
  intro g hg F al st w c K hM h
  unfold o_storeL at h
  split at h
  · next v r =>
    cases ho : e_okL v with
    | false => rw [ho, cond_false] at h; cases h
    | true =>
      rw [ho, cond_true] at h
      obtain ⟨a1, h, f1, f3, f2⟩ := e_lst_t h
      obtain ⟨al', h, e1, e3, e2⟩ := e_lst_t h
      obtain ⟨z, w', c', hK, hok⟩ := hg _ _ _ _ _ _ _ h
      refine ⟨z, w', c', hK, e_step hok ?_⟩
      intro p l e R s m args below meth cd Q ad D tys base nL as0 k0 s0 hC hW
      obtain ⟨hx, hb⟩ := e_cc hM hq hC
      intro as ws H locs ls ys hS
      obtain ⟨⟨hl, lv, hlv, h3⟩, h2, h4⟩ := hS
      obtain ⟨x, ys, rfl, hr, h5⟩ := e_st_cons h2
      obtain ⟨y, rfl⟩ := e_rel_L hr ho
      have key : ∀ ls', lv_has ls' nL ((n, Value.long y) :: lv.filter (fun q => !(q.1 == n) && (!(q.1 == n + 1) && !(q.1 + 1 == n && q.2.category == 2)))) → e_lo ad as al' ls' nL := by
        intro ls' hls'
        refine ⟨by omega, _, hls', fun j u hj => ?_⟩
        rcases e2 j u hj with ⟨rfl, e⟩ | ⟨hne, t, ht, g1, g2⟩
        · cases e
          exact ⟨_, List.mem_cons_self, hr⟩
        · rcases f2 j t ht with ⟨rfl, e⟩ | ⟨hne2, t2, ht2, g3, g4⟩
          · cases e
          · have e9 : t2 = t := g3 (by omega)
            subst e9
            obtain ⟨y2, hy2, hry⟩ := h3 j t2 ht2
            by_cases hj1 : j + 1 = n
            · obtain ⟨rfl, hc⟩ := e_rel_1 hry (g2 hj1)
              exact ⟨y2, List.mem_cons_of_mem _ (List.mem_filter.mpr ⟨hy2, by simp [hne, hne2, hc]⟩), hry⟩
            · rw [← g1 hj1]
              exact ⟨y2, List.mem_cons_of_mem _ (List.mem_filter.mpr ⟨hy2, by simp [hne, hne2, hj1]⟩), hry⟩
      subst hnx
      rcases hi with ⟨rfl, rfl⟩ | ⟨k, hk, rfl, rfl⟩
      · exact lv_lstore hx hb hd hlv (by omega) rfl fun ls' hls' => hW as ws H locs ls' ys ⟨key ls' hls', h5, h4⟩
      · exact lv_lstore_n hx hb hd hk hlv (by omega) rfl fun ls' hls' => hW as ws H locs ls' ys ⟨key ls' hls', h5, h4⟩
  · cases h
theorem s_gets {nx k index : Nat} {own C f d : String} (hq : (e_ml[M]?).map (·.2.1) = some cc) (ho : (e_ml[M]?).map (·.1.cls) = some own) (hk : Jvm.Cond.fieldLink own index C f d ∈ lw_tbl) (hv : (C, f, d, k) ∈ e_sv) (hd : decode cc pc = .ok (.getstatic index, 3)) (hnx : nx = pc + 3) : e_Sn M pc (o_push (e_B k) nx) := by
  intro g hg F al st w c K hM h
  replace h : g F nx al (e_B k :: st) w c K = true := h
  obtain ⟨z, w', c', hK, hok⟩ := hg _ _ _ _ _ _ _ h
  refine ⟨z, w', c', hK, e_step hok ?_⟩
  intro p l e R s m args below meth cd Q ad D tys base nL as0 k0 s0 hC hW
  obtain ⟨hx, hb⟩ := e_cc hM hq hC
  intro as ws H locs ls ys hS
  obtain ⟨h1, h2, h3, h4, h5, h6, h7⟩ := hS
  subst hnx
  have hsf := hC.2.2.2.2.2.2.1.2.1 (C, f, d, k) hv
  exact va_gets (A := e_A0 base) hx hb hsf h6 (e_own hM ho hC) (e_wd hC hk rfl) (fun _ h => h) hd (hW as ws H locs ls (.ref (ad k) :: ys) ⟨h1, ⟨rfl, h2⟩, h3, h4, h5, h6, h7⟩)
end SN
end
section
/-! THE PICTURE'S CELLS -/
theorem e_tput_t {x : e_C} : ∀ (n : Nat) (t : e_T n) (i : Nat) (k : e_T n → Bool), i < 2 ^ n → e_tput x n t i k = true → ∃ t', k t' = true ∧ ∀ j, j < 2 ^ n → e_tget n t' j = if j = i then x else e_tget n t j
  | 0, t, i, k, hi, h => ⟨x, h, fun j hj => by
    have h1 : j = i := by simp at hi hj; omega
    rw [if_pos h1]; rfl⟩
  | n + 1, t, i, k, hi, h => by
    have hp : (2 : Nat) ^ (n + 1) = 2 ^ n + 2 ^ n := by rw [Nat.pow_succ]; omega
    obtain ⟨a, b⟩ : e_T n × e_T n := t
    replace h : (bif Nat.blt i (2 ^ n) then e_tput x n a i (fun a' => k (show e_T (n + 1) from ((a', b) : e_T n × e_T n))) else e_tput x n b (i - 2 ^ n) (fun b' => k (show e_T (n + 1) from ((a, b') : e_T n × e_T n)))) = true := h
    have hg : ∀ (a b : e_T n) (j : Nat), e_tget (n + 1) (show e_T (n + 1) from ((a, b) : e_T n × e_T n)) j = bif Nat.blt j (2 ^ n) then e_tget n a j else e_tget n b (j - 2 ^ n) := fun _ _ _ => rfl
    cases hb : Nat.blt i (2 ^ n) with
    | true =>
      rw [hb, cond_true] at h
      replace hb : i < 2 ^ n := Nat.le_of_ble_eq_true hb
      obtain ⟨a', h1, h2⟩ := e_tput_t n a i _ hb h
      refine ⟨_, h1, fun j hj => ?_⟩
      rw [hg]
      refine Eq.trans ?_ (congrArg (fun z => if j = i then x else z) (hg a b j).symm)
      cases hc : Nat.blt j (2 ^ n) with
      | true =>
        replace hc : j < 2 ^ n := Nat.le_of_ble_eq_true hc
        rw [cond_true, cond_true]
        exact h2 j hc
      | false =>
        have hc2 : ¬ j < 2 ^ n := fun q => by rw [show Nat.blt j (2 ^ n) = true from Nat.ble_eq_true_of_le q] at hc; cases hc
        rw [cond_false, cond_false, if_neg (by omega)]
    | false =>
      rw [hb, cond_false] at h
      have hb2 : ¬ i < 2 ^ n := fun q => by rw [show Nat.blt i (2 ^ n) = true from Nat.ble_eq_true_of_le q] at hb; cases hb
      obtain ⟨b', h1, h2⟩ := e_tput_t n b (i - 2 ^ n) _ (by omega) h
      refine ⟨_, h1, fun j hj => ?_⟩
      rw [hg]
      refine Eq.trans ?_ (congrArg (fun z => if j = i then x else z) (hg a b j).symm)
      cases hc : Nat.blt j (2 ^ n) with
      | true =>
        replace hc : j < 2 ^ n := Nat.le_of_ble_eq_true hc
        rw [cond_true, cond_true, if_neg (by omega)]
      | false =>
        have hc2 : ¬ j < 2 ^ n := fun q => by rw [show Nat.blt j (2 ^ n) = true from Nat.ble_eq_true_of_le q] at hc; cases hc
        rw [cond_false, cond_false, h2 (j - 2 ^ n) (by omega)]
        by_cases hj2 : j = i
        · rw [if_pos hj2, if_pos (by omega)]
        · rw [if_neg hj2, if_neg (by omega)]
theorem e_blt_f {a b : Nat} (h : Nat.blt a b = false) : ¬ a < b := fun q => by rw [show Nat.blt a b = true from Nat.ble_eq_true_of_le q] at h; cases h
theorem e_rep_t {α : Type} {x : α} : ∀ {l : List α} {n : Nat} {k : List α → Bool}, e_rep x l n k = true → n < l.length ∧ k (l.set n x) = true
  | [], _, _, h => by unfold e_rep at h; cases h
  | _ :: l, 0, k, h => ⟨by simp, h⟩
  | a :: l, n + 1, k, h => by
    obtain ⟨h1, h2⟩ := e_rep_t (l := l) (n := n) (k := fun l' => k (a :: l')) h
    exact ⟨by simp; omega, h2⟩
-- runs
theorem e_rget_t : ∀ {rs : List (Nat × e_V)} {i j : Nat} {v : e_V}, e_rget rs i j = some v → i ≤ j → ∀ k, i ≤ k → k ≤ j → e_rat rs k = some v ∧ k < e_rlen rs
  | [], _, _, _, h, _, _, _, _ => by cases h
  | (n, u) :: l, i, j, v, h, hij, k, h1, h2 => by
    unfold e_rget at h
    unfold e_rat e_rget
    cases hb : Nat.blt i n with
    | true =>
      rw [hb, cond_true] at h
      cases hb2 : Nat.blt j n with
      | true =>
        rw [hb2, cond_true] at h
        replace hb2 : j < n := Nat.le_of_ble_eq_true hb2
        have hk : Nat.blt k n = true := Nat.ble_eq_true_of_le (show k < n by omega)
        rw [hk, cond_true, cond_true]
        exact ⟨h, show k < n + e_rlen l by omega⟩
      | false => rw [hb2, cond_false] at h; cases h
    | false =>
      rw [hb, cond_false] at h
      have hb2 := e_blt_f hb
      have hk : Nat.blt k n = false := by
        cases hc : Nat.blt k n with
        | false => rfl
        | true => exact absurd (Nat.le_of_ble_eq_true hc : k < n) (by omega)
      obtain ⟨g1, g2⟩ := e_rget_t h (by omega) (k - n) (by omega) (by omega)
      rw [hk, cond_false]
      exact ⟨g1, show k < n + e_rlen l by omega⟩
theorem e_rat_lt {rs : List (Nat × e_V)} {j : Nat} {v : e_V} (h : e_rat rs j = some v) : j < e_rlen rs := (e_rget_t h (Nat.le_refl _) j (Nat.le_refl _) (Nat.le_refl _)).2
theorem e_rat_cons (n : Nat) (v : e_V) (l : List (Nat × e_V)) (j : Nat) : e_rat ((n, v) :: l) j = if j < n then some v else e_rat l (j - n) := by
  unfold e_rat
  rw [show e_rget ((n, v) :: l) j j = bif Nat.blt j n then (bif Nat.blt j n then some v else none) else e_rget l (j - n) (j - n) from rfl]
  cases hb : Nat.blt j n with
  | true =>
    have hb' : j < n := Nat.le_of_ble_eq_true hb
    rw [if_pos hb']; rfl
  | false => rw [if_neg (e_blt_f hb)]; rfl
theorem e_same_t {a b : e_V} (h : e_same a b = true) : a = b := by
  unfold e_same at h
  split at h
  · rw [Nat.eq_of_beq_eq_true h]
  · rw [Nat.eq_of_beq_eq_true h]
  · rfl
  · rw [Nat.eq_of_beq_eq_true h]
  · cases h
theorem e_cons_t {n : Nat} {v : e_V} {l : List (Nat × e_V)} {k : List (Nat × e_V) → Bool} (h : e_cons n v l k = true) : ∃ l', k l' = true ∧ e_rlen l' = n + e_rlen l ∧ ∀ j, e_rat l' j = if j < n then some v else e_rat l (j - n) := by
  cases n with
  | zero => exact ⟨l, h, by omega, fun j => by rw [if_neg (by omega), Nat.sub_zero]⟩
  | succ z =>
    cases l with
    | nil => exact ⟨[(Nat.succ z, v)], h, by simp [e_rlen], fun j => by rw [e_rat_cons]⟩
    | cons q t =>
      obtain ⟨m, u⟩ := q
      replace h : (bif e_same v u then e_fo (z + 1 + m) (fun q => k ((q, u) :: t)) else k ((Nat.succ z, v) :: (m, u) :: t)) = true := h
      cases hb : e_same v u with
      | true =>
        rw [hb, cond_true] at h
        have hv := e_same_t hb
        subst hv
        refine ⟨_, e_fo_t h, by simp only [e_rlen]; omega, fun j => ?_⟩
        rw [e_rat_cons, e_rat_cons]
        by_cases h1 : j < z + 1
        · rw [if_pos (by omega), if_pos h1]
        · rw [if_neg h1]
          by_cases h2 : j - (z + 1) < m
          · rw [if_pos (by omega), if_pos h2]
          · rw [if_neg (by omega), if_neg h2]
            congr 1
            omega
      | false =>
        rw [hb, cond_false] at h
        exact ⟨_, h, by simp only [e_rlen], fun j => by rw [e_rat_cons]⟩
theorem e_rset_t {x : e_V} : ∀ {rs : List (Nat × e_V)} {i : Nat} {k : List (Nat × e_V) → Bool}, e_rset x rs i k = true → ∃ rs', k rs' = true ∧ i < e_rlen rs ∧ e_rlen rs' = e_rlen rs ∧ ∀ j, e_rat rs' j = if j = i then some x else e_rat rs j
  | [], _, _, h => by cases h
  | (n, v) :: l, i, k, h => by
    unfold e_rset at h
    cases hb : Nat.blt i n with
    | true =>
      rw [hb, cond_true] at h
      replace hb : i < n := Nat.le_of_ble_eq_true hb
      obtain ⟨l1, h, a1, b1⟩ := e_cons_t h
      obtain ⟨l2, h, a2, b2⟩ := e_cons_t h
      obtain ⟨l3, h, a3, b3⟩ := e_cons_t h
      refine ⟨l3, h, show i < n + e_rlen l by omega, show e_rlen l3 = n + e_rlen l by omega, fun j => ?_⟩
      rw [b3, e_rat_cons]
      by_cases h1 : j < i
      · rw [if_pos h1, if_neg (by omega), if_pos (by omega)]
      · rw [if_neg h1, b2]
        by_cases h2 : j = i
        · rw [if_pos (by omega), if_pos h2]
        · rw [if_neg (by omega), if_neg h2, b1]
          by_cases h3 : j < n
          · rw [if_pos (by omega), if_pos h3]
          · rw [if_neg (by omega), if_neg h3]
            congr 1
            omega
    | false =>
      rw [hb, cond_false] at h
      have hb2 := e_blt_f hb
      obtain ⟨l1, h, a1, a2, b1⟩ := e_rset_t h
      obtain ⟨l2, h, a3, b2⟩ := e_cons_t h
      refine ⟨l2, h, show i < n + e_rlen l by omega, show e_rlen l2 = n + e_rlen l by omega, fun j => ?_⟩
      rw [b2, e_rat_cons]
      by_cases h1 : j < n
      · rw [if_pos h1, if_neg (by omega), if_pos h1]
      · rw [if_neg h1, if_neg h1, b1]
        by_cases h2 : j = i
        · rw [if_pos (by omega), if_pos h2]
        · rw [if_neg (by omega), if_neg h2]
-- the world
theorem e_wk_set {ad : Nat → Nat} {as : List Nat} {tys : List (ClassId × FieldType)} {w w' : e_W} {n q a : Nat} {ws : va_W} {e0 e' : va_E} {x : e_C} (h : e_wk ad as tys w n ws) (hq : ws[q]? = some (a, e0)) (hw : ∀ j, j < 2 ^ 9 → e_tget 9 w' j = if j = q then x else e_tget 9 w j) (hx : e_ent ad as tys x e') : e_wk ad as tys w' n (ws.set q (a, e')) := by
  obtain ⟨h1, h2, h3, h4⟩ := h
  have hlt : q < ws.length := (List.getElem?_eq_some_iff.mp hq).1
  refine ⟨?_, by simp [h2], h3, fun i z hz => ?_⟩
  · rw [← h1, List.map_set]
    apply List.ext_getElem?
    intro j
    rw [List.getElem?_set]
    split
    · next hj =>
      subst hj
      split
      · rw [List.getElem?_map, hq]; rfl
      · next hn => simp at hn; omega
    · rfl
  · have hi : i < 512 := by
      have := (List.getElem?_eq_some_iff.mp hz).1
      simp at this
      omega
    rw [hw i hi]
    rw [List.getElem?_set] at hz
    by_cases hiq : q = i
    · subst hiq
      rw [if_pos rfl, if_pos hlt] at hz
      cases hz
      rw [if_pos rfl]
      exact hx
    · rw [if_neg hiq] at hz
      rw [if_neg (fun z => hiq z.symm)]
      exact h4 i z hz
theorem e_wk_push {ad : Nat → Nat} {as : List Nat} {tys : List (ClassId × FieldType)} {w w' : e_W} {n a : Nat} {ws : va_W} {e' : va_E} {x : e_C} (h : e_wk ad as tys w n ws) (hn : n < 512) (hw : ∀ j, j < 2 ^ 9 → e_tget 9 w' j = if j = n then x else e_tget 9 w j) (hx : e_ent ad (as ++ [a]) tys x e') : e_wk ad (as ++ [a]) tys w' (n + 1) (ws ++ [(a, e')]) := by
  obtain ⟨h1, h2, h3, h4⟩ := h
  refine ⟨by simp [h1], by simp [h2], by omega, fun i z hz => ?_⟩
  have hi : i < n + 1 := by
    have := (List.getElem?_eq_some_iff.mp hz).1
    simp at this
    omega
  rw [hw i (show i < 512 by omega)]
  by_cases hin : i = n
  · subst hin
    rw [if_pos rfl]
    rw [List.getElem?_append_right (by omega), h2, Nat.sub_self] at hz
    cases hz
    exact hx
  · rw [if_neg hin]
    rw [List.getElem?_append_left (by omega)] at hz
    exact e_ent_mono ⟨[a], rfl⟩ (h4 i z hz)
theorem e_wk_at {ad : Nat → Nat} {as : List Nat} {tys : List (ClassId × FieldType)} {w : e_W} {n i a : Nat} {ws : va_W} (h : e_wk ad as tys w n ws) (ha : as[i]? = some a) : ∃ e', ws[i]? = some (a, e') ∧ e_ent ad as tys (e_tget 9 w i) e' := by
  obtain ⟨h1, h2, h3, h4⟩ := h
  subst h1
  rw [List.getElem?_map] at ha
  cases hz : ws[i]? with
  | none => rw [hz] at ha; cases ha
  | some q =>
    rw [hz] at ha
    obtain ⟨a', e'⟩ := q
    cases ha
    exact ⟨e', rfl, h4 i _ hz⟩
theorem e_uws {C : String} {T : u_T} {N : Nat} (h : ∀ w ∈ u_ws C T N, w ∈ lw_tbl) : ∀ w ∈ u_ws C T N, w ∈ e_ws := by
  intro w hw
  refine List.mem_filter.mpr ⟨h w hw, ?_⟩
  obtain ⟨k, -, rfl⟩ := List.mem_map.mp hw
  unfold u_lay
  split <;> rfl
end
section
section SN
variable {M pc : Nat} {cc : ByteArray}
/-- a field of a class of ours, by the place of the class and of the field -/
def e_fok (own ref : String) (index ci k : Nat) (C : String) (T : u_T) (N : Nat) : Prop := e_cl[ci]? = some (C, T, N) ∧ k < N ∧ (∀ w ∈ u_ws C T N, w ∈ lw_tbl) ∧ Jvm.Cond.fieldLink own index ref (T k).2.1 (T k).2.2.1 ∈ lw_tbl ∧ ((T k).1 = ref ∨ Jvm.Cond.sameField ref (T k).1 (T k).2.1 (T k).2.2.1 ∈ lw_tbl)
theorem e_sm {F : e_F} {nL base : Nat} {p : Program} {l : Launch} {s : State} {m : MethodId} {args : Array Value} {meth : Method} {cd : Code} {ad : Nat → Nat} {D : va_G} {tys : List (ClassId × FieldType)} (hC : e_Cx F p l s m args meth cd ad D tys base nL) {own ref : String} {index ci k : Nat} {C : String} {T : u_T} {N : Nat} (hf : e_fok own ref index ci k C T N) : ∀ x, s.fieldFound? (T k).1 (T k).2.1 (T k).2.2.1 = some x → s.fieldFound? ref (T k).2.1 (T k).2.2.1 = some x := by
  intro x hx
  rcases hf.2.2.2.2 with h | h
  · rw [← h]; exact hx
  · exact u_same (e_wd hC h rfl) x hx
/-- two values that are related to the same reference of ours -/
theorem e_ref {ad : Nat → Nat} {as : List Nat} {i : Nat} {x : Value} (h : e_rel ad as (.inr (.inl (some i))) x) : ∃ a, as[i]? = some a ∧ x = .ref a := h
theorem s_getf {nx index ci k : Nat} {own ref C : String} {T : u_T} {N : Nat} (hq : (e_ml[M]?).map (·.2.1) = some cc) (ho : (e_ml[M]?).map (·.1.cls) = some own) (hf : e_fok own ref index ci k C T N) (hd : decode cc pc = .ok (.getfield index, 3)) (hnx : nx = pc + 3) : e_Sn M pc (o_getf (e_f1 ci k) nx) := by
  intro g hg F al st w c K hM h
  unfold o_getf at h
  split at h
  · next q r =>
      split at h
      · next cj fs hc =>
        split at h
        · next i hi =>
          split at h
          · next v hv =>
            have e1 : cj = ci ∧ i = k := by
              unfold e_f1 at hi
              cases hb9 : Nat.beq cj ci with
              | false => rw [hb9, cond_false] at hi; cases hi
              | true => rw [hb9, cond_true] at hi; exact ⟨Nat.eq_of_beq_eq_true hb9, (Option.some.inj hi).symm⟩
            obtain ⟨rfl, rfl⟩ := e1
            obtain ⟨z, w', c', hK, hok⟩ := hg _ _ _ _ _ _ _ h
            refine ⟨z, w', c', hK, e_step hok ?_⟩
            intro p l e R s m args below meth cd Q ad D tys base nL as0 k0 s0 hC hW
            obtain ⟨hx, hb⟩ := e_cc hM hq hC
            intro as ws H locs ls ys hS
            obtain ⟨h1, h2, h3, h4, h5, h6, h7⟩ := hS
            obtain ⟨x, ys, rfl, hr, h8⟩ := e_st_cons h2
            obtain ⟨a, ha, rfl⟩ := e_ref hr
            obtain ⟨e', he, hent⟩ := e_wk_at h3 ha
            rw [hc] at hent
            cases e' with
            | inl z => exact hent.elim
            | inr o =>
              obtain ⟨cj2, vs⟩ := o
              obtain ⟨rfl, hlen, hvs⟩ := hent
              rw [e_nth_eq] at hv
              obtain ⟨y, hy, hry⟩ := hvs i v hv
              subst hnx
              exact va_get (own := own) (Ts := e_ws) hx hb hC.2.2.2.1 (e_uws hf.2.2.1) (e_own hM ho hC) hC.2.2.2.2.1.1 h4 q he hf.1 i hf.2.1 (e_wd hC hf.2.2.2.1 rfl) (e_sm hC hf) hy hd (hW as ws H locs ls (y :: ys) ⟨h1, ⟨hry, h8⟩, h3, h4, h5, h6, h7⟩)
          · cases h
        · cases h
      · cases h
  · cases h
/-- what a field of a type takes -/
def e_oks (ty : FieldType) (ok : e_V → Bool) : Prop := ∀ (ad : Nat → Nat) (as : List Nat) (v : e_V) (x : Value), ok v = true → e_rel ad as v x → narrow ty x = x ∧ fits ty x = true
theorem e_oksI : e_oks .int e_okI := fun ad as v x h hr => by obtain ⟨z, rfl⟩ := e_rel_I hr h; exact ⟨rfl, rfl⟩
theorem e_oksL : e_oks .long e_okL := fun ad as v x h hr => by obtain ⟨z, rfl⟩ := e_rel_L hr h; exact ⟨rfl, rfl⟩
theorem e_oksR {C : String} : e_oks (.object C) e_okR := fun ad as v x h hr => by rcases e_rel_R hr h with rfl | ⟨z, rfl⟩ <;> exact ⟨rfl, rfl⟩
theorem e_oksA {t : FieldType} : e_oks (.array t) e_okR := fun ad as v x h hr => by rcases e_rel_R hr h with rfl | ⟨z, rfl⟩ <;> exact ⟨rfl, rfl⟩
theorem e_okZ_t {ad : Nat → Nat} {as : List Nat} {v : e_V} {x : Value} (h : e_okZ v = true) (hr : e_rel ad as v x) : x = .int 0 ∨ x = .int 1 := by
  unfold e_okZ at h
  split at h
  · next l1 h1 hq =>
    obtain ⟨g1, g2⟩ := (Bool.and_eq_true _ _).mp h
    replace g1 := Nat.le_of_ble_eq_true g1
    replace g2 := Nat.le_of_ble_eq_true g2
    obtain ⟨m, m1, m2, m3, rfl⟩ := e_rel_rg hr hq
    dsimp only at m1 m2
    have e0 : e_i 2147483648 = 0 := e_i0
    have e1 : e_i 2147483649 = 1 := by decide
    by_cases hm : m = 2147483648
    · left; rw [hm, e0]
    · right; rw [show m = 2147483649 by omega, e1]
  · cases h
theorem e_oksZ : e_oks .boolean e_okZ := fun ad as v x h hr => by
  rcases e_okZ_t h hr with rfl | rfl
  · exact ⟨by decide, by decide⟩
  · exact ⟨by decide, by decide⟩
theorem s_putf {nx index ci k : Nat} {own ref C : String} {T : u_T} {N : Nat} {ty0 : Nat → FieldType} {ok : e_V → Bool} (hq : (e_ml[M]?).map (·.2.1) = some cc) (ho : (e_ml[M]?).map (·.1.cls) = some own) (hf : e_fok own ref index ci k C T N) (hty : ∀ k, k < N → parseFieldDescriptor (T k).2.2.1 = some (ty0 k)) (hnm : ∀ a, a < N → ∀ b, b < N → a ≠ b → (T a).2.1 ≠ (T b).2.1) (hok9 : e_oks (ty0 k) ok)
    (hfin : (T k).2.2.2 = false ∨ ((T k).2.2.2 = true ∧ (T k).1 = own ∧ (e_ml[M]?).map (·.1.name) = some "<init>")) (hd : decode cc pc = .ok (.putfield index, 3)) (hnx : nx = pc + 3) : e_Sn M pc (o_putf (e_f1 ci k) ok nx) := by
  intro g hg F al st w c K hM h
  unfold o_putf at h
  split at h
  · next v q r =>
    cases hbc : (ok v && Nat.blt q 512) with
    | false => rw [hbc, cond_false] at h; cases h
    | true =>
      rw [hbc, cond_true] at h
      obtain ⟨hokv, hq512⟩ := (Bool.and_eq_true _ _).mp hbc
      replace hq512 : q < 2 ^ 9 := Nat.le_of_ble_eq_true hq512
      split at h
      · next cj fs hc =>
        split at h
        · next i hi =>
          have e1 : cj = ci ∧ i = k := by
            unfold e_f1 at hi
            cases hb9 : Nat.beq cj ci with
            | false => rw [hb9, cond_false] at hi; cases hi
            | true => rw [hb9, cond_true] at hi; exact ⟨Nat.eq_of_beq_eq_true hb9, (Option.some.inj hi).symm⟩
          obtain ⟨rfl, rfl⟩ := e1
          obtain ⟨hlt, h⟩ := e_rep_t h
          obtain ⟨w1, h, hw1⟩ := e_tput_t 9 w q _ hq512 h
          obtain ⟨z, w', c', hK, hok⟩ := hg _ _ _ _ _ _ _ h
          refine ⟨z, w', c', hK, e_step hok ?_⟩
          intro p l e R s m args below meth cd Q ad D tys base nL as0 k0 s0 hC hW
          obtain ⟨hx, hb⟩ := e_cc hM hq hC
          intro as ws H locs ls ys hS
          obtain ⟨h1, h2, h3, h4, h5, h6, h7⟩ := hS
          obtain ⟨x0, ys, rfl, hr0, h80⟩ := e_st_cons h2
          obtain ⟨x, ys, rfl, hr, h8⟩ := e_st_cons h80
          obtain ⟨a, ha, rfl⟩ := e_ref hr
          obtain ⟨e', he, hent⟩ := e_wk_at h3 ha
          rw [hc] at hent
          cases e' with
          | inl z => exact hent.elim
          | inr o =>
            obtain ⟨cj2, vs⟩ := o
            obtain ⟨rfl, hlen, hvs⟩ := hent
            subst hnx
            obtain ⟨hn1, hn2⟩ := hok9 ad as v x0 hokv hr0
            have hent2 : e_ent ad as tys (.inl (cj, fs.set i v)) (.inr (cj, vs.set i x0)) := by
              refine ⟨rfl, by simp [hlen], fun j u hj => ?_⟩
              rw [List.getElem?_set] at hj ⊢
              by_cases hij : i = j
              · subst hij
                rw [if_pos rfl, if_pos hlt] at hj
                cases hj
                rw [if_pos rfl, if_pos (by omega)]
                exact ⟨x0, rfl, hr0⟩
              · rw [if_neg hij] at hj ⊢
                exact hvs j u hj
            have hnext : ∀ (H1 : Heap) (locs1 : List Loc), va_P D e_cl (ws.set q (a, .inr (cj, vs.set i x0))) H1 → va_D (e_A0 base) (ws.set q (a, .inr (cj, vs.set i x0))) → va_S (e_A0 base) s.heap H1 locs1 → W p l e R s m args below meth cd H1 locs1 (c.2.1 - k0) (c.2.2 - s0) Q (F0 m (pc + 3) ls ys) := fun H1 locs1 i1 i2 i3 => hW as _ H1 locs1 ls ys ⟨h1, h8, e_wk_set h3 he hw1 hent2, i1, i2, i3, h7⟩
            rcases hfin with hfin | ⟨hfin, hdecl, hin⟩
            · exact va_put (own := own) (Ts := e_ws) (D := D) (cl := e_cl) (ty := ty0 i) hx hb hC.2.2.2.1 (e_uws hf.2.2.1) ty0 hty hnm (e_own hM ho hC) hC.2.2.2.2.1.1 h4 h5 h6 q he hf.1 i hf.2.1 (e_wd hC hf.2.2.2.1 rfl) (e_sm hC hf) hfin (hty i hf.2.1) hn1 hn2 (by omega) hd hnext
            · have hin2 : meth.name = "<init>" := by
                obtain ⟨-, -, -, -, -, -, -, q9, g1, g2, g3, g4, g5, g6, g7⟩ := hC
                rw [hM] at g1
                rw [g1] at hin
                rw [g7.1]
                exact Option.some.inj hin
              exact va_putF (own := own) (Ts := e_ws) (D := D) (cl := e_cl) (ty := ty0 i) hx hb hC.2.2.2.1 (e_uws hf.2.2.1) ty0 hty hnm (e_own hM ho hC) hC.2.2.2.2.1.1 h4 h5 h6 q he hf.1 i hf.2.1 (e_wd hC hf.2.2.2.1 rfl) (e_sm hC hf) hfin hin2 hdecl (hty i hf.2.1) hn1 hn2 (by omega) hd hnext
        · cases h
      · cases h
  · cases h
end SN
end
section
section SN
variable {M pc : Nat} {cc : ByteArray}
theorem e_kt_at {D : va_G} {tys : List (ClassId × FieldType)} {s : State} (hK : e_Kx D tys s) {t : Nat} {cA : ClassId} {ty : FieldType} (h : tys[t]? = some (cA, ty)) : e_kt[t]? = some ty := by
  rw [← hK.2.1, List.getElem?_map, h]; rfl
theorem e_in {m n : Nat} (hm : m < 4294967296) (h : 2147483648 ≤ m) (hn : m - 2147483648 < n) : vp_in (e_i m) n := by
  intro q
  rcases q with q | q
  · exact e_i_neg hm h q
  · rw [e_i_cl hm h] at q; omega
/-- a cell of an array that isn't ours -/
theorem e_for {F : e_F} {nL base : Nat} {p : Program} {l : Launch} {s : State} {m : MethodId} {args : Array Value} {meth : Method} {cd : Code} {ad : Nat → Nat} {D : va_G} {tys : List (ClassId × FieldType)} (hC : e_Cx F p l s m args meth cd ad D tys base nL) {k : Nat} (hk : k ≤ e_fcs.length) {H : Heap} {locs : List Loc} (hS : va_S (e_A0 base) s.heap H locs) :
    ∃ (ty : FieldType) (f : Nat → Value) (cell : Cell), (k < 3 → ty = .int) ∧ H[ad k]? = some cell ∧ s.isArrayOf cell ty ∧ cell.vm ≠ .unknown ∧ e_rlen (e_fc e_fcs F k) ≤ cell.slots.size ∧ cell.slots.size.toInt32 = Int32.ofNat (e_rlen (e_fc e_fcs F k)) ∧ (∀ j, j < e_rlen (e_fc e_fcs F k) → cell.slots[j]? = some (f j)) ∧ ∀ (j : Nat) (v : e_V), e_rat (e_fc e_fcs F k) j = some v → e_rel ad [] v (f j) := by
  obtain ⟨-, -, -, -, -, -, hsf, -⟩ := hC
  obtain ⟨ty, f, h1, ⟨cell, g1, g2, g3, g4, g5, g6, g7⟩, h3⟩ := hsf.1 k hk
  refine ⟨ty, f, cell, h1, ?_, g2, g3, g4, g5, g6, h3⟩
  rw [hS.2.1 (ad k) (Array.getElem?_eq_some_iff.mp g1).1 g7]
  exact g1
theorem s_alen {nx : Nat} (hq : (e_ml[M]?).map (·.2.1) = some cc) (hd : decode cc pc = .ok (.arraylength, 1)) (hnx : nx = pc + 1) : e_Sn M pc (o_alen e_fcs nx) := by
  intro g hg F al st w c K hM h
  unfold o_alen at h
  split at h
  · next k r =>
    replace h := e_fo_t h
    cases hbc : (Nat.ble k e_fcs.length && Nat.blt (e_rlen (e_fc e_fcs F k) + 2147483648) 4294967296) with
    | false => rw [hbc, cond_false] at h; cases h
    | true =>
      rw [hbc, cond_true] at h
      obtain ⟨g1, g2⟩ := (Bool.and_eq_true _ _).mp hbc
      replace g1 := Nat.le_of_ble_eq_true g1
      replace g2 : e_rlen (e_fc e_fcs F k) + 2147483648 < 4294967296 := Nat.le_of_ble_eq_true g2
      obtain ⟨z, w', c', hK, hok⟩ := hg _ _ _ _ _ _ _ h
      refine ⟨z, w', c', hK, e_step hok ?_⟩
      intro p l e R s m args below meth cd Q ad D tys base nL as0 k0 s0 hC hW
      obtain ⟨hx, hb⟩ := e_cc hM hq hC
      intro as ws H locs ls ys hS
      obtain ⟨h1, h2, h3, h4, h5, h6, h7⟩ := hS
      obtain ⟨x, ys, rfl, hr, h8⟩ := e_st_cons h2
      cases (show x = .ref (ad k) from hr)
      obtain ⟨ty, f, cell, f1, f2, f3, f4, f5, f6, f7, f8⟩ := e_for hC g1 h6
      subst hnx
      have e9 : Int32.ofNat (e_rlen (e_fc e_fcs F k)) = e_i (e_rlen (e_fc e_fcs F k) + 2147483648) := by
        rw [e_i_nn g2 (by omega), Nat.add_sub_cancel]; rfl
      exact W.alen (n := e_i (e_rlen (e_fc e_fcs F k) + 2147483648)) hx hb f2 f3 (by rw [f6, e9]) rfl rfl hd (hW as ws H locs ls (.int (e_i (e_rlen (e_fc e_fcs F k) + 2147483648)) :: ys) ⟨h1, ⟨⟨g2, rfl⟩, h8⟩, h3, h4, h5, h6, h7⟩)
  · next q r =>
    split at h
    · next t rs hc =>
      replace h := e_fo_t h
      obtain ⟨z, w', c', hK, hok⟩ := hg _ _ _ _ _ _ _ h
      refine ⟨z, w', c', hK, e_step hok ?_⟩
      intro p l e R s m args below meth cd Q ad D tys base nL as0 k0 s0 hC hW
      obtain ⟨hx, hb⟩ := e_cc hM hq hC
      intro as ws H locs ls ys hS
      obtain ⟨h1, h2, h3, h4, h5, h6, h7⟩ := hS
      obtain ⟨x, ys, rfl, hr, h8⟩ := e_st_cons h2
      obtain ⟨a, ha, rfl⟩ := e_ref hr
      obtain ⟨e', he, hent⟩ := e_wk_at h3 ha
      rw [hc] at hent
      cases e' with
      | inr z => exact hent.elim
      | inl o =>
        obtain ⟨cA, n, f⟩ := o
        obtain ⟨⟨ty, hty⟩, hn, hn2, harr⟩ := hent
        subst hnx
        have e9 : Int32.ofNat n = e_i (e_rlen rs + 2147483648) := by
          rw [e_i_nn (by omega) (by omega), Nat.add_sub_cancel, hn]; rfl
        exact va_alen hx hb hC.2.2.2.2.1.1 h4 q t he hty e9 hd (hW as ws H locs ls (.int (e_i (e_rlen rs + 2147483648)) :: ys) ⟨h1, ⟨⟨by omega, rfl⟩, h8⟩, h3, h4, h5, h6, h7⟩)
    · cases h
  · cases h
theorem s_ialdO {nx : Nat} (hq : (e_ml[M]?).map (·.2.1) = some cc) (hd : decode cc pc = .ok (.iaload, 1)) (hnx : nx = pc + 1) : e_Sn M pc (o_aldO 0 nx) := by
  intro g hg F al st w c K hM h
  unfold o_aldO at h
  split at h
  · next i q r =>
    split at h
    · next l1 h1 t rs hi hc =>
      cases hbc : (Nat.beq t 0 && Nat.ble 2147483648 l1 && Nat.ble l1 h1) with
      | false => rw [hbc, cond_false] at h; cases h
      | true =>
        rw [hbc, cond_true] at h
        obtain ⟨g0, g2⟩ := (Bool.and_eq_true _ _).mp hbc
        obtain ⟨g0, g1⟩ := (Bool.and_eq_true _ _).mp g0
        replace g0 := Nat.eq_of_beq_eq_true g0
        replace g1 := Nat.le_of_ble_eq_true g1
        replace g2 := Nat.le_of_ble_eq_true g2
        subst g0
        split at h
        · next v hv =>
          obtain ⟨z, w', c', hK, hok⟩ := hg _ _ _ _ _ _ _ h
          refine ⟨z, w', c', hK, e_step hok ?_⟩
          intro p l e R s m args below meth cd Q ad D tys base nL as0 k0 s0 hC hW
          obtain ⟨hx, hb⟩ := e_cc hM hq hC
          intro as ws H locs ls ys hS
          obtain ⟨h1, h2, h3, h4, h5, h6, h7⟩ := hS
          obtain ⟨y0, ys, rfl, hr0, h80⟩ := e_st_cons h2
          obtain ⟨x, ys, rfl, hr, h8⟩ := e_st_cons h80
          obtain ⟨a, ha, rfl⟩ := e_ref hr
          obtain ⟨i9, i1, i2, i3, rfl⟩ := e_rel_rg hr0 hi
          dsimp only at i1 i2
          obtain ⟨e', he, hent⟩ := e_wk_at h3 ha
          rw [hc] at hent
          cases e' with
          | inr z => exact hent.elim
          | inl o =>
            obtain ⟨cA, n, f⟩ := o
            obtain ⟨⟨ty, hty⟩, hn, hn2, harr⟩ := hent
            have hk := e_kt_at hC.2.2.2.2.1 hty
            obtain rfl : ty = .int := (Option.some.inj hk).symm
            rcases f with f | f
            · skip
              have hrel : e_rel ad as v (.int (f (i9 - 2147483648))) := harr _ _ (e_rget_t hv (by omega) (i9 - 2147483648) (by omega) (by omega)).1
              obtain ⟨j1, j2⟩ := e_rget_t hv (by omega) (i9 - 2147483648) (by omega) (by omega)
              subst hnx
              exact va_iald hx hb hC.2.2.2.2.1.1 h4 q _ he hty (e_in i3 (by omega) (by omega)) hd (by rw [e_i_cl i3 (by omega)]; exact hW as ws H locs ls (.int (f (i9 - 2147483648)) :: ys) ⟨h1, ⟨hrel, h8⟩, h3, h4, h5, h6, h7⟩)
            · exact harr.elim
        · cases h
    · cases h
  · cases h
theorem s_iald {nx : Nat} (hq : (e_ml[M]?).map (·.2.1) = some cc) (hd : decode cc pc = .ok (.iaload, 1)) (hnx : nx = pc + 1) : e_Sn M pc (o_ald e_fcs nx) := by
  intro g hg F al st w c K hM h
  unfold o_ald at h
  split at h
  · next i k r =>
    split at h
    · next l1 h1 hi =>
      cases hbc : (Nat.ble k e_fcs.length && Nat.ble 2147483648 l1 && Nat.ble l1 h1) with
      | false => rw [hbc, cond_false] at h; cases h
      | true =>
        rw [hbc, cond_true] at h
        obtain ⟨g0, g2⟩ := (Bool.and_eq_true _ _).mp hbc
        obtain ⟨g0, g1⟩ := (Bool.and_eq_true _ _).mp g0
        replace g0 := Nat.le_of_ble_eq_true g0
        replace g1 := Nat.le_of_ble_eq_true g1
        replace g2 := Nat.le_of_ble_eq_true g2
        split at h
        · next v hv =>
          cases ho9 : (e_okI v && Nat.blt k 3) with
          | false => rw [ho9, cond_false] at h; cases h
          | true =>
            rw [ho9, cond_true] at h
            obtain ⟨ho9, hk3⟩ := (Bool.and_eq_true _ _).mp ho9
            replace hk3 : k < 3 := Nat.le_of_ble_eq_true hk3
            obtain ⟨z, w', c', hK, hok⟩ := hg _ _ _ _ _ _ _ h
            refine ⟨z, w', c', hK, e_step hok ?_⟩
            intro p l e R s m args below meth cd Q ad D tys base nL as0 k0 s0 hC hW
            obtain ⟨hx, hb⟩ := e_cc hM hq hC
            intro as ws H locs ls ys hS
            obtain ⟨h1, h2, h3, h4, h5, h6, h7⟩ := hS
            obtain ⟨y0, ys, rfl, hr0, h80⟩ := e_st_cons h2
            obtain ⟨x, ys, rfl, hr, h8⟩ := e_st_cons h80
            cases (show x = .ref (ad k) from hr)
            obtain ⟨i9, i1, i2, i3, rfl⟩ := e_rel_rg hr0 hi
            dsimp only at i1 i2
            obtain ⟨ty, f, cell, f1, f2, f3, f4, f5, f6, f7, f8⟩ := e_for hC g0 h6
            obtain ⟨j1, j2⟩ := e_rget_t hv (by omega) (i9 - 2147483648) (by omega) (by omega)
            have hrel := f8 _ _ j1
            have hrel2 : e_rel ad as v (f (i9 - 2147483648)) := e_rel_mono hrel ⟨as, rfl⟩
            subst hnx
            have hidx := e_in i3 (by omega) j2
            obtain ⟨zz, hzz⟩ := e_rel_I hrel ho9
            cases f1 (by omega)
            exact W.iald (v := f (i9 - 2147483648)) hx hb f2 f3 f4 (by intro q; rcases q with q | q; exact hidx (Or.inl q); exact hidx (Or.inr (by omega))) (by rw [e_i_cl i3 (by omega)]; exact f7 _ j2) rfl rfl hd (hW as ws H locs ls (f (i9 - 2147483648) :: ys) ⟨h1, ⟨hrel2, h8⟩, h3, h4, h5, h6, h7⟩)
        · cases h
    · cases h
  · exact s_ialdO hq hd hnx g hg F al _ w c K hM h
theorem s_zald {nx : Nat} (hq : (e_ml[M]?).map (·.2.1) = some cc) (hd : decode cc pc = .ok (.baload, 1)) (hnx : nx = pc + 1) : e_Sn M pc (o_aldO 1 nx) := by
  intro g hg F al st w c K hM h
  unfold o_aldO at h
  split at h
  · next i q r =>
    split at h
    · next l1 h1 t rs hi hc =>
      cases hbc : (Nat.beq t 1 && Nat.ble 2147483648 l1 && Nat.ble l1 h1) with
      | false => rw [hbc, cond_false] at h; cases h
      | true =>
        rw [hbc, cond_true] at h
        obtain ⟨g0, g2⟩ := (Bool.and_eq_true _ _).mp hbc
        obtain ⟨g0, g1⟩ := (Bool.and_eq_true _ _).mp g0
        replace g0 := Nat.eq_of_beq_eq_true g0
        replace g1 := Nat.le_of_ble_eq_true g1
        replace g2 := Nat.le_of_ble_eq_true g2
        subst g0
        split at h
        · next v hv =>
          obtain ⟨z, w', c', hK, hok⟩ := hg _ _ _ _ _ _ _ h
          refine ⟨z, w', c', hK, e_step hok ?_⟩
          intro p l e R s m args below meth cd Q ad D tys base nL as0 k0 s0 hC hW
          obtain ⟨hx, hb⟩ := e_cc hM hq hC
          intro as ws H locs ls ys hS
          obtain ⟨h1, h2, h3, h4, h5, h6, h7⟩ := hS
          obtain ⟨y0, ys, rfl, hr0, h80⟩ := e_st_cons h2
          obtain ⟨x, ys, rfl, hr, h8⟩ := e_st_cons h80
          obtain ⟨a, ha, rfl⟩ := e_ref hr
          obtain ⟨i9, i1, i2, i3, rfl⟩ := e_rel_rg hr0 hi
          dsimp only at i1 i2
          obtain ⟨e', he, hent⟩ := e_wk_at h3 ha
          rw [hc] at hent
          cases e' with
          | inr z => exact hent.elim
          | inl o =>
            obtain ⟨cA, n, f⟩ := o
            obtain ⟨⟨ty, hty⟩, hn, hn2, harr⟩ := hent
            have hk := e_kt_at hC.2.2.2.2.1 hty
            obtain rfl : ty = .boolean := (Option.some.inj hk).symm
            rcases f with f | f
            · skip
              have hrel : e_rel ad as v (.int (f (i9 - 2147483648))) := harr _ _ (e_rget_t hv (by omega) (i9 - 2147483648) (by omega) (by omega)).1
              obtain ⟨j1, j2⟩ := e_rget_t hv (by omega) (i9 - 2147483648) (by omega) (by omega)
              subst hnx
              exact va_zald hx hb hC.2.2.2.2.1.1 h4 q _ he hty (e_in i3 (by omega) (by omega)) hd (by rw [e_i_cl i3 (by omega)]; exact hW as ws H locs ls (.int (f (i9 - 2147483648)) :: ys) ⟨h1, ⟨hrel, h8⟩, h3, h4, h5, h6, h7⟩)
            · exact harr.elim
        · cases h
    · cases h
  · cases h
theorem s_lald {nx : Nat} (hq : (e_ml[M]?).map (·.2.1) = some cc) (hd : decode cc pc = .ok (.laload, 1)) (hnx : nx = pc + 1) : e_Sn M pc (o_aldO 2 nx) := by
  intro g hg F al st w c K hM h
  unfold o_aldO at h
  split at h
  · next i q r =>
    split at h
    · next l1 h1 t rs hi hc =>
      cases hbc : (Nat.beq t 2 && Nat.ble 2147483648 l1 && Nat.ble l1 h1) with
      | false => rw [hbc, cond_false] at h; cases h
      | true =>
        rw [hbc, cond_true] at h
        obtain ⟨g0, g2⟩ := (Bool.and_eq_true _ _).mp hbc
        obtain ⟨g0, g1⟩ := (Bool.and_eq_true _ _).mp g0
        replace g0 := Nat.eq_of_beq_eq_true g0
        replace g1 := Nat.le_of_ble_eq_true g1
        replace g2 := Nat.le_of_ble_eq_true g2
        subst g0
        split at h
        · next v hv =>
          obtain ⟨z, w', c', hK, hok⟩ := hg _ _ _ _ _ _ _ h
          refine ⟨z, w', c', hK, e_step hok ?_⟩
          intro p l e R s m args below meth cd Q ad D tys base nL as0 k0 s0 hC hW
          obtain ⟨hx, hb⟩ := e_cc hM hq hC
          intro as ws H locs ls ys hS
          obtain ⟨h1, h2, h3, h4, h5, h6, h7⟩ := hS
          obtain ⟨y0, ys, rfl, hr0, h80⟩ := e_st_cons h2
          obtain ⟨x, ys, rfl, hr, h8⟩ := e_st_cons h80
          obtain ⟨a, ha, rfl⟩ := e_ref hr
          obtain ⟨i9, i1, i2, i3, rfl⟩ := e_rel_rg hr0 hi
          dsimp only at i1 i2
          obtain ⟨e', he, hent⟩ := e_wk_at h3 ha
          rw [hc] at hent
          cases e' with
          | inr z => exact hent.elim
          | inl o =>
            obtain ⟨cA, n, f⟩ := o
            obtain ⟨⟨ty, hty⟩, hn, hn2, harr⟩ := hent
            have hk := e_kt_at hC.2.2.2.2.1 hty
            obtain rfl : ty = .long := (Option.some.inj hk).symm
            rcases f with f | f | f
            · exact harr.elim
            · skip
              have hrel : e_rel ad as v (.long (f (i9 - 2147483648))) := harr _ _ (e_rget_t hv (by omega) (i9 - 2147483648) (by omega) (by omega)).1
              obtain ⟨j1, j2⟩ := e_rget_t hv (by omega) (i9 - 2147483648) (by omega) (by omega)
              subst hnx
              exact va_lald hx hb hC.2.2.2.2.1.1 h4 q _ he hty (e_in i3 (by omega) (by omega)) hd (by rw [e_i_cl i3 (by omega)]; exact hW as ws H locs ls (.long (f (i9 - 2147483648)) :: ys) ⟨h1, ⟨hrel, h8⟩, h3, h4, h5, h6, h7⟩)
            · exact harr.elim
        · cases h
    · cases h
  · cases h
theorem s_aald {nx : Nat} {tc : Nat} {E : String} (hkt : e_kt[tc + 3]? = some (.object E)) (hq : (e_ml[M]?).map (·.2.1) = some cc) (hd : decode cc pc = .ok (.aaload, 1)) (hnx : nx = pc + 1) : e_Sn M pc (o_aldO (tc + 3) nx) := by
  intro g hg F al st w c K hM h
  unfold o_aldO at h
  split at h
  · next i q r =>
    split at h
    · next l1 h1 t rs hi hc =>
      cases hbc : (Nat.beq t (tc + 3) && Nat.ble 2147483648 l1 && Nat.ble l1 h1) with
      | false => rw [hbc, cond_false] at h; cases h
      | true =>
        rw [hbc, cond_true] at h
        obtain ⟨g0, g2⟩ := (Bool.and_eq_true _ _).mp hbc
        obtain ⟨g0, g1⟩ := (Bool.and_eq_true _ _).mp g0
        replace g0 := Nat.eq_of_beq_eq_true g0
        replace g1 := Nat.le_of_ble_eq_true g1
        replace g2 := Nat.le_of_ble_eq_true g2
        subst g0
        split at h
        · next v hv =>
          obtain ⟨z, w', c', hK, hok⟩ := hg _ _ _ _ _ _ _ h
          refine ⟨z, w', c', hK, e_step hok ?_⟩
          intro p l e R s m args below meth cd Q ad D tys base nL as0 k0 s0 hC hW
          obtain ⟨hx, hb⟩ := e_cc hM hq hC
          intro as ws H locs ls ys hS
          obtain ⟨h1, h2, h3, h4, h5, h6, h7⟩ := hS
          obtain ⟨y0, ys, rfl, hr0, h80⟩ := e_st_cons h2
          obtain ⟨x, ys, rfl, hr, h8⟩ := e_st_cons h80
          obtain ⟨a, ha, rfl⟩ := e_ref hr
          obtain ⟨i9, i1, i2, i3, rfl⟩ := e_rel_rg hr0 hi
          dsimp only at i1 i2
          obtain ⟨e', he, hent⟩ := e_wk_at h3 ha
          rw [hc] at hent
          cases e' with
          | inr z => exact hent.elim
          | inl o =>
            obtain ⟨cA, n, f⟩ := o
            obtain ⟨⟨ty, hty⟩, hn, hn2, harr⟩ := hent
            have hk := e_kt_at hC.2.2.2.2.1 hty
            obtain rfl : ty = .object E := Option.some.inj (hk.symm.trans hkt)
            rcases f with f | f | f | f | f
            · exact harr.elim
            · exact harr.elim
            · exact harr.elim
            · exact harr.elim
            · skip
              have hrel : e_rel ad as v (va_rf (f (i9 - 2147483648))) := harr _ _ (e_rget_t hv (by omega) (i9 - 2147483648) (by omega) (by omega)).1
              obtain ⟨j1, j2⟩ := e_rget_t hv (by omega) (i9 - 2147483648) (by omega) (by omega)
              subst hnx
              exact va_aldq hx hb hC.2.2.2.2.1.1 h4 q _ he hty (e_in i3 (by omega) (by omega)) hd (by rw [e_i_cl i3 (by omega)]; exact hW as ws H locs ls (va_rf (f (i9 - 2147483648)) :: ys) ⟨h1, ⟨hrel, h8⟩, h3, h4, h5, h6, h7⟩)
        · cases h
    · cases h
  · cases h
end SN
end
section
section SN
variable {M pc : Nat} {cc : ByteArray}
theorem s_iast {nx : Nat} (hq : (e_ml[M]?).map (·.2.1) = some cc) (hd : decode cc pc = .ok (.iastore, 1)) (hnx : nx = pc + 1) : e_Sn M pc (o_ast 0 e_okI nx) := by
  intro g hg F al st w c K hM h
  unfold o_ast at h
  split at h
  · next v i q r =>
    cases hbc : (e_okI v && Nat.blt q 512 && Nat.ble 2147483648 i) with
    | false => rw [hbc, cond_false] at h; cases h
    | true =>
      rw [hbc, cond_true] at h
      obtain ⟨g0, hi2⟩ := (Bool.and_eq_true _ _).mp hbc
      obtain ⟨hokv, hq512⟩ := (Bool.and_eq_true _ _).mp g0
      replace hi2 := Nat.le_of_ble_eq_true hi2
      replace hq512 : q < 2 ^ 9 := Nat.le_of_ble_eq_true hq512
      split at h
      · next t rs hc =>
        cases hbt : Nat.beq t 0 with
        | false => rw [hbt, cond_false] at h; cases h
        | true =>
          rw [hbt, cond_true] at h
          replace hbt := Nat.eq_of_beq_eq_true hbt
          subst hbt
          obtain ⟨rs', h, hlt, hlen, hrat⟩ := e_rset_t h
          obtain ⟨w1, h, hw1⟩ := e_tput_t 9 w q _ hq512 h
          obtain ⟨z, w', c', hK, hok⟩ := hg _ _ _ _ _ _ _ h
          refine ⟨z, w', c', hK, e_step hok ?_⟩
          intro p l e R s m args below meth cd Q ad D tys base nL as0 k0 s0 hC hW
          obtain ⟨hx, hb⟩ := e_cc hM hq hC
          intro as ws H locs ls ys hS
          obtain ⟨h1, h2, h3, h4, h5, h6, h7⟩ := hS
          obtain ⟨x0, ys, rfl, hr0, h80⟩ := e_st_cons h2
          obtain ⟨x1, ys, rfl, hr1, h81⟩ := e_st_cons h80
          obtain ⟨x, ys, rfl, hr, h8⟩ := e_st_cons h81
          obtain ⟨a, ha, rfl⟩ := e_ref hr
          obtain ⟨hi3, rfl⟩ := hr1
          obtain ⟨e', he, hent⟩ := e_wk_at h3 ha
          rw [hc] at hent
          cases e' with
          | inr z => exact hent.elim
          | inl o =>
            obtain ⟨cA, n, f⟩ := o
            obtain ⟨⟨ty, hty⟩, hn, hn2, harr⟩ := hent
            have hk := e_kt_at hC.2.2.2.2.1 hty
            obtain rfl : ty = .int := (Option.some.inj hk).symm
            subst hnx
            rcases f with f | f
            · skip
              obtain ⟨zz, rfl⟩ := e_rel_I hr0 hokv
              have hent2 : e_ent ad as tys (.inr (0, rs')) (.inl (cA, n, .inl (upd f (i - 2147483648) zz))) := ⟨⟨_, hty⟩, by omega, hn2, fun j u hj => by
                rw [hrat] at hj
                unfold upd
                by_cases hji : j = i - 2147483648
                · rw [if_pos hji] at hj; cases hj; rw [if_pos hji]; exact hr0
                · rw [if_neg hji] at hj; rw [if_neg hji]; exact harr j u hj⟩
              exact va_iast hx hb hC.2.2.2.2.1.1 h4 h5 h6 q _ he hty (e_in hi3 hi2 (by omega)) hd (fun H1 locs1 p1 p2 p3 => by
                rw [e_i_cl hi3 hi2] at p1 p2
                exact hW as _ H1 locs1 ls ys ⟨h1, h8, e_wk_set h3 he hw1 hent2, p1, p2, p3, h7⟩)
            · exact harr.elim
      · cases h
  · cases h
theorem s_zast {nx : Nat} (hq : (e_ml[M]?).map (·.2.1) = some cc) (hd : decode cc pc = .ok (.bastore, 1)) (hnx : nx = pc + 1) : e_Sn M pc (o_ast 1 e_okZ nx) := by
  intro g hg F al st w c K hM h
  unfold o_ast at h
  split at h
  · next v i q r =>
    cases hbc : (e_okZ v && Nat.blt q 512 && Nat.ble 2147483648 i) with
    | false => rw [hbc, cond_false] at h; cases h
    | true =>
      rw [hbc, cond_true] at h
      obtain ⟨g0, hi2⟩ := (Bool.and_eq_true _ _).mp hbc
      obtain ⟨hokv, hq512⟩ := (Bool.and_eq_true _ _).mp g0
      replace hi2 := Nat.le_of_ble_eq_true hi2
      replace hq512 : q < 2 ^ 9 := Nat.le_of_ble_eq_true hq512
      split at h
      · next t rs hc =>
        cases hbt : Nat.beq t 1 with
        | false => rw [hbt, cond_false] at h; cases h
        | true =>
          rw [hbt, cond_true] at h
          replace hbt := Nat.eq_of_beq_eq_true hbt
          subst hbt
          obtain ⟨rs', h, hlt, hlen, hrat⟩ := e_rset_t h
          obtain ⟨w1, h, hw1⟩ := e_tput_t 9 w q _ hq512 h
          obtain ⟨z, w', c', hK, hok⟩ := hg _ _ _ _ _ _ _ h
          refine ⟨z, w', c', hK, e_step hok ?_⟩
          intro p l e R s m args below meth cd Q ad D tys base nL as0 k0 s0 hC hW
          obtain ⟨hx, hb⟩ := e_cc hM hq hC
          intro as ws H locs ls ys hS
          obtain ⟨h1, h2, h3, h4, h5, h6, h7⟩ := hS
          obtain ⟨x0, ys, rfl, hr0, h80⟩ := e_st_cons h2
          obtain ⟨x1, ys, rfl, hr1, h81⟩ := e_st_cons h80
          obtain ⟨x, ys, rfl, hr, h8⟩ := e_st_cons h81
          obtain ⟨a, ha, rfl⟩ := e_ref hr
          obtain ⟨hi3, rfl⟩ := hr1
          obtain ⟨e', he, hent⟩ := e_wk_at h3 ha
          rw [hc] at hent
          cases e' with
          | inr z => exact hent.elim
          | inl o =>
            obtain ⟨cA, n, f⟩ := o
            obtain ⟨⟨ty, hty⟩, hn, hn2, harr⟩ := hent
            have hk := e_kt_at hC.2.2.2.2.1 hty
            obtain rfl : ty = .boolean := (Option.some.inj hk).symm
            subst hnx
            rcases f with f | f
            · skip
              have hz9 : ∃ zz, x0 = .int zz ∧ vp_nar .boolean zz = zz := by
                rcases e_okZ_t hokv hr0 with rfl | rfl
                · exact ⟨_, rfl, by decide⟩
                · exact ⟨_, rfl, by decide⟩
              obtain ⟨zz, rfl, hnar⟩ := hz9
              have hent2 : e_ent ad as tys (.inr (1, rs')) (.inl (cA, n, .inl (upd f (i - 2147483648) zz))) := ⟨⟨_, hty⟩, by omega, hn2, fun j u hj => by
                rw [hrat] at hj
                unfold upd
                by_cases hji : j = i - 2147483648
                · rw [if_pos hji] at hj; cases hj; rw [if_pos hji]; exact hr0
                · rw [if_neg hji] at hj; rw [if_neg hji]; exact harr j u hj⟩
              exact va_zast hx hb hC.2.2.2.2.1.1 h4 h5 h6 q _ he hty (e_in hi3 hi2 (by omega)) hd (fun H1 locs1 p1 p2 p3 => by
                rw [e_i_cl hi3 hi2, hnar] at p1 p2
                exact hW as _ H1 locs1 ls ys ⟨h1, h8, e_wk_set h3 he hw1 hent2, p1, p2, p3, h7⟩)
            · exact harr.elim
      · cases h
  · cases h
theorem s_last {nx : Nat} (hq : (e_ml[M]?).map (·.2.1) = some cc) (hd : decode cc pc = .ok (.lastore, 1)) (hnx : nx = pc + 1) : e_Sn M pc (o_ast 2 e_okL nx) := by
  intro g hg F al st w c K hM h
  unfold o_ast at h
  split at h
  · next v i q r =>
    cases hbc : (e_okL v && Nat.blt q 512 && Nat.ble 2147483648 i) with
    | false => rw [hbc, cond_false] at h; cases h
    | true =>
      rw [hbc, cond_true] at h
      obtain ⟨g0, hi2⟩ := (Bool.and_eq_true _ _).mp hbc
      obtain ⟨hokv, hq512⟩ := (Bool.and_eq_true _ _).mp g0
      replace hi2 := Nat.le_of_ble_eq_true hi2
      replace hq512 : q < 2 ^ 9 := Nat.le_of_ble_eq_true hq512
      split at h
      · next t rs hc =>
        cases hbt : Nat.beq t 2 with
        | false => rw [hbt, cond_false] at h; cases h
        | true =>
          rw [hbt, cond_true] at h
          replace hbt := Nat.eq_of_beq_eq_true hbt
          subst hbt
          obtain ⟨rs', h, hlt, hlen, hrat⟩ := e_rset_t h
          obtain ⟨w1, h, hw1⟩ := e_tput_t 9 w q _ hq512 h
          obtain ⟨z, w', c', hK, hok⟩ := hg _ _ _ _ _ _ _ h
          refine ⟨z, w', c', hK, e_step hok ?_⟩
          intro p l e R s m args below meth cd Q ad D tys base nL as0 k0 s0 hC hW
          obtain ⟨hx, hb⟩ := e_cc hM hq hC
          intro as ws H locs ls ys hS
          obtain ⟨h1, h2, h3, h4, h5, h6, h7⟩ := hS
          obtain ⟨x0, ys, rfl, hr0, h80⟩ := e_st_cons h2
          obtain ⟨x1, ys, rfl, hr1, h81⟩ := e_st_cons h80
          obtain ⟨x, ys, rfl, hr, h8⟩ := e_st_cons h81
          obtain ⟨a, ha, rfl⟩ := e_ref hr
          obtain ⟨hi3, rfl⟩ := hr1
          obtain ⟨e', he, hent⟩ := e_wk_at h3 ha
          rw [hc] at hent
          cases e' with
          | inr z => exact hent.elim
          | inl o =>
            obtain ⟨cA, n, f⟩ := o
            obtain ⟨⟨ty, hty⟩, hn, hn2, harr⟩ := hent
            have hk := e_kt_at hC.2.2.2.2.1 hty
            obtain rfl : ty = .long := (Option.some.inj hk).symm
            subst hnx
            rcases f with f | f | f
            · exact harr.elim
            · skip
              obtain ⟨zz, rfl⟩ := e_rel_L hr0 hokv
              have hent2 : e_ent ad as tys (.inr (2, rs')) (.inl (cA, n, .inr (.inl (vp_updL f (i - 2147483648) zz)))) := ⟨⟨_, hty⟩, by omega, hn2, fun j u hj => by
                rw [hrat] at hj
                unfold vp_updL
                by_cases hji : j = i - 2147483648
                · rw [if_pos hji] at hj; cases hj; rw [if_pos hji]; exact hr0
                · rw [if_neg hji] at hj; rw [if_neg hji]; exact harr j u hj⟩
              exact va_last hx hb hC.2.2.2.2.1.1 h4 h5 h6 q _ he hty (e_in hi3 hi2 (by omega)) hd (fun H1 locs1 p1 p2 p3 => by
                rw [e_i_cl hi3 hi2] at p1 p2
                exact hW as _ H1 locs1 ls ys ⟨h1, h8, e_wk_set h3 he hw1 hent2, p1, p2, p3, h7⟩)
            · exact harr.elim
      · cases h
  · cases h
/-- what may lie in an array of references to E -/
def e_cnm (k : Nat) : Option String := bif Nat.blt k 100 then (e_cl[k]?).map (·.1) else (e_kt[k - 100]?).map (fun t => "[" ++ t.toString)
theorem s_aast {nx tc : Nat} {E : String} {okc : Nat → Bool} (hq : (e_ml[M]?).map (·.2.1) = some cc) (hkt : e_kt[tc + 3]? = some (.object E)) (hcl : e_cl.length ≤ 100) (hokc : ∀ k, okc k = true → ∃ C, e_cnm k = some C ∧ (C = E ∧ k < 100 ∨ Jvm.Cond.castable C E ∈ lw_tbl)) (hd : decode cc pc = .ok (.aastore, 1)) (hnx : nx = pc + 1) : e_Sn M pc (o_astR (tc + 3) okc nx) := by
  intro g hg F al st w c K hM h
  unfold o_astR at h
  split at h
  · next v i q r =>
    cases hbc : (e_okS okc w v && Nat.blt q 512 && Nat.ble 2147483648 i) with
    | false => rw [hbc, cond_false] at h; cases h
    | true =>
      rw [hbc, cond_true] at h
      obtain ⟨g0, hi2⟩ := (Bool.and_eq_true _ _).mp hbc
      obtain ⟨hokv, hq512⟩ := (Bool.and_eq_true _ _).mp g0
      replace hi2 := Nat.le_of_ble_eq_true hi2
      replace hq512 : q < 2 ^ 9 := Nat.le_of_ble_eq_true hq512
      split at h
      · next t rs hc =>
        cases hbt : Nat.beq t (tc + 3) with
        | false => rw [hbt, cond_false] at h; cases h
        | true =>
          rw [hbt, cond_true] at h
          replace hbt := Nat.eq_of_beq_eq_true hbt
          subst hbt
          obtain ⟨rs', h, hlt, hlen, hrat⟩ := e_rset_t h
          obtain ⟨w1, h, hw1⟩ := e_tput_t 9 w q _ hq512 h
          obtain ⟨z, w', c', hK, hok⟩ := hg _ _ _ _ _ _ _ h
          refine ⟨z, w', c', hK, e_step hok ?_⟩
          intro p l e R s m args below meth cd Q ad D tys base nL as0 k0 s0 hC hW
          obtain ⟨hx, hb⟩ := e_cc hM hq hC
          intro as ws H locs ls ys hS
          obtain ⟨h1, h2, h3, h4, h5, h6, h7⟩ := hS
          obtain ⟨x0, ys, rfl, hr0, h80⟩ := e_st_cons h2
          obtain ⟨x1, ys, rfl, hr1, h81⟩ := e_st_cons h80
          obtain ⟨x, ys, rfl, hr, h8⟩ := e_st_cons h81
          obtain ⟨a, ha, rfl⟩ := e_ref hr
          obtain ⟨hi3, rfl⟩ := hr1
          obtain ⟨e', he, hent⟩ := e_wk_at h3 ha
          rw [hc] at hent
          cases e' with
          | inr z => exact hent.elim
          | inl o =>
            obtain ⟨cA, n, f⟩ := o
            obtain ⟨⟨ty, hty⟩, hn, hn2, harr⟩ := hent
            have hk := e_kt_at hC.2.2.2.2.1 hty
            obtain rfl : ty = .object E := Option.some.inj (hk.symm.trans hkt)
            subst hnx
            rcases f with f | f | f | f | f
            · exact harr.elim
            · exact harr.elim
            · exact harr.elim
            · exact harr.elim
            · skip
              have hent2 : ∀ y : Option Nat, e_rel ad as v (va_rf y) → e_ent ad as tys (.inr (tc + 3, rs')) (.inl (cA, n, .inr (.inr (.inr (.inr (va_up f (i - 2147483648) y)))))) := fun y hy => ⟨⟨_, hty⟩, by omega, hn2, fun j u hj => by
                rw [hrat] at hj
                unfold va_up
                by_cases hji : j = i - 2147483648
                · rw [if_pos hji] at hj; cases hj; rw [if_pos hji]; exact hy
                · rw [if_neg hji] at hj; rw [if_neg hji]; exact harr j u hj⟩
              unfold e_okS at hokv
              split at hokv
              · cases (show x0 = .null from hr0)
                exact va_astqN hx hb hC.2.2.2.2.1.1 h4 h5 h6 q _ he hty (e_in hi3 hi2 (by omega)) hd (fun H1 locs1 p1 p2 p3 => by
                  rw [e_i_cl hi3 hi2] at p1 p2
                  exact hW as _ H1 locs1 ls ys ⟨h1, h8, e_wk_set h3 he hw1 (hent2 none rfl), p1, p2, p3, h7⟩)
              · next j =>
                obtain ⟨b, hb9, rfl⟩ := e_ref hr0
                obtain ⟨e2, he2, hen2⟩ := e_wk_at h3 hb9
                have hany : va_Any E s H b := by
                  obtain ⟨C, hC1, hC2⟩ := hokc _ hokv
                  generalize e_tget 9 w j = xx at hen2 hokv hC1 hC2
                  cases xx with
                  | inl o1 =>
                    obtain ⟨ci, fs⟩ := o1
                    cases e2 with
                    | inl z => exact hen2.elim
                    | inr o2 =>
                      obtain ⟨cj, vs⟩ := o2
                      obtain ⟨rfl, -, -⟩ := hen2
                      obtain ⟨r9, q1, -⟩ := h4 j _ he2
                      have hlt9 : ci < 100 := by
                        have := (List.getElem?_eq_some_iff.mp q1).1
                        omega
                      have hCr : C = r9.1 := by
                        unfold e_cnm e_cod at hC1
                        rw [show Nat.blt ci 100 = true from Nat.ble_eq_true_of_le hlt9, cond_true, q1] at hC1
                        exact (Option.some.inj hC1).symm
                      refine va_rAny hC.2.2.2.2.1.1 h4 he2 q1 (fun comp c0 f1 f2 => ?_)
                      rcases hC2 with ⟨hCE, -⟩ | hC2
                      · rw [← hCr, hCE] at f2
                        cases f1.symm.trans f2
                        have hat := (hC.2.2.2.2.1.1.1 ci r9 q1).2
                        have hat2 := hat.1
                        rw [← hCr, hCE] at hat2
                        cases hat2.symm.trans f1
                        exact va_assign hat
                      · obtain ⟨a1, a2, a3, a4, a5⟩ := Cond.castable_spec (va_Nw.use (A := args) rfl (hC.2.2.2.2.1.2.2.1 _ (List.mem_filter.mpr ⟨hC2, rfl⟩)))
                        rw [← hCr] at f2
                        cases f2.symm.trans a3
                        cases f1.symm.trans a4
                        exact a5
                  | inr o1 =>
                    obtain ⟨t2, rs2⟩ := o1
                    cases e2 with
                    | inr z => exact hen2.elim
                    | inl o2 =>
                      obtain ⟨cB, nB, fB⟩ := o2
                      obtain ⟨⟨tyB, htyB⟩, -, -, -⟩ := hen2
                      have hkB := e_kt_at hC.2.2.2.2.1 htyB
                      have hCr : C = "[" ++ tyB.toString := by
                        unfold e_cnm e_cod at hC1
                        have hge : Nat.blt (100 + t2) 100 = false := by
                          cases hc9 : Nat.blt (100 + t2) 100 with
                          | false => rfl
                          | true => exact absurd (Nat.le_of_ble_eq_true hc9 : 100 + t2 < 100) (by omega)
                        rw [hge, cond_false, Nat.add_sub_cancel_left, hkB] at hC1
                        exact (Option.some.inj hC1).symm
                      rcases hC2 with ⟨-, hlt9⟩ | hC2
                      · unfold e_cod at hlt9; dsimp only at hlt9; omega
                      · obtain ⟨a1, a2, a3, a4, a5⟩ := Cond.castable_spec (va_Nw.use (A := args) rfl (hC.2.2.2.2.1.2.2.1 _ (List.mem_filter.mpr ⟨hC2, rfl⟩)))
                        have hRA := (hC.2.2.2.2.1.1.2 t2 _ htyB)
                        have hfc : s.vm.findClass ("[" ++ tyB.toString) = some cB := by
                          obtain ⟨-, hRA⟩ := hRA
                          unfold va_RA at hRA
                          cases tyB with
                          | object C9 => obtain ⟨_, _, _, _, _, q9⟩ := hRA; exact q9
                          | _ => exact hRA
                        rw [hCr] at a3
                        cases hfc.symm.trans a3
                        obtain ⟨kC, hkC, -⟩ := Vm.findClass_spec hfc
                        have hcell := h4 j _ he2
                        have hce : ∃ cellV : Cell, H[b]? = some cellV ∧ cellV.vm.isStatics = false ∧ cellV.cls = cB := by
                          unfold va_at at hcell
                          dsimp only at hcell
                          refine ⟨_, hcell, ?_, ?_⟩
                          · unfold vp_cell; split <;> rfl
                          · unfold vp_cell; split <;> rfl
                        obtain ⟨cellV, v1, v2, v3⟩ := hce
                        exact ⟨cellV, v1, v2, ⟨kC, by rw [v3]; exact hkC⟩, fun comp f1 => by cases f1.symm.trans a4; rw [v3]; exact a5⟩
                exact va_astqM hx hb hC.2.2.2.2.1.1 h4 h5 h6 q _ he hty hany (e_in hi3 hi2 (by omega)) hd (fun H1 locs1 p1 p2 p3 => by
                  rw [e_i_cl hi3 hi2] at p1 p2
                  exact hW as _ H1 locs1 ls ys ⟨h1, h8, e_wk_set h3 he hw1 (hent2 (some b) ⟨b, hb9, rfl⟩), p1, p2, p3, h7⟩)
              · cases hokv
      · cases h
  · cases h
theorem e_stepN {F : e_F} {pc nx : Nat} {al al' : e_A} {st st' : List e_V} {w w1 w' : e_W} {c c1 c' : e_Q} {z : e_Z} (hok : e_Ok F nx al' st' w1 c1 z w' c') (g1 : c.1 ≤ c1.1) (g2 : c.2.1 ≤ c1.2.1) (g3 : c.2.2 ≤ c1.2.2)
    (hrow : ∀ (p : Program) (l : Launch) (e : Env) (R : Room) (s : State) (m : MethodId) (args : Array Value) (below : List Frame) (meth : Method) (cd : Code) (Q : State → Prop) (ad : Nat → Nat) (D : va_G) (tys : List (ClassId × FieldType)) (base nL : Nat) (as0 : List Nat) (k0 s0 : Nat), e_Cx F p l s m args meth cd ad D tys base nL → k0 ≤ c.2.1 → s0 ≤ c.2.2 → c1.2.1 - k0 ≤ R.cells → c1.2.2 - s0 ≤ R.slots → e_wg p l e R s m args below meth cd Q ad D tys base nL as0 k0 s0 nx al' st' w1 c1 → e_wg p l e R s m args below meth cd Q ad D tys base nL as0 k0 s0 pc al st w c) : e_Ok F pc al st w c z w' c' := by
  obtain ⟨h1, h2, h3, h4⟩ := hok
  refine ⟨Nat.le_trans g1 h1, Nat.le_trans g2 h2, Nat.le_trans g3 h3, ?_⟩
  intro p l e R s m args below meth cd Q ad D tys base nL as0 k0 s0 hC hf hl hk hs hc hsl hE
  exact hrow p l e R s m args below meth cd Q ad D tys base nL as0 k0 s0 hC hk hs (by omega) (by omega) (h4 p l e R s m args below meth cd Q ad D tys base nL as0 k0 s0 hC hf hl (by omega) (by omega) hc hsl hE)
theorem e_push_t {x : e_C} {n : Nat} {w : e_W} {c : e_Q} {k : e_W → e_Q → Bool} (h : e_push x n w c k = true) : ∃ w1, k w1 (c.1 + 1, c.2.1 + 1, c.2.2 + n) = true ∧ c.1 < 512 ∧ ∀ j, j < 2 ^ 9 → e_tget 9 w1 j = if j = c.1 then x else e_tget 9 w j := by
  obtain ⟨q, cc, ss⟩ := c
  unfold e_push at h
  dsimp only at h
  cases hb : Nat.blt q 512 with
  | false => rw [hb, cond_false] at h; cases h
  | true =>
    rw [hb, cond_true] at h
    replace hb : q < 512 := Nat.le_of_ble_eq_true hb
    obtain ⟨w1, h, hw⟩ := e_tput_t 9 w q _ hb h
    exact ⟨w1, e_fo_t (e_fo_t (e_fo_t h)), hb, hw⟩
theorem s_new {nx index ci N : Nat} {own C : String} {T : u_T} {ty0 : Nat → FieldType} {fs : List e_V} {fv : List Value} (hq : (e_ml[M]?).map (·.2.1) = some cc) (ho : (e_ml[M]?).map (·.1.cls) = some own) (hcl : e_cl[ci]? = some (C, T, N)) (hin : ∀ w ∈ u_ws C T N, w ∈ lw_tbl) (hty : ∀ k, k < N → parseFieldDescriptor (T k).2.2.1 = some (ty0 k)) (hl1 : Jvm.Cond.classLink own index C ∈ lw_tbl) (hl2 : Jvm.Cond.instantiable C N ∈ lw_tbl) (hl3 : Jvm.Cond.initialized C ∈ lw_tbl)
    (hfv : ∀ j, j < N → defaultValue (ty0 j) = vp_V fv j) (hlen : fs.length = fv.length) (hrel : ∀ (ad : Nat → Nat) (as : List Nat) (k : Nat) (v : e_V), fs[k]? = some v → ∃ y, fv[k]? = some y ∧ e_rel ad as v y) (hd : decode cc pc = .ok (.new index, 3)) (hnx : nx = pc + 3) : e_Sn M pc (o_new ci N fs nx) := by
  intro g hg F al st w c K hM h
  unfold o_new at h
  obtain ⟨w1, h, hn, hw1⟩ := e_push_t h
  obtain ⟨z, w', c', hK, hok⟩ := hg _ _ _ _ _ _ _ h
  refine ⟨z, w', c', hK, e_stepN hok (by dsimp only; omega) (by dsimp only; omega) (by dsimp only; omega) ?_⟩
  intro p l e R s m args below meth cd Q ad D tys base nL as0 k0 s0 hC hk0 hs0 hc hsl hW
  obtain ⟨hx, hb⟩ := e_cc hM hq hC
  intro as ws H locs ls ys hS
  obtain ⟨h1, h2, h3, h4, h5, h6, h7⟩ := hS
  dsimp only at hc hsl hW
  subst hnx
  refine va_new (own := own) (Ts := e_ws) (D := D) (cl := e_cl) (ci := ci) hx hb hC.2.2.2.1 (e_uws hin) ty0 hty (e_own hM ho hC) (e_wd hC hl1 rfl) (e_wd hC hl2 rfl) (e_wd hC hl3 rfl) hC.2.2.2.2.1.1 h4 h5 h6 (fun q hq => Nat.le_trans hC.2.2.2.2.2.1 hq) hcl hfv (by omega) (by omega) hd (fun q H1 p1 p2 p3 => ?_)
  have hq : as.length = c.1 := by rw [← h3.1, List.length_map, h3.2.1]
  have hmono : as <+: as ++ [q] := ⟨[q], rfl⟩
  have hfin := hW (as ++ [q]) _ H1 locs ls (.ref q :: ys) ⟨e_lo_mono h1 hmono, ⟨⟨q, by rw [List.getElem?_append_right (by omega), hq, Nat.sub_self]; rfl, rfl⟩, e_st_mono hmono h2⟩, e_wk_push h3 hn hw1 (show e_ent ad (as ++ [q]) tys (.inl (ci, fs)) (.inr (ci, fv)) from ⟨rfl, hlen, hrel ad _⟩), p1, p2, p3, List.IsPrefix.trans h7 hmono⟩
  dsimp only at hfin
  rw [Nat.sub_add_comm hk0, Nat.sub_add_comm hs0] at hfin
  exact hfin
theorem s_newI {nx : Nat} (ha : Jvm.Cond.arrayClass .int ∈ lw_tbl) (hq : (e_ml[M]?).map (·.2.1) = some cc) (hd : decode cc pc = .ok (.newarray .int, 2)) (hnx : nx = pc + 2) : e_Sn M pc (o_newa 0 (e_I 2147483648) nx) := by
  intro g hg F al st w c K hM h
  unfold o_newa at h
  split at h
  · next m9 r =>
    cases hbc : (Nat.ble 2147483648 m9 && Nat.ble m9 2214592512) with
    | false => rw [hbc, cond_false] at h; cases h
    | true =>
      rw [hbc, cond_true] at h
      obtain ⟨g1, g2⟩ := (Bool.and_eq_true _ _).mp hbc
      replace g1 := Nat.le_of_ble_eq_true g1
      replace g2 := Nat.le_of_ble_eq_true g2
      have key : ∃ rs w1, e_rlen rs = m9 - 2147483648 ∧ (∀ j v, e_rat rs j = some v → v = (e_I 2147483648)) ∧ g F nx al (.inr (.inl (some c.1)) :: r) w1 (c.1 + 1, c.2.1 + 1, c.2.2 + (m9 - 2147483648)) K = true ∧ c.1 < 512 ∧ ∀ j, j < 2 ^ 9 → e_tget 9 w1 j = if j = c.1 then .inr (0, rs) else e_tget 9 w j := by
        generalize hN : m9 - 2147483648 = N at h
        cases N with
        | zero =>
          obtain ⟨w1, h, hn, hw1⟩ := e_push_t h
          exact ⟨[], w1, rfl, (fun j v hv => by cases hv), h, hn, hw1⟩
        | succ N =>
          obtain ⟨w1, h, hn, hw1⟩ := e_push_t h
          refine ⟨[(N + 1, (e_I 2147483648))], w1, rfl, fun j v hv => ?_, h, hn, hw1⟩
          rw [e_rat_cons] at hv
          split at hv
          · exact (Option.some.inj hv).symm
          · cases hv
      obtain ⟨rs, w1, hrl, hrv, h, hn, hw1⟩ := key
      obtain ⟨z, w', c', hK, hok⟩ := hg _ _ _ _ _ _ _ h
      refine ⟨z, w', c', hK, e_stepN hok (by dsimp only; omega) (by dsimp only; omega) (by dsimp only; omega) ?_⟩
      intro p l e R s m args below meth cd Q ad D tys base nL as0 k0 s0 hC hk0 hs0 hc hsl hW
      obtain ⟨hx, hb⟩ := e_cc hM hq hC
      intro as ws H locs ls ys hS
      obtain ⟨h1, h2, h3, h4, h5, h6, h7⟩ := hS
      obtain ⟨x0, ys, rfl, ⟨hm3, rfl⟩, h8⟩ := e_st_cons h2
      dsimp only at hc hsl hW
      subst hnx
      have hq : as.length = c.1 := by rw [← h3.1, List.length_map, h3.2.1]
      obtain ⟨N, hN⟩ : ∃ N, N = m9 - 2147483648 := ⟨_, rfl⟩
      rw [← hN] at hsl
      refine va_newa (atype := .int) (a0 := (N, .inl (fun _ => 0))) hx hb (e_wd hC ha rfl) rfl hC.2.2.2.2.1.1 h4 h5 h6 (fun q hq => Nat.le_trans hC.2.2.2.2.2.1 hq) (fun cA => rfl) (e_i_neg hm3 g1) (by rw [e_i_cl hm3 g1, hN]) (by show N * 4 ≤ 536870912; omega) (by omega) (by omega) hd (fun q cA H1 pK p1 p2 p3 => ?_)
      have hmono : as <+: as ++ [q] := ⟨[q], rfl⟩
      have hcA : ∃ ty, tys[0]? = some (cA, ty) := by
        cases hz : tys[0]? with
        | none =>
          have h9 := hC.2.2.2.2.1.2.1
          have h10 : (tys.map (·.2))[0]? = some .int := by rw [h9]; exact rfl
          rw [List.getElem?_map, hz] at h10
          cases h10
        | some z =>
          obtain ⟨cB, tyB⟩ := z
          have h10 : tyB = .int := Option.some.inj ((e_kt_at hC.2.2.2.2.1 hz).symm.trans (rfl))
          subst h10
          have r1 := (hC.2.2.2.2.1.1.2 _ _ hz).2
          have r2 := (pK.2 tys.length (cA, .int) (by rw [List.getElem?_append_right (Nat.le_refl _), Nat.sub_self]; rfl)).2
          unfold va_RA at r1 r2
          cases r1.symm.trans r2
          exact ⟨_, rfl⟩
      have hfin := hW (as ++ [q]) _ H1 locs ls (.ref q :: ys) ⟨e_lo_mono h1 hmono, ⟨⟨q, by rw [List.getElem?_append_right (by omega), hq, Nat.sub_self]; rfl, rfl⟩, e_st_mono hmono h8⟩, e_wk_push h3 hn hw1 (show e_ent ad (as ++ [q]) tys (.inr (0, rs)) (.inl (cA, N, .inl (fun _ => 0))) from ⟨hcA, by omega, by omega, fun j v hv => by rw [hrv j v hv]; exact ⟨by decide, by rw [e_i0]⟩⟩), p1, p2, p3, List.IsPrefix.trans h7 hmono⟩
      dsimp only at hfin
      rw [← hN, Nat.sub_add_comm hk0, Nat.sub_add_comm hs0] at hfin
      exact hfin
  · cases h
theorem s_newZ {nx : Nat} (ha : Jvm.Cond.arrayClass .boolean ∈ lw_tbl) (hq : (e_ml[M]?).map (·.2.1) = some cc) (hd : decode cc pc = .ok (.newarray .boolean, 2)) (hnx : nx = pc + 2) : e_Sn M pc (o_newa 1 (e_I 2147483648) nx) := by
  intro g hg F al st w c K hM h
  unfold o_newa at h
  split at h
  · next m9 r =>
    cases hbc : (Nat.ble 2147483648 m9 && Nat.ble m9 2214592512) with
    | false => rw [hbc, cond_false] at h; cases h
    | true =>
      rw [hbc, cond_true] at h
      obtain ⟨g1, g2⟩ := (Bool.and_eq_true _ _).mp hbc
      replace g1 := Nat.le_of_ble_eq_true g1
      replace g2 := Nat.le_of_ble_eq_true g2
      have key : ∃ rs w1, e_rlen rs = m9 - 2147483648 ∧ (∀ j v, e_rat rs j = some v → v = (e_I 2147483648)) ∧ g F nx al (.inr (.inl (some c.1)) :: r) w1 (c.1 + 1, c.2.1 + 1, c.2.2 + (m9 - 2147483648)) K = true ∧ c.1 < 512 ∧ ∀ j, j < 2 ^ 9 → e_tget 9 w1 j = if j = c.1 then .inr (1, rs) else e_tget 9 w j := by
        generalize hN : m9 - 2147483648 = N at h
        cases N with
        | zero =>
          obtain ⟨w1, h, hn, hw1⟩ := e_push_t h
          exact ⟨[], w1, rfl, (fun j v hv => by cases hv), h, hn, hw1⟩
        | succ N =>
          obtain ⟨w1, h, hn, hw1⟩ := e_push_t h
          refine ⟨[(N + 1, (e_I 2147483648))], w1, rfl, fun j v hv => ?_, h, hn, hw1⟩
          rw [e_rat_cons] at hv
          split at hv
          · exact (Option.some.inj hv).symm
          · cases hv
      obtain ⟨rs, w1, hrl, hrv, h, hn, hw1⟩ := key
      obtain ⟨z, w', c', hK, hok⟩ := hg _ _ _ _ _ _ _ h
      refine ⟨z, w', c', hK, e_stepN hok (by dsimp only; omega) (by dsimp only; omega) (by dsimp only; omega) ?_⟩
      intro p l e R s m args below meth cd Q ad D tys base nL as0 k0 s0 hC hk0 hs0 hc hsl hW
      obtain ⟨hx, hb⟩ := e_cc hM hq hC
      intro as ws H locs ls ys hS
      obtain ⟨h1, h2, h3, h4, h5, h6, h7⟩ := hS
      obtain ⟨x0, ys, rfl, ⟨hm3, rfl⟩, h8⟩ := e_st_cons h2
      dsimp only at hc hsl hW
      subst hnx
      have hq : as.length = c.1 := by rw [← h3.1, List.length_map, h3.2.1]
      obtain ⟨N, hN⟩ : ∃ N, N = m9 - 2147483648 := ⟨_, rfl⟩
      rw [← hN] at hsl
      refine va_newa (atype := .boolean) (a0 := (N, .inl (fun _ => 0))) hx hb (e_wd hC ha rfl) rfl hC.2.2.2.2.1.1 h4 h5 h6 (fun q hq => Nat.le_trans hC.2.2.2.2.2.1 hq) (fun cA => rfl) (e_i_neg hm3 g1) (by rw [e_i_cl hm3 g1, hN]) (by show N * 1 ≤ 536870912; omega) (by omega) (by omega) hd (fun q cA H1 pK p1 p2 p3 => ?_)
      have hmono : as <+: as ++ [q] := ⟨[q], rfl⟩
      have hcA : ∃ ty, tys[1]? = some (cA, ty) := by
        cases hz : tys[1]? with
        | none =>
          have h9 := hC.2.2.2.2.1.2.1
          have h10 : (tys.map (·.2))[1]? = some .boolean := by rw [h9]; exact rfl
          rw [List.getElem?_map, hz] at h10
          cases h10
        | some z =>
          obtain ⟨cB, tyB⟩ := z
          have h10 : tyB = .boolean := Option.some.inj ((e_kt_at hC.2.2.2.2.1 hz).symm.trans (rfl))
          subst h10
          have r1 := (hC.2.2.2.2.1.1.2 _ _ hz).2
          have r2 := (pK.2 tys.length (cA, .boolean) (by rw [List.getElem?_append_right (Nat.le_refl _), Nat.sub_self]; rfl)).2
          unfold va_RA at r1 r2
          cases r1.symm.trans r2
          exact ⟨_, rfl⟩
      have hfin := hW (as ++ [q]) _ H1 locs ls (.ref q :: ys) ⟨e_lo_mono h1 hmono, ⟨⟨q, by rw [List.getElem?_append_right (by omega), hq, Nat.sub_self]; rfl, rfl⟩, e_st_mono hmono h8⟩, e_wk_push h3 hn hw1 (show e_ent ad (as ++ [q]) tys (.inr (1, rs)) (.inl (cA, N, .inl (fun _ => 0))) from ⟨hcA, by omega, by omega, fun j v hv => by rw [hrv j v hv]; exact ⟨by decide, by rw [e_i0]⟩⟩), p1, p2, p3, List.IsPrefix.trans h7 hmono⟩
      dsimp only at hfin
      rw [← hN, Nat.sub_add_comm hk0, Nat.sub_add_comm hs0] at hfin
      exact hfin
  · cases h
theorem s_newJ {nx : Nat} (ha : Jvm.Cond.arrayClass .long ∈ lw_tbl) (hq : (e_ml[M]?).map (·.2.1) = some cc) (hd : decode cc pc = .ok (.newarray .long, 2)) (hnx : nx = pc + 2) : e_Sn M pc (o_newa 2 (e_L 9223372036854775808) nx) := by
  intro g hg F al st w c K hM h
  unfold o_newa at h
  split at h
  · next m9 r =>
    cases hbc : (Nat.ble 2147483648 m9 && Nat.ble m9 2214592512) with
    | false => rw [hbc, cond_false] at h; cases h
    | true =>
      rw [hbc, cond_true] at h
      obtain ⟨g1, g2⟩ := (Bool.and_eq_true _ _).mp hbc
      replace g1 := Nat.le_of_ble_eq_true g1
      replace g2 := Nat.le_of_ble_eq_true g2
      have key : ∃ rs w1, e_rlen rs = m9 - 2147483648 ∧ (∀ j v, e_rat rs j = some v → v = (e_L 9223372036854775808)) ∧ g F nx al (.inr (.inl (some c.1)) :: r) w1 (c.1 + 1, c.2.1 + 1, c.2.2 + (m9 - 2147483648)) K = true ∧ c.1 < 512 ∧ ∀ j, j < 2 ^ 9 → e_tget 9 w1 j = if j = c.1 then .inr (2, rs) else e_tget 9 w j := by
        generalize hN : m9 - 2147483648 = N at h
        cases N with
        | zero =>
          obtain ⟨w1, h, hn, hw1⟩ := e_push_t h
          exact ⟨[], w1, rfl, (fun j v hv => by cases hv), h, hn, hw1⟩
        | succ N =>
          obtain ⟨w1, h, hn, hw1⟩ := e_push_t h
          refine ⟨[(N + 1, (e_L 9223372036854775808))], w1, rfl, fun j v hv => ?_, h, hn, hw1⟩
          rw [e_rat_cons] at hv
          split at hv
          · exact (Option.some.inj hv).symm
          · cases hv
      obtain ⟨rs, w1, hrl, hrv, h, hn, hw1⟩ := key
      obtain ⟨z, w', c', hK, hok⟩ := hg _ _ _ _ _ _ _ h
      refine ⟨z, w', c', hK, e_stepN hok (by dsimp only; omega) (by dsimp only; omega) (by dsimp only; omega) ?_⟩
      intro p l e R s m args below meth cd Q ad D tys base nL as0 k0 s0 hC hk0 hs0 hc hsl hW
      obtain ⟨hx, hb⟩ := e_cc hM hq hC
      intro as ws H locs ls ys hS
      obtain ⟨h1, h2, h3, h4, h5, h6, h7⟩ := hS
      obtain ⟨x0, ys, rfl, ⟨hm3, rfl⟩, h8⟩ := e_st_cons h2
      dsimp only at hc hsl hW
      subst hnx
      have hq : as.length = c.1 := by rw [← h3.1, List.length_map, h3.2.1]
      obtain ⟨N, hN⟩ : ∃ N, N = m9 - 2147483648 := ⟨_, rfl⟩
      rw [← hN] at hsl
      refine va_newa (atype := .long) (a0 := (N, .inr (.inl (fun _ => 0)))) hx hb (e_wd hC ha rfl) rfl hC.2.2.2.2.1.1 h4 h5 h6 (fun q hq => Nat.le_trans hC.2.2.2.2.2.1 hq) (fun cA => rfl) (e_i_neg hm3 g1) (by rw [e_i_cl hm3 g1, hN]) (by show N * 8 ≤ 536870912; omega) (by omega) (by omega) hd (fun q cA H1 pK p1 p2 p3 => ?_)
      have hmono : as <+: as ++ [q] := ⟨[q], rfl⟩
      have hcA : ∃ ty, tys[2]? = some (cA, ty) := by
        cases hz : tys[2]? with
        | none =>
          have h9 := hC.2.2.2.2.1.2.1
          have h10 : (tys.map (·.2))[2]? = some .long := by rw [h9]; exact rfl
          rw [List.getElem?_map, hz] at h10
          cases h10
        | some z =>
          obtain ⟨cB, tyB⟩ := z
          have h10 : tyB = .long := Option.some.inj ((e_kt_at hC.2.2.2.2.1 hz).symm.trans (rfl))
          subst h10
          have r1 := (hC.2.2.2.2.1.1.2 _ _ hz).2
          have r2 := (pK.2 tys.length (cA, .long) (by rw [List.getElem?_append_right (Nat.le_refl _), Nat.sub_self]; rfl)).2
          unfold va_RA at r1 r2
          cases r1.symm.trans r2
          exact ⟨_, rfl⟩
      have hfin := hW (as ++ [q]) _ H1 locs ls (.ref q :: ys) ⟨e_lo_mono h1 hmono, ⟨⟨q, by rw [List.getElem?_append_right (by omega), hq, Nat.sub_self]; rfl, rfl⟩, e_st_mono hmono h8⟩, e_wk_push h3 hn hw1 (show e_ent ad (as ++ [q]) tys (.inr (2, rs)) (.inl (cA, N, .inr (.inl (fun _ => 0)))) from ⟨hcA, by omega, by omega, fun j v hv => by rw [hrv j v hv]; exact ⟨by decide, by rw [n_l0]⟩⟩), p1, p2, p3, List.IsPrefix.trans h7 hmono⟩
      dsimp only at hfin
      rw [← hN, Nat.sub_add_comm hk0, Nat.sub_add_comm hs0] at hfin
      exact hfin
  · cases h
theorem s_newR {nx : Nat} {tc index : Nat} {own E : String} (hkt : e_kt[tc + 3]? = some (.object E)) (ho : (e_ml[M]?).map (·.1.cls) = some own) (hcl : Jvm.Cond.classLink own index E ∈ lw_tbl) (hao : ∀ s : State, (∀ w ∈ e_nw, va_Nw w s) → va_AO E s) (hq : (e_ml[M]?).map (·.2.1) = some cc) (hd : decode cc pc = .ok (.anewarray index, 3)) (hnx : nx = pc + 3) : e_Sn M pc (o_newa (tc + 3) e_N nx) := by
  intro g hg F al st w c K hM h
  unfold o_newa at h
  split at h
  · next m9 r =>
    cases hbc : (Nat.ble 2147483648 m9 && Nat.ble m9 2214592512) with
    | false => rw [hbc, cond_false] at h; cases h
    | true =>
      rw [hbc, cond_true] at h
      obtain ⟨g1, g2⟩ := (Bool.and_eq_true _ _).mp hbc
      replace g1 := Nat.le_of_ble_eq_true g1
      replace g2 := Nat.le_of_ble_eq_true g2
      have key : ∃ rs w1, e_rlen rs = m9 - 2147483648 ∧ (∀ j v, e_rat rs j = some v → v = e_N) ∧ g F nx al (.inr (.inl (some c.1)) :: r) w1 (c.1 + 1, c.2.1 + 1, c.2.2 + (m9 - 2147483648)) K = true ∧ c.1 < 512 ∧ ∀ j, j < 2 ^ 9 → e_tget 9 w1 j = if j = c.1 then .inr ((tc + 3), rs) else e_tget 9 w j := by
        generalize hN : m9 - 2147483648 = N at h
        cases N with
        | zero =>
          obtain ⟨w1, h, hn, hw1⟩ := e_push_t h
          exact ⟨[], w1, rfl, (fun j v hv => by cases hv), h, hn, hw1⟩
        | succ N =>
          obtain ⟨w1, h, hn, hw1⟩ := e_push_t h
          refine ⟨[(N + 1, e_N)], w1, rfl, fun j v hv => ?_, h, hn, hw1⟩
          rw [e_rat_cons] at hv
          split at hv
          · exact (Option.some.inj hv).symm
          · cases hv
      obtain ⟨rs, w1, hrl, hrv, h, hn, hw1⟩ := key
      obtain ⟨z, w', c', hK, hok⟩ := hg _ _ _ _ _ _ _ h
      refine ⟨z, w', c', hK, e_stepN hok (by dsimp only; omega) (by dsimp only; omega) (by dsimp only; omega) ?_⟩
      intro p l e R s m args below meth cd Q ad D tys base nL as0 k0 s0 hC hk0 hs0 hc hsl hW
      obtain ⟨hx, hb⟩ := e_cc hM hq hC
      intro as ws H locs ls ys hS
      obtain ⟨h1, h2, h3, h4, h5, h6, h7⟩ := hS
      obtain ⟨x0, ys, rfl, ⟨hm3, rfl⟩, h8⟩ := e_st_cons h2
      dsimp only at hc hsl hW
      subst hnx
      have hq : as.length = c.1 := by rw [← h3.1, List.length_map, h3.2.1]
      obtain ⟨N, hN⟩ : ∃ N, N = m9 - 2147483648 := ⟨_, rfl⟩
      rw [← hN] at hsl
      refine va_newq (N' := N) hx hb (e_own hM ho hC) (e_wd hC hcl rfl) (hao s (hC.2.2.2.2.1.2.2.1)) hC.2.2.2.2.1.1 h4 h5 h6 (fun q hq => Nat.le_trans hC.2.2.2.2.2.1 hq) (e_i_neg hm3 g1) (by rw [e_i_cl hm3 g1, hN]) (by omega) (by omega) (by omega) hd (fun q cA H1 pK p1 p2 p3 => ?_)
      have hmono : as <+: as ++ [q] := ⟨[q], rfl⟩
      have hcA : ∃ ty, tys[(tc + 3)]? = some (cA, ty) := by
        cases hz : tys[(tc + 3)]? with
        | none =>
          have h9 := hC.2.2.2.2.1.2.1
          have h10 : (tys.map (·.2))[(tc + 3)]? = some (.object E) := by rw [h9]; exact hkt
          rw [List.getElem?_map, hz] at h10
          cases h10
        | some z =>
          obtain ⟨cB, tyB⟩ := z
          have h10 : tyB = (.object E) := Option.some.inj ((e_kt_at hC.2.2.2.2.1 hz).symm.trans (hkt))
          subst h10
          have r1 := (hC.2.2.2.2.1.1.2 _ _ hz).2
          have r2 := (pK.2 tys.length (cA, (.object E)) (by rw [List.getElem?_append_right (Nat.le_refl _), Nat.sub_self]; rfl)).2
          obtain ⟨_, _, _, _, _, r1⟩ := r1
          obtain ⟨_, _, _, _, _, r2⟩ := r2
          cases r1.symm.trans r2
          exact ⟨_, rfl⟩
      have hfin := hW (as ++ [q]) _ H1 locs ls (.ref q :: ys) ⟨e_lo_mono h1 hmono, ⟨⟨q, by rw [List.getElem?_append_right (by omega), hq, Nat.sub_self]; rfl, rfl⟩, e_st_mono hmono h8⟩, e_wk_push h3 hn hw1 (show e_ent ad (as ++ [q]) tys (.inr ((tc + 3), rs)) (.inl (cA, N, .inr (.inr (.inr (.inr (fun _ => none)))))) from ⟨hcA, by omega, by omega, fun j v hv => by rw [hrv j v hv]; rfl⟩), p1, p2, p3, List.IsPrefix.trans h7 hmono⟩
      dsimp only at hfin
      rw [← hN, Nat.sub_add_comm hk0, Nat.sub_add_comm hs0] at hfin
      exact hfin
  · cases h
end SN
end
section
section SN
variable {M pc : Nat} {cc : ByteArray}
theorem e_rt {F : e_F} {M nL base : Nat} {rt : Option FieldType} {p : Program} {l : Launch} {s : State} {m : MethodId} {args : Array Value} {meth : Method} {cd : Code} {ad : Nat → Nat} {D : va_G} {tys : List (ClassId × FieldType)} (hM : F.1 = M) (ho : (e_ml[M]?).map (·.2.2.2) = some rt) (hC : e_Cx F p l s m args meth cd ad D tys base nL) : meth.sig.returnType = rt := by
  obtain ⟨-, hx, -, -, -, -, -, q, h1, h2, -, -, h5, h6, -⟩ := hC
  rw [hM] at h1
  rw [h1] at ho
  cases ho
  exact h6
theorem s_iret (hq : (e_ml[M]?).map (·.2.1) = some cc) (hrt : (e_ml[M]?).map (·.2.2.2) = some (some .int)) (hd : decode cc pc = .ok (.ireturn, 1)) : e_Sn M pc (o_ret e_okI) := by
  intro g hg F al st w c K hM h
  unfold o_ret at h
  split at h
  · next v =>
    cases ho : e_okI v with
    | false => rw [ho, cond_false] at h; cases h
    | true =>
      rw [ho, cond_true] at h
      refine ⟨_, _, _, h, Nat.le_refl _, Nat.le_refl _, Nat.le_refl _, ?_⟩
      intro p l e R s m args below meth cd Q ad D tys base nL as0 k0 s0 hC hf hl hk hs hc hsl hE
      obtain ⟨hx, hb⟩ := e_cc hM hq hC
      intro as ws H locs ls ys hS
      obtain ⟨h1, h2, h3, h4, h5, h6, h7⟩ := hS
      obtain ⟨x, ys, rfl, hr, h8⟩ := e_st_cons h2
      obtain rfl := e_st_nil h8
      have hd2 : decode cd.code pc = .ok (.ireturn, 1) := by rw [hb]; exact hd
      exact hE as ws H locs ⟨h3, h4, h5, h6, h7⟩ pc ls x hr (Or.inl ⟨by obtain ⟨y, hy⟩ := e_rel_I hr ho; exact ⟨y, hy, Or.inl (e_rt hM hrt hC)⟩, hd2⟩)
  · cases h
theorem s_zret (hq : (e_ml[M]?).map (·.2.1) = some cc) (hrt : (e_ml[M]?).map (·.2.2.2) = some (some .boolean)) (hd : decode cc pc = .ok (.ireturn, 1)) : e_Sn M pc (o_ret e_okZ) := by
  intro g hg F al st w c K hM h
  unfold o_ret at h
  split at h
  · next v =>
    cases ho : e_okZ v with
    | false => rw [ho, cond_false] at h; cases h
    | true =>
      rw [ho, cond_true] at h
      refine ⟨_, _, _, h, Nat.le_refl _, Nat.le_refl _, Nat.le_refl _, ?_⟩
      intro p l e R s m args below meth cd Q ad D tys base nL as0 k0 s0 hC hf hl hk hs hc hsl hE
      obtain ⟨hx, hb⟩ := e_cc hM hq hC
      intro as ws H locs ls ys hS
      obtain ⟨h1, h2, h3, h4, h5, h6, h7⟩ := hS
      obtain ⟨x, ys, rfl, hr, h8⟩ := e_st_cons h2
      obtain rfl := e_st_nil h8
      have hd2 : decode cd.code pc = .ok (.ireturn, 1) := by rw [hb]; exact hd
      exact hE as ws H locs ⟨h3, h4, h5, h6, h7⟩ pc ls x hr (Or.inl ⟨by rcases e_okZ_t ho hr with hy | hy; exact ⟨_, hy, Or.inr ⟨e_rt hM hrt hC, Or.inl rfl⟩⟩; exact ⟨_, hy, Or.inr ⟨e_rt hM hrt hC, Or.inr rfl⟩⟩, hd2⟩)
  · cases h
theorem s_lret (hq : (e_ml[M]?).map (·.2.1) = some cc) (hrt : (e_ml[M]?).map (·.2.2.2) = some (some .long)) (hd : decode cc pc = .ok (.lreturn, 1)) : e_Sn M pc (o_ret e_okL) := by
  intro g hg F al st w c K hM h
  unfold o_ret at h
  split at h
  · next v =>
    cases ho : e_okL v with
    | false => rw [ho, cond_false] at h; cases h
    | true =>
      rw [ho, cond_true] at h
      refine ⟨_, _, _, h, Nat.le_refl _, Nat.le_refl _, Nat.le_refl _, ?_⟩
      intro p l e R s m args below meth cd Q ad D tys base nL as0 k0 s0 hC hf hl hk hs hc hsl hE
      obtain ⟨hx, hb⟩ := e_cc hM hq hC
      intro as ws H locs ls ys hS
      obtain ⟨h1, h2, h3, h4, h5, h6, h7⟩ := hS
      obtain ⟨x, ys, rfl, hr, h8⟩ := e_st_cons h2
      obtain rfl := e_st_nil h8
      have hd2 : decode cd.code pc = .ok (.lreturn, 1) := by rw [hb]; exact hd
      exact hE as ws H locs ⟨h3, h4, h5, h6, h7⟩ pc ls x hr (Or.inr (Or.inl ⟨by obtain ⟨y, hy⟩ := e_rel_L hr ho; exact ⟨y, hy, e_rt hM hrt hC⟩, hd2⟩))
  · cases h
theorem s_aret {rt : FieldType} (href : (∃ n, rt = .object n) ∨ ∃ t, rt = .array t) (hq : (e_ml[M]?).map (·.2.1) = some cc) (hrt : (e_ml[M]?).map (·.2.2.2) = some (some rt)) (hd : decode cc pc = .ok (.areturn, 1)) : e_Sn M pc (o_ret e_okR) := by
  intro g hg F al st w c K hM h
  unfold o_ret at h
  split at h
  · next v =>
    cases ho : e_okR v with
    | false => rw [ho, cond_false] at h; cases h
    | true =>
      rw [ho, cond_true] at h
      refine ⟨_, _, _, h, Nat.le_refl _, Nat.le_refl _, Nat.le_refl _, ?_⟩
      intro p l e R s m args below meth cd Q ad D tys base nL as0 k0 s0 hC hf hl hk hs hc hsl hE
      obtain ⟨hx, hb⟩ := e_cc hM hq hC
      intro as ws H locs ls ys hS
      obtain ⟨h1, h2, h3, h4, h5, h6, h7⟩ := hS
      obtain ⟨x, ys, rfl, hr, h8⟩ := e_st_cons h2
      obtain rfl := e_st_nil h8
      have hd2 : decode cd.code pc = .ok (.areturn, 1) := by rw [hb]; exact hd
      exact hE as ws H locs ⟨h3, h4, h5, h6, h7⟩ pc ls x hr (Or.inr (Or.inr ⟨⟨e_rel_R hr ho, rt, e_rt hM hrt hC, href⟩, hd2⟩))
  · cases h
theorem s_vret (hq : (e_ml[M]?).map (·.2.1) = some cc) (hrt : (e_ml[M]?).map (·.2.2.2) = some none) (hd : decode cc pc = .ok (.return_, 1)) : e_Sn M pc o_retv := by
  intro g hg F al st w c K hM h
  unfold o_retv at h
  split at h
  · refine ⟨_, _, _, h, Nat.le_refl _, Nat.le_refl _, Nat.le_refl _, ?_⟩
    intro p l e R s m args below meth cd Q ad D tys base nL as0 k0 s0 hC hf hl hk hs hc hsl hE
    obtain ⟨hx, hb⟩ := e_cc hM hq hC
    intro as ws H locs ls ys hS
    obtain ⟨h1, h2, h3, h4, h5, h6, h7⟩ := hS
    obtain rfl := e_st_nil h2
    have hd2 : decode cd.code pc = .ok (.return_, 1) := by rw [hb]; exact hd
    exact hE as ws H locs ⟨h3, h4, h5, h6, h7⟩ pc ls (e_rt hM hrt hC) hd2
  · cases h
theorem e_is2_t {ad : Nat → Nat} {as : List Nat} {v : e_V} {x : Value} (h : e_rel ad as v x) (h1 : e_is1 v = false) : x.category = 2 := by
  rcases v with v | v | v | v | v | v
  · cases h1
  · cases h1
  · obtain ⟨-, rfl⟩ := h; rfl
  · cases h1
  · obtain ⟨_, -, -, -, rfl⟩ := h; rfl
  · cases h1
theorem e_loc_t : ∀ {as : List e_V} {m : Nat} {k : e_A → Bool}, e_loc as m k = true → ∃ la, k la = true ∧ la.length = m ∧ ∀ (ad : Nat → Nat) (az : List Nat) (xs : List Value), e_st ad az as xs → (lg_sl xs).length ≤ m ∧ ∀ (o i : Nat) (v : e_V), la[i]? = some (some v) → ∃ x, (o + i, x) ∈ lv_args o xs ∧ e_rel ad az v x
  | [], m, k, h => ⟨List.replicate m none, h, by simp, fun ad az xs hxs => by
    obtain rfl := e_st_nil hxs
    refine ⟨by simp [lg_sl], fun o i v hv => ?_⟩
    rw [List.getElem?_replicate] at hv
    split at hv <;> cases hv⟩
  | v :: l, 0, k, h => by cases h
  | v :: l, z + 1, k, h => by
    unfold e_loc at h
    dsimp only at h
    cases hb : e_is1 v with
    | true =>
      rw [hb, cond_true] at h
      obtain ⟨la, h1, h2, h3⟩ := e_loc_t h
      refine ⟨_, h1, by simp [h2], fun ad az xs hxs => ?_⟩
      obtain ⟨x, xs, rfl, hx, hxs⟩ := e_st_cons hxs
      obtain ⟨g1, g2⟩ := h3 ad az xs hxs
      have hcat := e_is1_t hx hb
      refine ⟨by simp [lg_sl, hcat] at g1 ⊢; omega, fun o i u hu => ?_⟩
      unfold lv_args
      rw [if_neg (by omega)]
      cases i with
      | zero =>
        simp only [List.getElem?_cons_zero, Option.some.injEq] at hu
        subst hu
        exact ⟨x, List.mem_cons_self, hx⟩
      | succ i =>
        obtain ⟨y, hy1, hy2⟩ := g2 (o + 1) i u hu
        exact ⟨y, List.mem_cons_of_mem _ (by rw [show o + (i + 1) = o + 1 + i by omega]; exact hy1), hy2⟩
    | false =>
      rw [hb, cond_false] at h
      cases z with
      | zero => cases h
      | succ y =>
        dsimp only at h
        obtain ⟨la, h1, h2, h3⟩ := e_loc_t h
        refine ⟨_, h1, by simp [h2], fun ad az xs hxs => ?_⟩
        obtain ⟨x, xs, rfl, hx, hxs⟩ := e_st_cons hxs
        obtain ⟨g1, g2⟩ := h3 ad az xs hxs
        have hcat := e_is2_t hx hb
        refine ⟨by simp [lg_sl, hcat] at g1 ⊢; omega, fun o i u hu => ?_⟩
        unfold lv_args
        rw [if_pos hcat]
        match i, hu with
        | 0, hu =>
          simp only [List.getElem?_cons_zero, Option.some.injEq] at hu
          subst hu
          exact ⟨x, List.mem_cons_self, hx⟩
        | 1, hu =>
          simp at hu
        | i + 2, hu =>
          obtain ⟨y, hy1, hy2⟩ := g2 (o + 2) i u hu
          exact ⟨y, List.mem_cons_of_mem _ (by rw [show o + (i + 2) = o + 2 + i by omega]; exact hy1), hy2⟩
theorem e_args_t : ∀ {n : Nat} {acc st : List e_V} {k : List e_V → List e_V → Bool}, e_args n acc st k = true → ∃ t r, st = t ++ r ∧ t.length = n ∧ k (t.reverse ++ acc) r = true
  | 0, acc, st, k, h => ⟨[], st, rfl, rfl, h⟩
  | n + 1, acc, st, k, h => by
    cases st with
    | nil => cases h
    | cons v r =>
      obtain ⟨t, r, h1, h2, h3⟩ := e_args_t (n := n) (acc := v :: acc) (st := r) (k := k) h
      exact ⟨v :: t, r, by rw [h1]; rfl, by simp [h2], by simpa using h3⟩
theorem e_st_app {ad : Nat → Nat} {as : List Nat} : ∀ {t r : List e_V} {ys : List Value}, e_st ad as (t ++ r) ys → ∃ tc rc, ys = tc ++ rc ∧ tc.length = t.length ∧ e_st ad as t tc ∧ e_st ad as r rc
  | [], r, ys, h => ⟨[], ys, rfl, rfl, trivial, h⟩
  | v :: t, r, ys, h => by
    obtain ⟨x, ys, rfl, hx, h⟩ := e_st_cons h
    obtain ⟨tc, rc, rfl, h1, h2, h3⟩ := e_st_app h
    exact ⟨x :: tc, rc, rfl, by simp [h1], ⟨hx, h2⟩, h3⟩
theorem e_st_join {ad : Nat → Nat} {as : List Nat} : ∀ {t r : List e_V} {tc rc : List Value}, e_st ad as t tc → e_st ad as r rc → e_st ad as (t ++ r) (tc ++ rc)
  | [], _, [], _, _, h => h
  | _ :: _, _, _ :: _, _, h, h2 => ⟨h.1, e_st_join h.2 h2⟩
theorem e_st_rev {ad : Nat → Nat} {as : List Nat} : ∀ {t : List e_V} {tc : List Value}, e_st ad as t tc → e_st ad as t.reverse tc.reverse
  | [], [], _ => trivial
  | v :: t, x :: tc, h => by
    rw [List.reverse_cons, List.reverse_cons]
    exact e_st_join (e_st_rev h.2) ⟨h.1, trivial⟩
theorem e_stw_t {ad : Nat → Nat} {as : List Nat} : ∀ {r : List e_V} {rc : List Value}, e_st ad as r rc → (rc.map fun v => v.category).sum = e_stw r
  | [], [], _ => rfl
  | v :: r, x :: rc, h => by
    rw [List.map_cons, List.sum_cons, e_stw_t h.2]
    show _ = (bif e_is1 v then 1 else 2) + e_stw r
    cases hb : e_is1 v with
    | true => rw [e_is1_t h.1 hb, cond_true]
    | false => rw [e_is2_t h.1 hb, cond_false]
/-- what a callee is given, and what it gives back -/
def e_Pc (F : e_F) (ad : Nat → Nat) (D : va_G) (tys : List (ClassId × FieldType)) (base : Nat) (as0 : List Nat) (ws0 : va_W) (vs : List e_V) : Array Value → State → Prop := fun a U =>
  ∃ xs, a = xs.toArray ∧ e_st ad as0 vs xs ∧ va_P D e_cl ws0 U.heap ∧ base ≤ U.heap.size ∧ e_Kx D tys U ∧ e_sf F ad base U U.heap
def e_Qc (ad : Nat → Nat) (D : va_G) (tys : List (ClassId × FieldType)) (base : Nat) (as0 : List Nat) (ov : Option e_V) (w' : e_W) (n' : Nat) : Array Value → State → Outcome → State → Prop := fun _ st oc t =>
  ∃ as' ws', as0 <+: as' ∧ e_wk ad as' tys w' n' ws' ∧ va_P D e_cl ws' t.heap ∧ va_D (e_A0 base) ws' ∧ va_F (e_A0 base) st t ∧ (match ov with
    | some v => ∃ x, oc = .returned (some x) ∧ e_rel ad as' v x
    | none => oc = .returned none)
theorem e_et {s : State} {m : MethodId} {args : Array Value} {meth : Method} {cd : Code} {y : MethodName} (hm : s.vm.method? m = some meth) (hn : s.methodNamed? y = some m) (hc : meth.code = some cd) (hts : ∀ w ∈ e_ws, w.before args s = true) : e_Et y cd := by
  refine ⟨fun b mL rt hw => ?_, fun b mL rt hh hw => ?_⟩
  · obtain ⟨meth9, c9, h1, h2, -, -, -, -, h7, -⟩ := Cond.code_spec hn (hts _ hw)
    cases Option.some.inj (h1.symm.trans hm)
    cases Option.some.inj (h2.symm.trans hc)
    rw [Array.isEmpty_iff.mp h7]
  · obtain ⟨m9, meth9, c9, hn9, h1, h2, -, -, h6, -⟩ := Cond.codeWith_spec (hts _ hw)
    cases Option.some.inj (hn9.symm.trans hn)
    cases Option.some.inj (h1.symm.trans hm)
    cases Option.some.inj (h2.symm.trans hc)
    rw [← h6, table_eq]
theorem e_met {F : e_F} {la : e_A} {vs : List e_V} {w w' : e_W} {c c' : e_Q} {ov : Option e_V} {y : MethodName} {b : ByteArray} {mL : Nat} {rt : Option FieldType} {ad : Nat → Nat} {D : va_G} {tys : List (ClassId × FieldType)} {base : Nat} {as0 : List Nat} {ws0 : va_W} {l : Launch} (hok : e_Ok F 0 la [] w c (.inl ov) w' c') (hq : e_ml[F.1]? = some (y, b, mL, rt)) (hy : plainName y.cls = true) (hfl : l.flags = flags0)
    (hla : la.length = mL) (hla2 : ∀ (ad : Nat → Nat) (az : List Nat) (xs : List Value), e_st ad az vs xs → (lg_sl xs).length ≤ mL ∧ ∀ (o i : Nat) (v : e_V), la[i]? = some (some v) → ∃ x, (o + i, x) ∈ lv_args o xs ∧ e_rel ad az v x)
    (hwk : e_wk ad as0 tys w c.1 ws0) (hD : va_D (e_A0 base) ws0) :
    Met l y (.code y b mL rt :: e_ws) { frames := F.2.1, cells := c'.2.1 - c.2.1, slots := c'.2.2 - c.2.2, locals := F.2.2.1 } (e_Pc F ad D tys base as0 ws0 vs) (e_Qc ad D tys base as0 ov w' c'.1) (c'.2.1 - c.2.1) (c'.2.2 - c.2.2) (e_A0 base) := by
  refine Met.ofW (cc := b) (maxL := mL) (ret := rt) hy rfl ?_
  intro p e s m args below meth cd s₁ B hml hP
  obtain ⟨xs, rfl, hst, hP, hbase, hK, hsf⟩ := hP
  obtain ⟨h1, h2, h3, h4⟩ := hok
  have hlocks := B.notSynchronized
  have hts : ∀ w ∈ e_ws, w.before xs.toArray s = true := fun w hw => atoms_spec (ws := .code y b mL rt :: e_ws) B.pre w (List.mem_cons_of_mem _ hw)
  have hC : e_Cx F p l s m xs.toArray meth cd ad D tys base mL := ⟨hfl, B.exec, hlocks, hts, hK, hbase, hsf, _, hq, B.bytes, hml, rfl, findClass_of_methodNamed B.named, B.returns, (name_of_methodNamed B.named B.method).1, e_et B.method B.named (Stand.of_body B).code hts⟩
  have hent := lv_entry xs (n := mL) (hla2 ad as0 xs hst).1
  rw [lg_entry_eq]
  have hE : e_En p l e (headSpec (.code y b mL rt :: e_ws) { frames := F.2.1, cells := c'.2.1 - c.2.1, slots := c'.2.2 - c.2.2, locals := F.2.2.1 }).room s m xs.toArray below meth cd (MQ below (e_Qc ad D tys base as0 ov w' c'.1) xs.toArray s (c'.2.1 - c.2.1) (c'.2.2 - c.2.2) (e_A0 base)) ad D tys base mL as0 c.2.1 c.2.2 (.inl ov) w' c' := by
    intro as ws H locs hH
    obtain ⟨g1, g2, g3, g4, g5⟩ := hH
    have hF9 : ∀ t : State, t.heap = H → va_F (e_A0 base) s t := fun t ht => ⟨by rw [ht]; exact g4.1, fun q hq hA => by rw [ht]; exact g4.2.1 q hq hA⟩
    cases ov with
    | none => exact fun pc ls hr hd => W.vret B.exec rfl hr (fun t ht hW => ⟨as, ws, g5, g1, by rw [ht]; exact g2, g3, hF9 t ht, rfl⟩) g4.2.2 hd
    | some v =>
      intro pc ls x hx hret
      have hQ : ∀ t : State, t.heap = H → s.WarmedH t.vm → e_Qc ad D tys base as0 (some v) w' c'.1 xs.toArray s (.returned (some x)) t := fun t ht hW => ⟨as, ws, g5, g1, by rw [ht]; exact g2, g3, hF9 t ht, x, rfl, hx⟩
      rcases hret with ⟨⟨z, rfl, hr | ⟨hr, hz⟩⟩, hd⟩ | ⟨⟨z, rfl, hr⟩, hd⟩ | ⟨⟨hx2, rt2, hr, hrt⟩, hd⟩
      · exact W.iret B.exec rfl hr hQ g4.2.2 hd
      · exact W.zret B.exec rfl hr (by rcases hz with rfl | rfl <;> decide) hQ g4.2.2 hd
      · exact W.lret B.exec rfl hr hQ g4.2.2 hd
      · exact W.aret B.exec rfl hr hrt hx2 hQ g4.2.2 hd
  have hWG := h4 p l e _ s m xs.toArray below meth cd _ ad D tys base mL as0 c.2.1 c.2.2 hC (Nat.le_refl _) (Nat.le_refl _) (Nat.le_refl _) (Nat.le_refl _) (Nat.le_refl _) (Nat.le_refl _) hE
  have hfin := hWG as0 ws0 s.heap [] _ [] ⟨⟨hla, _, hent, fun i v hv => by obtain ⟨x, q1, q2⟩ := (hla2 ad as0 xs hst).2 0 i v hv; exact ⟨x, by rw [Nat.zero_add] at q1; exact q1, q2⟩⟩, trivial, hwk, hP, hD, va_S.rf, List.prefix_refl _⟩
  rw [Nat.sub_self, Nat.sub_self] at hfin
  exact hfin
end SN
end
section
section SN
variable {M pc : Nat} {cc : ByteArray}
theorem e_nw_warm {w : Jvm.Cond} {s U : State} (hk : e_nk w = true) (hW : s.WarmedH U.vm) (h : va_Nw w s) : va_Nw w U := by
  unfold e_nk at hk
  split at hk
  · exact va_Nw.warmM hW h
  · exact va_Nw.warmF hW h
  · exact va_Nw.warmC hW h
  · exact va_Nw.warmD hW h
  · exact va_AO.moved hW.alike h
  · exact over_moved hW.alike h
  · exact va_tabs rfl (rfl : (s.setVm U.vm).vm = U.vm) (by rw [Cond.unhidden_setVm hW.alike]; exact h)
  · exact va_tabs rfl (rfl : (s.setVm U.vm).vm = U.vm) (by rw [Cond.publicMethod_setVm hW.alike]; exact h)
  · cases hk
theorem e_nw_same {w : Jvm.Cond} {s U : State} (hk : e_nk w = true) (hW : s.vm = U.vm) (h : va_Nw w s) : va_Nw w U := by
  unfold e_nk at hk
  split at hk
  · exact va_Nw.same rfl hW h
  · exact va_Nw.same rfl hW h
  · exact va_Nw.same rfl hW h
  · exact va_Nw.same rfl hW h
  · exact va_AO.moved (by rw [hW]; exact Vm.Alike.refl _) h
  · exact over_moved (by rw [hW]; exact Vm.Alike.refl _) h
  · exact va_Nw.same rfl hW h
  · exact va_Nw.same rfl hW h
  · cases hk
theorem e_fwx : ∀ q ∈ e_fw, q.2.1.cls ≠ "java/lang/invoke/MethodHandle" ∧ q.2.1.cls ≠ "java/lang/invoke/VarHandle" := by
  unfold e_fw
  intro q hq
  obtain rfl := List.mem_singleton.mp hq
  exact ⟨by decide, by decide⟩
theorem e_Kx_warm {D : va_G} {tys : List (ClassId × FieldType)} {s U : State} (hW : s.WarmedH U.vm) (h : e_Kx D tys s) : e_Kx D tys U := ⟨va_K.moved hW.alike h.1, h.2.1, fun w hw => e_nw_warm (List.mem_filter.mp hw).2 hW (h.2.2.1 w hw), fun q hq => by obtain ⟨sa, h9⟩ := h.2.2.2.1 q hq; exact ⟨sa, vk_R.warm hW h9⟩, fun q hq => va_Nc.moved hW.alike (h.2.2.2.2.1 q hq), fun q hq => va_Fw.moved (e_fwx q hq) hW.alike (h.2.2.2.2.2 q hq)⟩
theorem e_Kx_same {D : va_G} {tys : List (ClassId × FieldType)} {s U : State} (hW : s.vm = U.vm) (h : e_Kx D tys s) : e_Kx D tys U := ⟨va_K.moved (by rw [hW]; exact Vm.Alike.refl _) h.1, h.2.1, fun w hw => e_nw_same (List.mem_filter.mp hw).2 hW (h.2.2.1 w hw), fun q hq => by obtain ⟨sa, h9⟩ := h.2.2.2.1 q hq; exact ⟨sa, vk_R.same hW.symm h9⟩, fun q hq => va_Nc.moved (by rw [hW]; exact Vm.Alike.refl _) (h.2.2.2.2.1 q hq), fun q hq => va_Fw.moved (e_fwx q hq) (by rw [hW]; exact Vm.Alike.refl _) (h.2.2.2.2.2 q hq)⟩
theorem e_sf_moved {F : e_F} {ad : Nat → Nat} {base : Nat} {s U : State} {H H1 : Heap} (hvm : s.vm.Alike U.vm) (hq : ∀ a : Nat, a < H.size → ¬ e_A0 base a → H1[a]? = H[a]?) (h : e_sf F ad base s H) : e_sf F ad base U H1 :=
  ⟨fun k hk => by obtain ⟨ty, f, h1, h2, h3⟩ := h.1 k hk; exact ⟨ty, f, h1, va_T.moved hvm (h2.kept hq), h3⟩, fun q hq2 => va_Z.moved hvm ((h.2.1 q hq2).kept hq), (h.2.2.1.kept hq).moved hvm, (h.2.2.2.1.kept hq).moved hvm, vb_C.moved hvm (h.2.2.2.2.1.kept hq), va_T.moved hvm (h.2.2.2.2.2.1.kept hq), va_Z.moved hvm (h.2.2.2.2.2.2.1.kept hq), va_Mi.moved hvm h.2.2.2.2.2.2.2⟩
theorem e_sf_F {F F' : e_F} {ad : Nat → Nat} {base : Nat} {s : State} {H : Heap} (hF : F'.2.2.2 = F.2.2.2) (h : e_sf F ad base s H) : e_sf F' ad base s H := by
  have hfc : ∀ k, e_fc e_fcs F' k = e_fc e_fcs F k := fun k => by cases k with
    | zero => exact hF
    | succ k => rfl
  refine ⟨fun k hk => ?_, h.2⟩
  rw [hfc]
  exact h.1 k hk
theorem e_Pc_blind {F : e_F} {ad : Nat → Nat} {D : va_G} {tys : List (ClassId × FieldType)} {base : Nat} {as0 : List Nat} {ws0 : va_W} {vs : List e_V} : FrameBlind (e_Pc F ad D tys base as0 ws0 vs) := by
  intro a U g mk h
  obtain ⟨xs, h1, h2, h3, h4, h5, h6⟩ := h
  exact ⟨xs, h1, h2, h3, h4, e_Kx_same (U := U.calling g mk a) (show U.vm = (U.calling g mk a).vm from rfl) h5, e_sf_moved (U := U.calling g mk a) (Vm.Alike.refl U.vm) (fun _ _ _ => rfl) h6⟩
theorem e_good {y : MethodName} {b : ByteArray} {mL : Nat} {rt : Option FieldType} (h : Jvm.Cond.code y b mL rt ∈ lw_tbl) : GoodIn e_ws (.code y b mL rt :: e_ws) := by
  intro w hw
  have h1 : w ∈ e_ws := by
    rcases List.mem_cons.mp hw with rfl | hw
    · exact List.mem_filter.mpr ⟨h, rfl⟩
    · exact hw
  exact ⟨h1, good_of_word (List.mem_filter.mp h1).2⟩
/-- what a call leaves, behind a callee that comes back -/
theorem e_runW {p : Program} {l : Launch} {e : Env} {R : Room} {s : State} {m : MethodId} {args : Array Value} {below : List Frame} {meth : Method} {cd : Code} {Q : State → Prop} {ad : Nat → Nat} {D : va_G} {tys : List (ClassId × FieldType)} {base : Nat} {as : List Nat} {ov : Option e_V} {w1 : e_W} {n1 mc ms cells slots pc : Nat} {H : Heap} {locs : List Loc} {ls : Array Slot} {ys rc : List Value} {a : Array Value}
    (hr : va_Run p l e R s m args below meth cd H locs cells slots mc ms (F0 m pc ls ys) rc (e_Qc ad D tys base as ov w1 n1 a) (e_A0 base)) (hS : va_S (e_A0 base) s.heap H locs)
    (hk : ∀ (as1 : List Nat) (ws1 : va_W) (H1 : Heap) (locs1 : List Loc) (xo : List Value), as <+: as1 → e_wk ad as1 tys w1 n1 ws1 → va_P D e_cl ws1 H1 → va_D (e_A0 base) ws1 → va_S (e_A0 base) s.heap H1 locs1 → (match ov with
      | some v => ∃ x, xo = [x] ∧ e_rel ad as1 v x
      | none => xo = []) → W p l e R s m args below meth cd H1 locs1 (cells + mc) (slots + ms) Q (F0 m (pc + 3) ls (xo ++ rc))) : W p l e R s m args below meth cd H locs cells slots Q (F0 m pc ls ys) := by
  intro T hT X
  obtain ⟨v, st₀, t, T', L, h0, X', hL, e1, e2, ⟨as1, ws1, q1, q2, q3, q4, q5, q6⟩, st⟩ := hr T hT X
  obtain ⟨k1, k2, k3⟩ := vx_keep (A0 := e_A0 base) h0 e1 hS (fun _ _ h => h) (fun _ h => h) hL q5
  obtain ⟨t2, a1, b1⟩ := hk as1 ws1 T'.heap (locs ++ L) v.toList q1 q2 (by rw [e1]; exact q3) q4 k3 (by
    cases ov with
    | none => cases q6; rfl
    | some u => obtain ⟨x, hx, hx2⟩ := q6; cases hx; exact ⟨x, rfl, hx2⟩) T' rfl X'
  exact ⟨t2, st t2 a1, b1⟩
theorem e_go_t {y mm nx : Nat} {as r : List e_V} {g : e_G} {F : e_F} {ls : e_A} {w : e_W} {c : e_Q} {K : e_K} {X : Nat → e_W → e_Q → Bool} (hg : e_Gd g) (h : e_go y mm as nx r g F ls w c K X = true) : ∃ la z1 w1 c1, 0 < F.2.1 ∧ mm + 19 ≤ F.2.2.1 ∧ e_stw r ≤ 8 ∧ la.length = mm ∧ (∀ (ad : Nat → Nat) (az : List Nat) (xs : List Value), e_st ad az as xs → (lg_sl xs).length ≤ mm ∧ ∀ (o i : Nat) (v : e_V), la[i]? = some (some v) → ∃ x, (o + i, x) ∈ lv_args o xs ∧ e_rel ad az v x) ∧
    e_Ok (y, F.2.1 - 1, F.2.2.1 - (mm + 19), F.2.2.2) 0 la [] w c z1 w1 c1 ∧ (match z1 with
      | .inl (some v) => g F nx ls (v :: r) w1 c1 K
      | .inl none => g F nx ls r w1 c1 K
      | .inr E => X E w1 c1) = true := by
  obtain ⟨M, fr, lo, bx⟩ := F
  unfold e_go at h
  dsimp only at h
  cases hbc : (Nat.blt 0 fr && Nat.ble (mm + 19) lo && Nat.ble (e_stw r) 8) with
  | false => rw [hbc, cond_false] at h; cases h
  | true =>
    rw [hbc, cond_true] at h
    obtain ⟨g1, g3⟩ := (Bool.and_eq_true _ _).mp hbc
    obtain ⟨g1, g2⟩ := (Bool.and_eq_true _ _).mp g1
    replace g1 : 0 < fr := Nat.le_of_ble_eq_true g1
    replace g2 := Nat.le_of_ble_eq_true g2
    replace g3 := Nat.le_of_ble_eq_true g3
    obtain ⟨la, h1, h2, h3⟩ := e_loc_t (e_fo_t (e_fo_t h))
    obtain ⟨z1, w1, c1, h4, h5⟩ := hg _ _ _ _ _ _ _ h1
    refine ⟨la, z1, w1, c1, g1, g2, g3, h2, h3, h5, ?_⟩
    rcases z1 with (_ | v) | E <;> exact h4
theorem s_callS {y mm n nx index : Nat} {own : String} {yn : MethodName} {yb : ByteArray} {rt : Option FieldType} (hq : (e_ml[M]?).map (·.2.1) = some cc) (ho : (e_ml[M]?).map (·.1.cls) = some own) (hy : e_ml[y]? = some (yn, yb, mm, rt)) (hplain : plainName yn.cls = true) (hcode : Jvm.Cond.code yn yb mm rt ∈ lw_tbl) (hini : Jvm.Cond.initialized yn.cls ∈ lw_tbl) (hdn : yn.cls ≠ "java/lang/invoke/MethodHandle" ∧ yn.cls ≠ "java/lang/invoke/VarHandle" ∧ (parseMethodDescriptor yn.desc).map (fun d => d.parameters.length) = some n) (hlink : Jvm.Cond.methodLink own index yn ∈ lw_tbl) (hstat : Jvm.Cond.static yn ∈ lw_tbl) (hd : decode cc pc = .ok (.invokestatic index, 3)) (hnx : nx = pc + 3) : e_Sn M pc (o_callS y mm n nx) := by
  intro g hg F al st w c K hM h
  unfold o_callS at h
  obtain ⟨t, r, rfl, ht0, h⟩ := e_args_t h
  obtain ⟨la, z1, w1, c1, hfr, hlo, hst8, hlal, hla, hok1, hres⟩ := e_go_t hg h
  rw [List.append_nil] at hla
  rcases z1 with (_ | v) | E
  · obtain ⟨z2, w2, c2, hK2, hok2⟩ := hg _ _ _ _ _ _ _ hres
    refine ⟨z2, w2, c2, hK2, Nat.le_trans hok1.1 hok2.1, Nat.le_trans hok1.2.1 hok2.2.1, Nat.le_trans hok1.2.2.1 hok2.2.2.1, ?_⟩
    intro p l e R s m args below meth cd Q ad D tys base nL as0 k0 s0 hC hf hl hk hs hc hsl hE
    have hok1' := hok1
    obtain ⟨b1, b2, b3, -⟩ := hok1'
    have hWG := hok2.2.2.2 p l e R s m args below meth cd Q ad D tys base nL as0 k0 s0 hC hf hl (by omega) (by omega) hc hsl hE
    obtain ⟨hx, hb⟩ := e_cc hM hq hC
    have d2 := hok2.2.1
    have d3 := hok2.2.2.1
    intro as ws H locs ls ys hS
    obtain ⟨h1, h2, h3, h4, h5, h6, h7⟩ := hS
    obtain ⟨tc, rc, rfl, ht1, ht2, ht3⟩ := e_st_app h2
    have hwd : (rc.map fun v => v.category).sum ≤ 8 := by rw [e_stw_t ht3]; exact hst8
    have hM9 := e_met (ad := ad) (D := D) (tys := tys) (base := base) (as0 := as) (ws0 := ws) (l := l) hok1 hy hplain hC.1 hlal hla h3 h5
    have hpre : ∀ U : State, U.heap = H → s.WarmedH U.vm → e_Pc (y, F.2.1 - 1, F.2.2.1 - (mm + 19), F.2.2.2) ad D tys base as ws t.reverse (tc.reverse).toArray U := fun U hU hW => ⟨tc.reverse, rfl, e_st_rev ht2, by rw [hU]; exact h4, by rw [hU]; exact Nat.le_trans hC.2.2.2.2.2.1 h6.1, e_Kx_warm hW hC.2.2.2.2.1, by
      rw [hU]
      exact e_sf_moved hW.alike (fun q hq hA => h6.2.1 q hq hA) (e_sf_F rfl hC.2.2.2.2.2.2.1)⟩
    have hrun := va_runS (e := e) (below := below) (meth := meth) (As := tc.reverse) (rest := rc) (Ts := e_ws) (own := own) (H := H) (locs := locs) (cells := c.2.1 - k0) (slots := c.2.2 - s0) (g := F0 m pc ls (tc ++ rc)) ⟨hx, hb, rfl, e_own hM ho hC, hC.2.2.2.1⟩ hM9 ⟨callB_of n hC.2.2.2.1 (e_good hcode) rfl rfl rfl (e_wd hC hini rfl) (e_wd hC hlink rfl) hdn ⟨by show F.2.1 - 1 + 1 ≤ R.frames; omega, by show 8 + (mm + 11) + (F.2.2.1 - (mm + 19)) ≤ R.locals; omega⟩, e_wd hC hstat rfl⟩ ⟨e_Pc_blind, hpre⟩ rfl (by simp [ht1, ht0]) (h1.2.choose_spec.1.1.trans (by obtain ⟨-, -, -, -, -, -, -, q9, -, -, r3, -⟩ := hC; exact r3.symm)) (by simp) (lv_room hwd) hd ⟨by omega, by omega⟩
    refine e_runW hrun h6 (fun as1 ws1 H1 locs1 xo q1 q2 q3 q4 q5 q6 => ?_)
    have hfin := hWG as1 ws1 H1 locs1 ls (xo ++ rc) ⟨e_lo_mono h1 q1, by cases q6; exact e_st_mono q1 ht3, q2, q3, q4, q5, List.IsPrefix.trans h7 q1⟩
    subst hnx
    rw [show c.2.1 - k0 + (c1.2.1 - c.2.1) = c1.2.1 - k0 by omega, show c.2.2 - s0 + (c1.2.2 - c.2.2) = c1.2.2 - s0 by omega]
    exact hfin
  · obtain ⟨z2, w2, c2, hK2, hok2⟩ := hg _ _ _ _ _ _ _ hres
    refine ⟨z2, w2, c2, hK2, Nat.le_trans hok1.1 hok2.1, Nat.le_trans hok1.2.1 hok2.2.1, Nat.le_trans hok1.2.2.1 hok2.2.2.1, ?_⟩
    intro p l e R s m args below meth cd Q ad D tys base nL as0 k0 s0 hC hf hl hk hs hc hsl hE
    have hok1' := hok1
    obtain ⟨b1, b2, b3, -⟩ := hok1'
    have hWG := hok2.2.2.2 p l e R s m args below meth cd Q ad D tys base nL as0 k0 s0 hC hf hl (by omega) (by omega) hc hsl hE
    obtain ⟨hx, hb⟩ := e_cc hM hq hC
    have d2 := hok2.2.1
    have d3 := hok2.2.2.1
    intro as ws H locs ls ys hS
    obtain ⟨h1, h2, h3, h4, h5, h6, h7⟩ := hS
    obtain ⟨tc, rc, rfl, ht1, ht2, ht3⟩ := e_st_app h2
    have hwd : (rc.map fun v => v.category).sum ≤ 8 := by rw [e_stw_t ht3]; exact hst8
    have hM9 := e_met (ad := ad) (D := D) (tys := tys) (base := base) (as0 := as) (ws0 := ws) (l := l) hok1 hy hplain hC.1 hlal hla h3 h5
    have hpre : ∀ U : State, U.heap = H → s.WarmedH U.vm → e_Pc (y, F.2.1 - 1, F.2.2.1 - (mm + 19), F.2.2.2) ad D tys base as ws t.reverse (tc.reverse).toArray U := fun U hU hW => ⟨tc.reverse, rfl, e_st_rev ht2, by rw [hU]; exact h4, by rw [hU]; exact Nat.le_trans hC.2.2.2.2.2.1 h6.1, e_Kx_warm hW hC.2.2.2.2.1, by
      rw [hU]
      exact e_sf_moved hW.alike (fun q hq hA => h6.2.1 q hq hA) (e_sf_F rfl hC.2.2.2.2.2.2.1)⟩
    have hrun := va_runS (e := e) (below := below) (meth := meth) (As := tc.reverse) (rest := rc) (Ts := e_ws) (own := own) (H := H) (locs := locs) (cells := c.2.1 - k0) (slots := c.2.2 - s0) (g := F0 m pc ls (tc ++ rc)) ⟨hx, hb, rfl, e_own hM ho hC, hC.2.2.2.1⟩ hM9 ⟨callB_of n hC.2.2.2.1 (e_good hcode) rfl rfl rfl (e_wd hC hini rfl) (e_wd hC hlink rfl) hdn ⟨by show F.2.1 - 1 + 1 ≤ R.frames; omega, by show 8 + (mm + 11) + (F.2.2.1 - (mm + 19)) ≤ R.locals; omega⟩, e_wd hC hstat rfl⟩ ⟨e_Pc_blind, hpre⟩ rfl (by simp [ht1, ht0]) (h1.2.choose_spec.1.1.trans (by obtain ⟨-, -, -, -, -, -, -, q9, -, -, r3, -⟩ := hC; exact r3.symm)) (by simp) (lv_room hwd) hd ⟨by omega, by omega⟩
    refine e_runW hrun h6 (fun as1 ws1 H1 locs1 xo q1 q2 q3 q4 q5 q6 => ?_)
    have hfin := hWG as1 ws1 H1 locs1 ls (xo ++ rc) ⟨e_lo_mono h1 q1, by obtain ⟨x, rfl, hx9⟩ := q6; exact ⟨hx9, e_st_mono q1 ht3⟩, q2, q3, q4, q5, List.IsPrefix.trans h7 q1⟩
    subst hnx
    rw [show c.2.1 - k0 + (c1.2.1 - c.2.1) = c1.2.1 - k0 by omega, show c.2.2 - s0 + (c1.2.2 - c.2.2) = c1.2.2 - s0 by omega]
    exact hfin
  · cases hres

theorem s_callSN {y mm n nx index : Nat} {own : String} {yn : MethodName} {yb : ByteArray} {rt : Option FieldType} (hq : (e_ml[M]?).map (·.2.1) = some cc) (ho : (e_ml[M]?).map (·.1.cls) = some own) (hy : e_ml[y]? = some (yn, yb, mm, rt)) (hplain : plainName yn.cls = true) (hcode : Jvm.Cond.code yn yb mm rt ∈ lw_tbl) (hini : Jvm.Cond.initialized yn.cls ∈ lw_tbl) (hdn : yn.cls ≠ "java/lang/invoke/MethodHandle" ∧ yn.cls ≠ "java/lang/invoke/VarHandle" ∧ (parseMethodDescriptor yn.desc).map (fun d => d.parameters.length) = some n) {host : String} (hlink : Jvm.Cond.methodLinkNest own index yn host ∈ lw_tbl) (hstat : Jvm.Cond.static yn ∈ lw_tbl) (hd : decode cc pc = .ok (.invokestatic index, 3)) (hnx : nx = pc + 3) : e_Sn M pc (o_callS y mm n nx) := by
  intro g hg F al st w c K hM h
  unfold o_callS at h
  obtain ⟨t, r, rfl, ht0, h⟩ := e_args_t h
  obtain ⟨la, z1, w1, c1, hfr, hlo, hst8, hlal, hla, hok1, hres⟩ := e_go_t hg h
  rw [List.append_nil] at hla
  rcases z1 with (_ | v) | E
  · obtain ⟨z2, w2, c2, hK2, hok2⟩ := hg _ _ _ _ _ _ _ hres
    refine ⟨z2, w2, c2, hK2, Nat.le_trans hok1.1 hok2.1, Nat.le_trans hok1.2.1 hok2.2.1, Nat.le_trans hok1.2.2.1 hok2.2.2.1, ?_⟩
    intro p l e R s m args below meth cd Q ad D tys base nL as0 k0 s0 hC hf hl hk hs hc hsl hE
    have hok1' := hok1
    obtain ⟨b1, b2, b3, -⟩ := hok1'
    have hWG := hok2.2.2.2 p l e R s m args below meth cd Q ad D tys base nL as0 k0 s0 hC hf hl (by omega) (by omega) hc hsl hE
    obtain ⟨hx, hb⟩ := e_cc hM hq hC
    have d2 := hok2.2.1
    have d3 := hok2.2.2.1
    intro as ws H locs ls ys hS
    obtain ⟨h1, h2, h3, h4, h5, h6, h7⟩ := hS
    obtain ⟨tc, rc, rfl, ht1, ht2, ht3⟩ := e_st_app h2
    have hwd : (rc.map fun v => v.category).sum ≤ 8 := by rw [e_stw_t ht3]; exact hst8
    have hM9 := e_met (ad := ad) (D := D) (tys := tys) (base := base) (as0 := as) (ws0 := ws) (l := l) hok1 hy hplain hC.1 hlal hla h3 h5
    have hpre : ∀ U : State, U.heap = H → s.WarmedH U.vm → e_Pc (y, F.2.1 - 1, F.2.2.1 - (mm + 19), F.2.2.2) ad D tys base as ws t.reverse (tc.reverse).toArray U := fun U hU hW => ⟨tc.reverse, rfl, e_st_rev ht2, by rw [hU]; exact h4, by rw [hU]; exact Nat.le_trans hC.2.2.2.2.2.1 h6.1, e_Kx_warm hW hC.2.2.2.2.1, by
      rw [hU]
      exact e_sf_moved hW.alike (fun q hq hA => h6.2.1 q hq hA) (e_sf_F rfl hC.2.2.2.2.2.2.1)⟩
    have hrun := va_runSN (e := e) (below := below) (meth := meth) (As := tc.reverse) (rest := rc) (Ts := e_ws) (own := own) (H := H) (locs := locs) (cells := c.2.1 - k0) (slots := c.2.2 - s0) (g := F0 m pc ls (tc ++ rc)) ⟨hx, hb, rfl, e_own hM ho hC, hC.2.2.2.1⟩ hM9 ⟨va_cnB n hC.2.2.2.1 (e_good hcode) rfl rfl rfl (hC.2.2.2.2.1.2.2.1 _ (List.mem_filter.mpr ⟨hlink, rfl⟩)) (e_wd hC hini rfl) hdn ⟨by show F.2.1 - 1 + 1 ≤ R.frames; omega, by show 8 + (mm + 11) + (F.2.2.1 - (mm + 19)) ≤ R.locals; omega⟩, e_wd hC hstat rfl, trivial⟩ ⟨e_Pc_blind, hpre⟩ rfl (by simp [ht1, ht0]) (h1.2.choose_spec.1.1.trans (by obtain ⟨-, -, -, -, -, -, -, q9, -, -, r3, -⟩ := hC; exact r3.symm)) (by simp) (lv_room hwd) hd ⟨by omega, by omega⟩
    refine e_runW hrun h6 (fun as1 ws1 H1 locs1 xo q1 q2 q3 q4 q5 q6 => ?_)
    have hfin := hWG as1 ws1 H1 locs1 ls (xo ++ rc) ⟨e_lo_mono h1 q1, by cases q6; exact e_st_mono q1 ht3, q2, q3, q4, q5, List.IsPrefix.trans h7 q1⟩
    subst hnx
    rw [show c.2.1 - k0 + (c1.2.1 - c.2.1) = c1.2.1 - k0 by omega, show c.2.2 - s0 + (c1.2.2 - c.2.2) = c1.2.2 - s0 by omega]
    exact hfin
  · obtain ⟨z2, w2, c2, hK2, hok2⟩ := hg _ _ _ _ _ _ _ hres
    refine ⟨z2, w2, c2, hK2, Nat.le_trans hok1.1 hok2.1, Nat.le_trans hok1.2.1 hok2.2.1, Nat.le_trans hok1.2.2.1 hok2.2.2.1, ?_⟩
    intro p l e R s m args below meth cd Q ad D tys base nL as0 k0 s0 hC hf hl hk hs hc hsl hE
    have hok1' := hok1
    obtain ⟨b1, b2, b3, -⟩ := hok1'
    have hWG := hok2.2.2.2 p l e R s m args below meth cd Q ad D tys base nL as0 k0 s0 hC hf hl (by omega) (by omega) hc hsl hE
    obtain ⟨hx, hb⟩ := e_cc hM hq hC
    have d2 := hok2.2.1
    have d3 := hok2.2.2.1
    intro as ws H locs ls ys hS
    obtain ⟨h1, h2, h3, h4, h5, h6, h7⟩ := hS
    obtain ⟨tc, rc, rfl, ht1, ht2, ht3⟩ := e_st_app h2
    have hwd : (rc.map fun v => v.category).sum ≤ 8 := by rw [e_stw_t ht3]; exact hst8
    have hM9 := e_met (ad := ad) (D := D) (tys := tys) (base := base) (as0 := as) (ws0 := ws) (l := l) hok1 hy hplain hC.1 hlal hla h3 h5
    have hpre : ∀ U : State, U.heap = H → s.WarmedH U.vm → e_Pc (y, F.2.1 - 1, F.2.2.1 - (mm + 19), F.2.2.2) ad D tys base as ws t.reverse (tc.reverse).toArray U := fun U hU hW => ⟨tc.reverse, rfl, e_st_rev ht2, by rw [hU]; exact h4, by rw [hU]; exact Nat.le_trans hC.2.2.2.2.2.1 h6.1, e_Kx_warm hW hC.2.2.2.2.1, by
      rw [hU]
      exact e_sf_moved hW.alike (fun q hq hA => h6.2.1 q hq hA) (e_sf_F rfl hC.2.2.2.2.2.2.1)⟩
    have hrun := va_runSN (e := e) (below := below) (meth := meth) (As := tc.reverse) (rest := rc) (Ts := e_ws) (own := own) (H := H) (locs := locs) (cells := c.2.1 - k0) (slots := c.2.2 - s0) (g := F0 m pc ls (tc ++ rc)) ⟨hx, hb, rfl, e_own hM ho hC, hC.2.2.2.1⟩ hM9 ⟨va_cnB n hC.2.2.2.1 (e_good hcode) rfl rfl rfl (hC.2.2.2.2.1.2.2.1 _ (List.mem_filter.mpr ⟨hlink, rfl⟩)) (e_wd hC hini rfl) hdn ⟨by show F.2.1 - 1 + 1 ≤ R.frames; omega, by show 8 + (mm + 11) + (F.2.2.1 - (mm + 19)) ≤ R.locals; omega⟩, e_wd hC hstat rfl, trivial⟩ ⟨e_Pc_blind, hpre⟩ rfl (by simp [ht1, ht0]) (h1.2.choose_spec.1.1.trans (by obtain ⟨-, -, -, -, -, -, -, q9, -, -, r3, -⟩ := hC; exact r3.symm)) (by simp) (lv_room hwd) hd ⟨by omega, by omega⟩
    refine e_runW hrun h6 (fun as1 ws1 H1 locs1 xo q1 q2 q3 q4 q5 q6 => ?_)
    have hfin := hWG as1 ws1 H1 locs1 ls (xo ++ rc) ⟨e_lo_mono h1 q1, by obtain ⟨x, rfl, hx9⟩ := q6; exact ⟨hx9, e_st_mono q1 ht3⟩, q2, q3, q4, q5, List.IsPrefix.trans h7 q1⟩
    subst hnx
    rw [show c.2.1 - k0 + (c1.2.1 - c.2.1) = c1.2.1 - k0 by omega, show c.2.2 - s0 + (c1.2.2 - c.2.2) = c1.2.2 - s0 by omega]
    exact hfin
  · cases hres

theorem s_callI {y mm n nx index : Nat} {own : String} {yn : MethodName} {yb : ByteArray} {rt : Option FieldType} (hq : (e_ml[M]?).map (·.2.1) = some cc) (ho : (e_ml[M]?).map (·.1.cls) = some own) (hy : e_ml[y]? = some (yn, yb, mm, rt)) (hplain : plainName yn.cls = true) (hcode : Jvm.Cond.code yn yb mm rt ∈ lw_tbl) (hini : Jvm.Cond.initialized yn.cls ∈ lw_tbl) (hdn : yn.cls ≠ "java/lang/invoke/MethodHandle" ∧ yn.cls ≠ "java/lang/invoke/VarHandle" ∧ (parseMethodDescriptor yn.desc).map (fun d => d.parameters.length) = some n) (hlink : Jvm.Cond.methodLink own index yn ∈ lw_tbl) (hnm : yn.name = "<init>") (hrt0 : rt = none) (hinst : Jvm.Cond.instanceMethod yn ∈ lw_tbl) (hd : decode cc pc = .ok (.invokespecial index, 3)) (hnx : nx = pc + 3) : e_Sn M pc (o_callI y mm (n + 1) nx) := by
  subst hrt0
  intro g hg F al st w c K hM h
  unfold o_callI at h
  obtain ⟨t, r, hst9, ht0, h9⟩ := e_args_t h
  clear h
  have h := h9
  clear h9
  subst hst9
  rw [List.append_nil] at h
  split at h
  · next q t0 htr =>
    obtain ⟨la, z1, w1, c1, hfr, hlo, hst8, hlal, hla, hok1, hres⟩ := e_go_t hg h
    rcases z1 with (_ | v) | E
    · obtain ⟨z2, w2, c2, hK2, hok2⟩ := hg _ _ _ _ _ _ _ hres
      refine ⟨z2, w2, c2, hK2, Nat.le_trans hok1.1 hok2.1, Nat.le_trans hok1.2.1 hok2.2.1, Nat.le_trans hok1.2.2.1 hok2.2.2.1, ?_⟩
      intro p l e R s m args below meth cd Q ad D tys base nL as0 k0 s0 hC hf hl hk hs hc hsl hE
      have hok1' := hok1
      obtain ⟨b1, b2, b3, -⟩ := hok1'
      have hWG := hok2.2.2.2 p l e R s m args below meth cd Q ad D tys base nL as0 k0 s0 hC hf hl (by omega) (by omega) hc hsl hE
      obtain ⟨hx, hb⟩ := e_cc hM hq hC
      have d2 := hok2.2.1
      have d3 := hok2.2.2.1
      intro as ws H locs ls ys hS
      obtain ⟨h1, h2, h3, h4, h5, h6, h7⟩ := hS
      obtain ⟨tc, rc, rfl, ht1, ht2, ht3⟩ := e_st_app h2
      have hrv := e_st_rev ht2
      rw [htr] at hrv
      obtain ⟨x0, tc0, htc0, hrel0, hst0⟩ := e_st_cons hrv
      obtain ⟨b0, hb0, rfl⟩ := e_ref hrel0
      have htc : tc = tc0.reverse ++ [.ref b0] := by rw [← List.reverse_reverse tc, htc0, List.reverse_cons]
      have hlen0 : tc0.length = n := by
        have e1 := congrArg List.length htc
        simp [ht1, ht0] at e1
        omega
      have hwd : (rc.map fun v => v.category).sum ≤ 8 := by rw [e_stw_t ht3]; exact hst8
      have hM9 := e_met (ad := ad) (D := D) (tys := tys) (base := base) (as0 := as) (ws0 := ws) (l := l) hok1 hy hplain hC.1 hlal hla h3 h5
      have hpre : ∀ U : State, U.heap = H → s.WarmedH U.vm → e_Pc (y, F.2.1 - 1, F.2.2.1 - (mm + 19), F.2.2.2) ad D tys base as ws (Sum.inr (Sum.inl (some q)) :: t0) (Value.ref b0 :: tc0).toArray U := fun U hU hW => ⟨Value.ref b0 :: tc0, rfl, ⟨hrel0, hst0⟩, by rw [hU]; exact h4, by rw [hU]; exact Nat.le_trans hC.2.2.2.2.2.1 h6.1, e_Kx_warm hW hC.2.2.2.2.1, by
        rw [hU]
        exact e_sf_moved hW.alike (fun q hq hA => h6.2.1 q hq hA) (e_sf_F rfl hC.2.2.2.2.2.2.1)⟩
      rw [htr] at hM9
      have hrun := va_runI (e := e) (below := below) (meth := meth) (As := tc0) (b := b0) (rest := rc) (Ts := e_ws) (own := own) (H := H) (locs := locs) (cells := c.2.1 - k0) (slots := c.2.2 - s0) (g := F0 m pc ls (tc ++ rc)) ⟨hx, hb, rfl, e_own hM ho hC, hC.2.2.2.1⟩ hM9 ⟨callB_of n hC.2.2.2.1 (e_good hcode) rfl rfl rfl (e_wd hC hini rfl) (e_wd hC hlink rfl) hdn ⟨by show F.2.1 - 1 + 1 ≤ R.frames; omega, by show 8 + (mm + 11) + (F.2.2.1 - (mm + 19)) ≤ R.locals; omega⟩, hnm, e_wd hC hinst rfl⟩ ⟨e_Pc_blind, hpre⟩ rfl hlen0 (h1.2.choose_spec.1.1.trans (by obtain ⟨-, -, -, -, -, -, -, q9, -, -, r3, -⟩ := hC; exact r3.symm)) (by rw [htc]; simp) (lv_room hwd) hd ⟨by omega, by omega⟩
      refine e_runW hrun h6 (fun as1 ws1 H1 locs1 xo q1 q2 q3 q4 q5 q6 => ?_)
      have hfin := hWG as1 ws1 H1 locs1 ls (xo ++ rc) ⟨e_lo_mono h1 q1, by cases q6; exact e_st_mono q1 ht3, q2, q3, q4, q5, List.IsPrefix.trans h7 q1⟩
      subst hnx
      rw [show c.2.1 - k0 + (c1.2.1 - c.2.1) = c1.2.1 - k0 by omega, show c.2.2 - s0 + (c1.2.2 - c.2.2) = c1.2.2 - s0 by omega]
      exact hfin
    · obtain ⟨z2, w2, c2, hK2, hok2⟩ := hg _ _ _ _ _ _ _ hres
      refine ⟨z2, w2, c2, hK2, Nat.le_trans hok1.1 hok2.1, Nat.le_trans hok1.2.1 hok2.2.1, Nat.le_trans hok1.2.2.1 hok2.2.2.1, ?_⟩
      intro p l e R s m args below meth cd Q ad D tys base nL as0 k0 s0 hC hf hl hk hs hc hsl hE
      have hok1' := hok1
      obtain ⟨b1, b2, b3, -⟩ := hok1'
      have hWG := hok2.2.2.2 p l e R s m args below meth cd Q ad D tys base nL as0 k0 s0 hC hf hl (by omega) (by omega) hc hsl hE
      obtain ⟨hx, hb⟩ := e_cc hM hq hC
      have d2 := hok2.2.1
      have d3 := hok2.2.2.1
      intro as ws H locs ls ys hS
      obtain ⟨h1, h2, h3, h4, h5, h6, h7⟩ := hS
      obtain ⟨tc, rc, rfl, ht1, ht2, ht3⟩ := e_st_app h2
      have hrv := e_st_rev ht2
      rw [htr] at hrv
      obtain ⟨x0, tc0, htc0, hrel0, hst0⟩ := e_st_cons hrv
      obtain ⟨b0, hb0, rfl⟩ := e_ref hrel0
      have htc : tc = tc0.reverse ++ [.ref b0] := by rw [← List.reverse_reverse tc, htc0, List.reverse_cons]
      have hlen0 : tc0.length = n := by
        have e1 := congrArg List.length htc
        simp [ht1, ht0] at e1
        omega
      have hwd : (rc.map fun v => v.category).sum ≤ 8 := by rw [e_stw_t ht3]; exact hst8
      have hM9 := e_met (ad := ad) (D := D) (tys := tys) (base := base) (as0 := as) (ws0 := ws) (l := l) hok1 hy hplain hC.1 hlal hla h3 h5
      have hpre : ∀ U : State, U.heap = H → s.WarmedH U.vm → e_Pc (y, F.2.1 - 1, F.2.2.1 - (mm + 19), F.2.2.2) ad D tys base as ws (Sum.inr (Sum.inl (some q)) :: t0) (Value.ref b0 :: tc0).toArray U := fun U hU hW => ⟨Value.ref b0 :: tc0, rfl, ⟨hrel0, hst0⟩, by rw [hU]; exact h4, by rw [hU]; exact Nat.le_trans hC.2.2.2.2.2.1 h6.1, e_Kx_warm hW hC.2.2.2.2.1, by
        rw [hU]
        exact e_sf_moved hW.alike (fun q hq hA => h6.2.1 q hq hA) (e_sf_F rfl hC.2.2.2.2.2.2.1)⟩
      rw [htr] at hM9
      have hrun := va_runI (e := e) (below := below) (meth := meth) (As := tc0) (b := b0) (rest := rc) (Ts := e_ws) (own := own) (H := H) (locs := locs) (cells := c.2.1 - k0) (slots := c.2.2 - s0) (g := F0 m pc ls (tc ++ rc)) ⟨hx, hb, rfl, e_own hM ho hC, hC.2.2.2.1⟩ hM9 ⟨callB_of n hC.2.2.2.1 (e_good hcode) rfl rfl rfl (e_wd hC hini rfl) (e_wd hC hlink rfl) hdn ⟨by show F.2.1 - 1 + 1 ≤ R.frames; omega, by show 8 + (mm + 11) + (F.2.2.1 - (mm + 19)) ≤ R.locals; omega⟩, hnm, e_wd hC hinst rfl⟩ ⟨e_Pc_blind, hpre⟩ rfl hlen0 (h1.2.choose_spec.1.1.trans (by obtain ⟨-, -, -, -, -, -, -, q9, -, -, r3, -⟩ := hC; exact r3.symm)) (by rw [htc]; simp) (lv_room hwd) hd ⟨by omega, by omega⟩
      refine e_runW hrun h6 (fun as1 ws1 H1 locs1 xo q1 q2 q3 q4 q5 q6 => ?_)
      have hfin := hWG as1 ws1 H1 locs1 ls (xo ++ rc) ⟨e_lo_mono h1 q1, by obtain ⟨x, rfl, hx9⟩ := q6; exact ⟨hx9, e_st_mono q1 ht3⟩, q2, q3, q4, q5, List.IsPrefix.trans h7 q1⟩
      subst hnx
      rw [show c.2.1 - k0 + (c1.2.1 - c.2.1) = c1.2.1 - k0 by omega, show c.2.2 - s0 + (c1.2.2 - c.2.2) = c1.2.2 - s0 by omega]
      exact hfin
    · cases hres
  · cases h

theorem s_callIN {y mm n nx index : Nat} {own : String} {yn : MethodName} {yb : ByteArray} {rt : Option FieldType} (hq : (e_ml[M]?).map (·.2.1) = some cc) (ho : (e_ml[M]?).map (·.1.cls) = some own) (hy : e_ml[y]? = some (yn, yb, mm, rt)) (hplain : plainName yn.cls = true) (hcode : Jvm.Cond.code yn yb mm rt ∈ lw_tbl) (hini : Jvm.Cond.initialized yn.cls ∈ lw_tbl) (hdn : yn.cls ≠ "java/lang/invoke/MethodHandle" ∧ yn.cls ≠ "java/lang/invoke/VarHandle" ∧ (parseMethodDescriptor yn.desc).map (fun d => d.parameters.length) = some n) {host : String} (hlink : Jvm.Cond.methodLinkNest own index yn host ∈ lw_tbl) (hnm : yn.name = "<init>") (hrt0 : rt = none) (hinst : Jvm.Cond.instanceMethod yn ∈ lw_tbl) (hd : decode cc pc = .ok (.invokespecial index, 3)) (hnx : nx = pc + 3) : e_Sn M pc (o_callI y mm (n + 1) nx) := by
  subst hrt0
  intro g hg F al st w c K hM h
  unfold o_callI at h
  obtain ⟨t, r, hst9, ht0, h9⟩ := e_args_t h
  clear h
  have h := h9
  clear h9
  subst hst9
  rw [List.append_nil] at h
  split at h
  · next q t0 htr =>
    obtain ⟨la, z1, w1, c1, hfr, hlo, hst8, hlal, hla, hok1, hres⟩ := e_go_t hg h
    rcases z1 with (_ | v) | E
    · obtain ⟨z2, w2, c2, hK2, hok2⟩ := hg _ _ _ _ _ _ _ hres
      refine ⟨z2, w2, c2, hK2, Nat.le_trans hok1.1 hok2.1, Nat.le_trans hok1.2.1 hok2.2.1, Nat.le_trans hok1.2.2.1 hok2.2.2.1, ?_⟩
      intro p l e R s m args below meth cd Q ad D tys base nL as0 k0 s0 hC hf hl hk hs hc hsl hE
      have hok1' := hok1
      obtain ⟨b1, b2, b3, -⟩ := hok1'
      have hWG := hok2.2.2.2 p l e R s m args below meth cd Q ad D tys base nL as0 k0 s0 hC hf hl (by omega) (by omega) hc hsl hE
      obtain ⟨hx, hb⟩ := e_cc hM hq hC
      have d2 := hok2.2.1
      have d3 := hok2.2.2.1
      intro as ws H locs ls ys hS
      obtain ⟨h1, h2, h3, h4, h5, h6, h7⟩ := hS
      obtain ⟨tc, rc, rfl, ht1, ht2, ht3⟩ := e_st_app h2
      have hrv := e_st_rev ht2
      rw [htr] at hrv
      obtain ⟨x0, tc0, htc0, hrel0, hst0⟩ := e_st_cons hrv
      obtain ⟨b0, hb0, rfl⟩ := e_ref hrel0
      have htc : tc = tc0.reverse ++ [.ref b0] := by rw [← List.reverse_reverse tc, htc0, List.reverse_cons]
      have hlen0 : tc0.length = n := by
        have e1 := congrArg List.length htc
        simp [ht1, ht0] at e1
        omega
      have hwd : (rc.map fun v => v.category).sum ≤ 8 := by rw [e_stw_t ht3]; exact hst8
      have hM9 := e_met (ad := ad) (D := D) (tys := tys) (base := base) (as0 := as) (ws0 := ws) (l := l) hok1 hy hplain hC.1 hlal hla h3 h5
      have hpre : ∀ U : State, U.heap = H → s.WarmedH U.vm → e_Pc (y, F.2.1 - 1, F.2.2.1 - (mm + 19), F.2.2.2) ad D tys base as ws (Sum.inr (Sum.inl (some q)) :: t0) (Value.ref b0 :: tc0).toArray U := fun U hU hW => ⟨Value.ref b0 :: tc0, rfl, ⟨hrel0, hst0⟩, by rw [hU]; exact h4, by rw [hU]; exact Nat.le_trans hC.2.2.2.2.2.1 h6.1, e_Kx_warm hW hC.2.2.2.2.1, by
        rw [hU]
        exact e_sf_moved hW.alike (fun q hq hA => h6.2.1 q hq hA) (e_sf_F rfl hC.2.2.2.2.2.2.1)⟩
      rw [htr] at hM9
      have hrun := va_runIN (e := e) (below := below) (meth := meth) (As := tc0) (b := b0) (rest := rc) (Ts := e_ws) (own := own) (H := H) (locs := locs) (cells := c.2.1 - k0) (slots := c.2.2 - s0) (g := F0 m pc ls (tc ++ rc)) ⟨hx, hb, rfl, e_own hM ho hC, hC.2.2.2.1⟩ hM9 ⟨va_cnB n hC.2.2.2.1 (e_good hcode) rfl rfl rfl (hC.2.2.2.2.1.2.2.1 _ (List.mem_filter.mpr ⟨hlink, rfl⟩)) (e_wd hC hini rfl) hdn ⟨by show F.2.1 - 1 + 1 ≤ R.frames; omega, by show 8 + (mm + 11) + (F.2.2.1 - (mm + 19)) ≤ R.locals; omega⟩, hnm, e_wd hC hinst rfl⟩ ⟨e_Pc_blind, hpre⟩ rfl hlen0 (h1.2.choose_spec.1.1.trans (by obtain ⟨-, -, -, -, -, -, -, q9, -, -, r3, -⟩ := hC; exact r3.symm)) (by rw [htc]; simp) (lv_room hwd) hd ⟨by omega, by omega⟩
      refine e_runW hrun h6 (fun as1 ws1 H1 locs1 xo q1 q2 q3 q4 q5 q6 => ?_)
      have hfin := hWG as1 ws1 H1 locs1 ls (xo ++ rc) ⟨e_lo_mono h1 q1, by cases q6; exact e_st_mono q1 ht3, q2, q3, q4, q5, List.IsPrefix.trans h7 q1⟩
      subst hnx
      rw [show c.2.1 - k0 + (c1.2.1 - c.2.1) = c1.2.1 - k0 by omega, show c.2.2 - s0 + (c1.2.2 - c.2.2) = c1.2.2 - s0 by omega]
      exact hfin
    · obtain ⟨z2, w2, c2, hK2, hok2⟩ := hg _ _ _ _ _ _ _ hres
      refine ⟨z2, w2, c2, hK2, Nat.le_trans hok1.1 hok2.1, Nat.le_trans hok1.2.1 hok2.2.1, Nat.le_trans hok1.2.2.1 hok2.2.2.1, ?_⟩
      intro p l e R s m args below meth cd Q ad D tys base nL as0 k0 s0 hC hf hl hk hs hc hsl hE
      have hok1' := hok1
      obtain ⟨b1, b2, b3, -⟩ := hok1'
      have hWG := hok2.2.2.2 p l e R s m args below meth cd Q ad D tys base nL as0 k0 s0 hC hf hl (by omega) (by omega) hc hsl hE
      obtain ⟨hx, hb⟩ := e_cc hM hq hC
      have d2 := hok2.2.1
      have d3 := hok2.2.2.1
      intro as ws H locs ls ys hS
      obtain ⟨h1, h2, h3, h4, h5, h6, h7⟩ := hS
      obtain ⟨tc, rc, rfl, ht1, ht2, ht3⟩ := e_st_app h2
      have hrv := e_st_rev ht2
      rw [htr] at hrv
      obtain ⟨x0, tc0, htc0, hrel0, hst0⟩ := e_st_cons hrv
      obtain ⟨b0, hb0, rfl⟩ := e_ref hrel0
      have htc : tc = tc0.reverse ++ [.ref b0] := by rw [← List.reverse_reverse tc, htc0, List.reverse_cons]
      have hlen0 : tc0.length = n := by
        have e1 := congrArg List.length htc
        simp [ht1, ht0] at e1
        omega
      have hwd : (rc.map fun v => v.category).sum ≤ 8 := by rw [e_stw_t ht3]; exact hst8
      have hM9 := e_met (ad := ad) (D := D) (tys := tys) (base := base) (as0 := as) (ws0 := ws) (l := l) hok1 hy hplain hC.1 hlal hla h3 h5
      have hpre : ∀ U : State, U.heap = H → s.WarmedH U.vm → e_Pc (y, F.2.1 - 1, F.2.2.1 - (mm + 19), F.2.2.2) ad D tys base as ws (Sum.inr (Sum.inl (some q)) :: t0) (Value.ref b0 :: tc0).toArray U := fun U hU hW => ⟨Value.ref b0 :: tc0, rfl, ⟨hrel0, hst0⟩, by rw [hU]; exact h4, by rw [hU]; exact Nat.le_trans hC.2.2.2.2.2.1 h6.1, e_Kx_warm hW hC.2.2.2.2.1, by
        rw [hU]
        exact e_sf_moved hW.alike (fun q hq hA => h6.2.1 q hq hA) (e_sf_F rfl hC.2.2.2.2.2.2.1)⟩
      rw [htr] at hM9
      have hrun := va_runIN (e := e) (below := below) (meth := meth) (As := tc0) (b := b0) (rest := rc) (Ts := e_ws) (own := own) (H := H) (locs := locs) (cells := c.2.1 - k0) (slots := c.2.2 - s0) (g := F0 m pc ls (tc ++ rc)) ⟨hx, hb, rfl, e_own hM ho hC, hC.2.2.2.1⟩ hM9 ⟨va_cnB n hC.2.2.2.1 (e_good hcode) rfl rfl rfl (hC.2.2.2.2.1.2.2.1 _ (List.mem_filter.mpr ⟨hlink, rfl⟩)) (e_wd hC hini rfl) hdn ⟨by show F.2.1 - 1 + 1 ≤ R.frames; omega, by show 8 + (mm + 11) + (F.2.2.1 - (mm + 19)) ≤ R.locals; omega⟩, hnm, e_wd hC hinst rfl⟩ ⟨e_Pc_blind, hpre⟩ rfl hlen0 (h1.2.choose_spec.1.1.trans (by obtain ⟨-, -, -, -, -, -, -, q9, -, -, r3, -⟩ := hC; exact r3.symm)) (by rw [htc]; simp) (lv_room hwd) hd ⟨by omega, by omega⟩
      refine e_runW hrun h6 (fun as1 ws1 H1 locs1 xo q1 q2 q3 q4 q5 q6 => ?_)
      have hfin := hWG as1 ws1 H1 locs1 ls (xo ++ rc) ⟨e_lo_mono h1 q1, by obtain ⟨x, rfl, hx9⟩ := q6; exact ⟨hx9, e_st_mono q1 ht3⟩, q2, q3, q4, q5, List.IsPrefix.trans h7 q1⟩
      subst hnx
      rw [show c.2.1 - k0 + (c1.2.1 - c.2.1) = c1.2.1 - k0 by omega, show c.2.2 - s0 + (c1.2.2 - c.2.2) = c1.2.2 - s0 by omega]
      exact hfin
    · cases hres
  · cases h

theorem e_recv {p : Program} {l : Launch} {F : e_F} {s : State} {m : MethodId} {args : Array Value} {meth : Method} {cd : Code} {ad : Nat → Nat} {D : va_G} {tys : List (ClassId × FieldType)} {base nL : Nat} (hC : e_Cx F p l s m args meth cd ad D tys base nL) {as : List Nat} {w : e_W} {n q b ci N : Nat} {fs : List e_V} {ws : va_W} {H : Heap} {C : String} {T : u_T} (h3 : e_wk ad as tys w n ws) (h4 : va_P D e_cl ws H) (hb : as[q]? = some b) (hc : e_tget 9 w q = .inl (ci, fs)) (hcl : e_cl[ci]? = some (C, T, N)) : ∃ cell : Cell, H[b]? = some cell ∧ cell.vm.isStatics = false ∧ s.vm.findClass C = some cell.cls := by
  obtain ⟨e', he, hent⟩ := e_wk_at h3 hb
  rw [hc] at hent
  cases e' with
  | inl z => exact hent.elim
  | inr o9 =>
    obtain ⟨cj2, vs⟩ := o9
    obtain ⟨rfl, -, -⟩ := hent
    exact va_recv hC.2.2.2.2.1.1 h4 hcl he
theorem s_callV {y mm n nx index ci N : Nat} {own C : String} {T : u_T} {yn : MethodName} {yb : ByteArray} {rt : Option FieldType} (hq : (e_ml[M]?).map (·.2.1) = some cc) (ho : (e_ml[M]?).map (·.1.cls) = some own) (hy : e_ml[y]? = some (yn, yb, mm, rt)) (hplain : plainName yn.cls = true) (hcode : Jvm.Cond.code yn yb mm rt ∈ lw_tbl) (hini : Jvm.Cond.initialized yn.cls ∈ lw_tbl) (hdn : yn.cls ≠ "java/lang/invoke/MethodHandle" ∧ yn.cls ≠ "java/lang/invoke/VarHandle" ∧ (parseMethodDescriptor yn.desc).map (fun d => d.parameters.length) = some n) (hlink : Jvm.Cond.methodLink own index yn ∈ lw_tbl) (hinst : Jvm.Cond.instanceMethod yn ∈ lw_tbl) (hsel : Jvm.Cond.selects C yn yn ∈ lw_tbl) (hcl : e_cl[ci]? = some (C, T, N)) (hd : decode cc pc = .ok (.invokevirtual index, 3)) (hnx : nx = pc + 3) : e_Sn M pc (o_callV (e_s1 ci y mm) (n + 1) nx) := by
  intro g hg F al st w c K hM h
  unfold o_callV o_callX at h
  obtain ⟨t, r, hst9, ht0, h9⟩ := e_args_t h
  clear h
  have h := h9
  clear h9
  subst hst9
  rw [List.append_nil] at h
  split at h
  · next q t0 htr =>
    split at h
    · next cj fs9 hc9 =>
      split at h
      · next y9 m9 hs9 =>
        have e1 : cj = ci ∧ y9 = y ∧ m9 = mm := by
          unfold e_s1 at hs9
          cases hb9 : Nat.beq cj ci with
          | false => rw [hb9, cond_false] at hs9; cases hs9
          | true => rw [hb9, cond_true] at hs9; cases hs9; exact ⟨Nat.eq_of_beq_eq_true hb9, rfl, rfl⟩
        obtain ⟨e1a, e1b, e1c⟩ := e1
        replace e1b := e1b.symm
        replace e1c := e1c.symm
        subst e1a e1b e1c
        obtain ⟨la, z1, w1, c1, hfr, hlo, hst8, hlal, hla, hok1, hres⟩ := e_go_t hg h
        rcases z1 with (_ | v) | E
        · obtain ⟨z2, w2, c2, hK2, hok2⟩ := hg _ _ _ _ _ _ _ hres
          refine ⟨z2, w2, c2, hK2, Nat.le_trans hok1.1 hok2.1, Nat.le_trans hok1.2.1 hok2.2.1, Nat.le_trans hok1.2.2.1 hok2.2.2.1, ?_⟩
          intro p l e R s m args below meth cd Q ad D tys base nL as0 k0 s0 hC hf hl hk hs hc hsl hE
          have hok1' := hok1
          obtain ⟨b1, b2, b3, -⟩ := hok1'
          have hWG := hok2.2.2.2 p l e R s m args below meth cd Q ad D tys base nL as0 k0 s0 hC hf hl (by omega) (by omega) hc hsl hE
          obtain ⟨hx, hb⟩ := e_cc hM hq hC
          have d2 := hok2.2.1
          have d3 := hok2.2.2.1
          intro as ws H locs ls ys hS
          obtain ⟨h1, h2, h3, h4, h5, h6, h7⟩ := hS
          obtain ⟨tc, rc, rfl, ht1, ht2, ht3⟩ := e_st_app h2
          have hrv := e_st_rev ht2
          rw [htr] at hrv
          obtain ⟨x0, tc0, htc0, hrel0, hst0⟩ := e_st_cons hrv
          obtain ⟨b0, hb0, rfl⟩ := e_ref hrel0
          have htc : tc = tc0.reverse ++ [.ref b0] := by rw [← List.reverse_reverse tc, htc0, List.reverse_cons]
          have hlen0 : tc0.length = n := by
            have e1 := congrArg List.length htc
            simp [ht1, ht0] at e1
            omega
          have hwd : (rc.map fun v => v.category).sum ≤ 8 := by rw [e_stw_t ht3]; exact hst8
          have hM9 := e_met (ad := ad) (D := D) (tys := tys) (base := base) (as0 := as) (ws0 := ws) (l := l) hok1 hy hplain hC.1 hlal hla h3 h5
          have hpre : ∀ U : State, U.heap = H → s.WarmedH U.vm → e_Pc (y, F.2.1 - 1, F.2.2.1 - (mm + 19), F.2.2.2) ad D tys base as ws (Sum.inr (Sum.inl (some q)) :: t0) (Value.ref b0 :: tc0).toArray U := fun U hU hW => ⟨Value.ref b0 :: tc0, rfl, ⟨hrel0, hst0⟩, by rw [hU]; exact h4, by rw [hU]; exact Nat.le_trans hC.2.2.2.2.2.1 h6.1, e_Kx_warm hW hC.2.2.2.2.1, by
            rw [hU]
            exact e_sf_moved hW.alike (fun q hq hA => h6.2.1 q hq hA) (e_sf_F rfl hC.2.2.2.2.2.2.1)⟩
          rw [htr] at hM9
          have hrun := va_runV (e := e) (below := below) (meth := meth) (C := C) (As := tc0) (b := b0) (rest := rc) (Ts := e_ws) (own := own) (H := H) (locs := locs) (cells := c.2.1 - k0) (slots := c.2.2 - s0) (g := F0 m pc ls (tc ++ rc)) ⟨hx, hb, rfl, e_own hM ho hC, hC.2.2.2.1⟩ hM9 ⟨callB_of n hC.2.2.2.1 (e_good hcode) rfl rfl rfl (e_wd hC hini rfl) (e_wd hC hlink rfl) hdn ⟨by show F.2.1 - 1 + 1 ≤ R.frames; omega, by show 8 + (mm + 11) + (F.2.2.1 - (mm + 19)) ≤ R.locals; omega⟩, e_wd hC hinst rfl, e_wd hC hsel rfl⟩ ⟨e_Pc_blind, e_recv hC h3 h4 hb0 hc9 hcl, hpre⟩ rfl hlen0 (h1.2.choose_spec.1.1.trans (by obtain ⟨-, -, -, -, -, -, -, q9, -, -, r3, -⟩ := hC; exact r3.symm)) (by rw [htc]; simp) (lv_room hwd) hd ⟨by omega, by omega⟩
          refine e_runW hrun h6 (fun as1 ws1 H1 locs1 xo q1 q2 q3 q4 q5 q6 => ?_)
          have hfin := hWG as1 ws1 H1 locs1 ls (xo ++ rc) ⟨e_lo_mono h1 q1, by cases q6; exact e_st_mono q1 ht3, q2, q3, q4, q5, List.IsPrefix.trans h7 q1⟩
          subst hnx
          rw [show c.2.1 - k0 + (c1.2.1 - c.2.1) = c1.2.1 - k0 by omega, show c.2.2 - s0 + (c1.2.2 - c.2.2) = c1.2.2 - s0 by omega]
          exact hfin
        · obtain ⟨z2, w2, c2, hK2, hok2⟩ := hg _ _ _ _ _ _ _ hres
          refine ⟨z2, w2, c2, hK2, Nat.le_trans hok1.1 hok2.1, Nat.le_trans hok1.2.1 hok2.2.1, Nat.le_trans hok1.2.2.1 hok2.2.2.1, ?_⟩
          intro p l e R s m args below meth cd Q ad D tys base nL as0 k0 s0 hC hf hl hk hs hc hsl hE
          have hok1' := hok1
          obtain ⟨b1, b2, b3, -⟩ := hok1'
          have hWG := hok2.2.2.2 p l e R s m args below meth cd Q ad D tys base nL as0 k0 s0 hC hf hl (by omega) (by omega) hc hsl hE
          obtain ⟨hx, hb⟩ := e_cc hM hq hC
          have d2 := hok2.2.1
          have d3 := hok2.2.2.1
          intro as ws H locs ls ys hS
          obtain ⟨h1, h2, h3, h4, h5, h6, h7⟩ := hS
          obtain ⟨tc, rc, rfl, ht1, ht2, ht3⟩ := e_st_app h2
          have hrv := e_st_rev ht2
          rw [htr] at hrv
          obtain ⟨x0, tc0, htc0, hrel0, hst0⟩ := e_st_cons hrv
          obtain ⟨b0, hb0, rfl⟩ := e_ref hrel0
          have htc : tc = tc0.reverse ++ [.ref b0] := by rw [← List.reverse_reverse tc, htc0, List.reverse_cons]
          have hlen0 : tc0.length = n := by
            have e1 := congrArg List.length htc
            simp [ht1, ht0] at e1
            omega
          have hwd : (rc.map fun v => v.category).sum ≤ 8 := by rw [e_stw_t ht3]; exact hst8
          have hM9 := e_met (ad := ad) (D := D) (tys := tys) (base := base) (as0 := as) (ws0 := ws) (l := l) hok1 hy hplain hC.1 hlal hla h3 h5
          have hpre : ∀ U : State, U.heap = H → s.WarmedH U.vm → e_Pc (y, F.2.1 - 1, F.2.2.1 - (mm + 19), F.2.2.2) ad D tys base as ws (Sum.inr (Sum.inl (some q)) :: t0) (Value.ref b0 :: tc0).toArray U := fun U hU hW => ⟨Value.ref b0 :: tc0, rfl, ⟨hrel0, hst0⟩, by rw [hU]; exact h4, by rw [hU]; exact Nat.le_trans hC.2.2.2.2.2.1 h6.1, e_Kx_warm hW hC.2.2.2.2.1, by
            rw [hU]
            exact e_sf_moved hW.alike (fun q hq hA => h6.2.1 q hq hA) (e_sf_F rfl hC.2.2.2.2.2.2.1)⟩
          rw [htr] at hM9
          have hrun := va_runV (e := e) (below := below) (meth := meth) (C := C) (As := tc0) (b := b0) (rest := rc) (Ts := e_ws) (own := own) (H := H) (locs := locs) (cells := c.2.1 - k0) (slots := c.2.2 - s0) (g := F0 m pc ls (tc ++ rc)) ⟨hx, hb, rfl, e_own hM ho hC, hC.2.2.2.1⟩ hM9 ⟨callB_of n hC.2.2.2.1 (e_good hcode) rfl rfl rfl (e_wd hC hini rfl) (e_wd hC hlink rfl) hdn ⟨by show F.2.1 - 1 + 1 ≤ R.frames; omega, by show 8 + (mm + 11) + (F.2.2.1 - (mm + 19)) ≤ R.locals; omega⟩, e_wd hC hinst rfl, e_wd hC hsel rfl⟩ ⟨e_Pc_blind, e_recv hC h3 h4 hb0 hc9 hcl, hpre⟩ rfl hlen0 (h1.2.choose_spec.1.1.trans (by obtain ⟨-, -, -, -, -, -, -, q9, -, -, r3, -⟩ := hC; exact r3.symm)) (by rw [htc]; simp) (lv_room hwd) hd ⟨by omega, by omega⟩
          refine e_runW hrun h6 (fun as1 ws1 H1 locs1 xo q1 q2 q3 q4 q5 q6 => ?_)
          have hfin := hWG as1 ws1 H1 locs1 ls (xo ++ rc) ⟨e_lo_mono h1 q1, by obtain ⟨x, rfl, hx9⟩ := q6; exact ⟨hx9, e_st_mono q1 ht3⟩, q2, q3, q4, q5, List.IsPrefix.trans h7 q1⟩
          subst hnx
          rw [show c.2.1 - k0 + (c1.2.1 - c.2.1) = c1.2.1 - k0 by omega, show c.2.2 - s0 + (c1.2.2 - c.2.2) = c1.2.2 - s0 by omega]
          exact hfin
        · cases hres
      · cases h
    · cases h
  · cases h

theorem s_callVN {y mm n nx index ci N : Nat} {own C : String} {T : u_T} {yn : MethodName} {yb : ByteArray} {rt : Option FieldType} (hq : (e_ml[M]?).map (·.2.1) = some cc) (ho : (e_ml[M]?).map (·.1.cls) = some own) (hy : e_ml[y]? = some (yn, yb, mm, rt)) (hplain : plainName yn.cls = true) (hcode : Jvm.Cond.code yn yb mm rt ∈ lw_tbl) (hini : Jvm.Cond.initialized yn.cls ∈ lw_tbl) (hdn : yn.cls ≠ "java/lang/invoke/MethodHandle" ∧ yn.cls ≠ "java/lang/invoke/VarHandle" ∧ (parseMethodDescriptor yn.desc).map (fun d => d.parameters.length) = some n) {host : String} (hlink : Jvm.Cond.methodLinkNest own index yn host ∈ lw_tbl) (hinst : Jvm.Cond.instanceMethod yn ∈ lw_tbl) (hsel : Jvm.Cond.selects C yn yn ∈ lw_tbl) (hcl : e_cl[ci]? = some (C, T, N)) (hd : decode cc pc = .ok (.invokevirtual index, 3)) (hnx : nx = pc + 3) : e_Sn M pc (o_callV (e_s1 ci y mm) (n + 1) nx) := by
  intro g hg F al st w c K hM h
  unfold o_callV o_callX at h
  obtain ⟨t, r, hst9, ht0, h9⟩ := e_args_t h
  clear h
  have h := h9
  clear h9
  subst hst9
  rw [List.append_nil] at h
  split at h
  · next q t0 htr =>
    split at h
    · next cj fs9 hc9 =>
      split at h
      · next y9 m9 hs9 =>
        have e1 : cj = ci ∧ y9 = y ∧ m9 = mm := by
          unfold e_s1 at hs9
          cases hb9 : Nat.beq cj ci with
          | false => rw [hb9, cond_false] at hs9; cases hs9
          | true => rw [hb9, cond_true] at hs9; cases hs9; exact ⟨Nat.eq_of_beq_eq_true hb9, rfl, rfl⟩
        obtain ⟨e1a, e1b, e1c⟩ := e1
        replace e1b := e1b.symm
        replace e1c := e1c.symm
        subst e1a e1b e1c
        obtain ⟨la, z1, w1, c1, hfr, hlo, hst8, hlal, hla, hok1, hres⟩ := e_go_t hg h
        rcases z1 with (_ | v) | E
        · obtain ⟨z2, w2, c2, hK2, hok2⟩ := hg _ _ _ _ _ _ _ hres
          refine ⟨z2, w2, c2, hK2, Nat.le_trans hok1.1 hok2.1, Nat.le_trans hok1.2.1 hok2.2.1, Nat.le_trans hok1.2.2.1 hok2.2.2.1, ?_⟩
          intro p l e R s m args below meth cd Q ad D tys base nL as0 k0 s0 hC hf hl hk hs hc hsl hE
          have hok1' := hok1
          obtain ⟨b1, b2, b3, -⟩ := hok1'
          have hWG := hok2.2.2.2 p l e R s m args below meth cd Q ad D tys base nL as0 k0 s0 hC hf hl (by omega) (by omega) hc hsl hE
          obtain ⟨hx, hb⟩ := e_cc hM hq hC
          have d2 := hok2.2.1
          have d3 := hok2.2.2.1
          intro as ws H locs ls ys hS
          obtain ⟨h1, h2, h3, h4, h5, h6, h7⟩ := hS
          obtain ⟨tc, rc, rfl, ht1, ht2, ht3⟩ := e_st_app h2
          have hrv := e_st_rev ht2
          rw [htr] at hrv
          obtain ⟨x0, tc0, htc0, hrel0, hst0⟩ := e_st_cons hrv
          obtain ⟨b0, hb0, rfl⟩ := e_ref hrel0
          have htc : tc = tc0.reverse ++ [.ref b0] := by rw [← List.reverse_reverse tc, htc0, List.reverse_cons]
          have hlen0 : tc0.length = n := by
            have e1 := congrArg List.length htc
            simp [ht1, ht0] at e1
            omega
          have hwd : (rc.map fun v => v.category).sum ≤ 8 := by rw [e_stw_t ht3]; exact hst8
          have hM9 := e_met (ad := ad) (D := D) (tys := tys) (base := base) (as0 := as) (ws0 := ws) (l := l) hok1 hy hplain hC.1 hlal hla h3 h5
          have hpre : ∀ U : State, U.heap = H → s.WarmedH U.vm → e_Pc (y, F.2.1 - 1, F.2.2.1 - (mm + 19), F.2.2.2) ad D tys base as ws (Sum.inr (Sum.inl (some q)) :: t0) (Value.ref b0 :: tc0).toArray U := fun U hU hW => ⟨Value.ref b0 :: tc0, rfl, ⟨hrel0, hst0⟩, by rw [hU]; exact h4, by rw [hU]; exact Nat.le_trans hC.2.2.2.2.2.1 h6.1, e_Kx_warm hW hC.2.2.2.2.1, by
            rw [hU]
            exact e_sf_moved hW.alike (fun q hq hA => h6.2.1 q hq hA) (e_sf_F rfl hC.2.2.2.2.2.2.1)⟩
          rw [htr] at hM9
          have hrun := va_runVN (e := e) (below := below) (meth := meth) (C := C) (As := tc0) (b := b0) (rest := rc) (Ts := e_ws) (own := own) (H := H) (locs := locs) (cells := c.2.1 - k0) (slots := c.2.2 - s0) (g := F0 m pc ls (tc ++ rc)) ⟨hx, hb, rfl, e_own hM ho hC, hC.2.2.2.1⟩ hM9 ⟨va_cnB n hC.2.2.2.1 (e_good hcode) rfl rfl rfl (hC.2.2.2.2.1.2.2.1 _ (List.mem_filter.mpr ⟨hlink, rfl⟩)) (e_wd hC hini rfl) hdn ⟨by show F.2.1 - 1 + 1 ≤ R.frames; omega, by show 8 + (mm + 11) + (F.2.2.1 - (mm + 19)) ≤ R.locals; omega⟩, e_wd hC hinst rfl, e_wd hC hsel rfl⟩ ⟨e_Pc_blind, e_recv hC h3 h4 hb0 hc9 hcl, hpre⟩ rfl hlen0 (h1.2.choose_spec.1.1.trans (by obtain ⟨-, -, -, -, -, -, -, q9, -, -, r3, -⟩ := hC; exact r3.symm)) (by rw [htc]; simp) (lv_room hwd) hd ⟨by omega, by omega⟩
          refine e_runW hrun h6 (fun as1 ws1 H1 locs1 xo q1 q2 q3 q4 q5 q6 => ?_)
          have hfin := hWG as1 ws1 H1 locs1 ls (xo ++ rc) ⟨e_lo_mono h1 q1, by cases q6; exact e_st_mono q1 ht3, q2, q3, q4, q5, List.IsPrefix.trans h7 q1⟩
          subst hnx
          rw [show c.2.1 - k0 + (c1.2.1 - c.2.1) = c1.2.1 - k0 by omega, show c.2.2 - s0 + (c1.2.2 - c.2.2) = c1.2.2 - s0 by omega]
          exact hfin
        · obtain ⟨z2, w2, c2, hK2, hok2⟩ := hg _ _ _ _ _ _ _ hres
          refine ⟨z2, w2, c2, hK2, Nat.le_trans hok1.1 hok2.1, Nat.le_trans hok1.2.1 hok2.2.1, Nat.le_trans hok1.2.2.1 hok2.2.2.1, ?_⟩
          intro p l e R s m args below meth cd Q ad D tys base nL as0 k0 s0 hC hf hl hk hs hc hsl hE
          have hok1' := hok1
          obtain ⟨b1, b2, b3, -⟩ := hok1'
          have hWG := hok2.2.2.2 p l e R s m args below meth cd Q ad D tys base nL as0 k0 s0 hC hf hl (by omega) (by omega) hc hsl hE
          obtain ⟨hx, hb⟩ := e_cc hM hq hC
          have d2 := hok2.2.1
          have d3 := hok2.2.2.1
          intro as ws H locs ls ys hS
          obtain ⟨h1, h2, h3, h4, h5, h6, h7⟩ := hS
          obtain ⟨tc, rc, rfl, ht1, ht2, ht3⟩ := e_st_app h2
          have hrv := e_st_rev ht2
          rw [htr] at hrv
          obtain ⟨x0, tc0, htc0, hrel0, hst0⟩ := e_st_cons hrv
          obtain ⟨b0, hb0, rfl⟩ := e_ref hrel0
          have htc : tc = tc0.reverse ++ [.ref b0] := by rw [← List.reverse_reverse tc, htc0, List.reverse_cons]
          have hlen0 : tc0.length = n := by
            have e1 := congrArg List.length htc
            simp [ht1, ht0] at e1
            omega
          have hwd : (rc.map fun v => v.category).sum ≤ 8 := by rw [e_stw_t ht3]; exact hst8
          have hM9 := e_met (ad := ad) (D := D) (tys := tys) (base := base) (as0 := as) (ws0 := ws) (l := l) hok1 hy hplain hC.1 hlal hla h3 h5
          have hpre : ∀ U : State, U.heap = H → s.WarmedH U.vm → e_Pc (y, F.2.1 - 1, F.2.2.1 - (mm + 19), F.2.2.2) ad D tys base as ws (Sum.inr (Sum.inl (some q)) :: t0) (Value.ref b0 :: tc0).toArray U := fun U hU hW => ⟨Value.ref b0 :: tc0, rfl, ⟨hrel0, hst0⟩, by rw [hU]; exact h4, by rw [hU]; exact Nat.le_trans hC.2.2.2.2.2.1 h6.1, e_Kx_warm hW hC.2.2.2.2.1, by
            rw [hU]
            exact e_sf_moved hW.alike (fun q hq hA => h6.2.1 q hq hA) (e_sf_F rfl hC.2.2.2.2.2.2.1)⟩
          rw [htr] at hM9
          have hrun := va_runVN (e := e) (below := below) (meth := meth) (C := C) (As := tc0) (b := b0) (rest := rc) (Ts := e_ws) (own := own) (H := H) (locs := locs) (cells := c.2.1 - k0) (slots := c.2.2 - s0) (g := F0 m pc ls (tc ++ rc)) ⟨hx, hb, rfl, e_own hM ho hC, hC.2.2.2.1⟩ hM9 ⟨va_cnB n hC.2.2.2.1 (e_good hcode) rfl rfl rfl (hC.2.2.2.2.1.2.2.1 _ (List.mem_filter.mpr ⟨hlink, rfl⟩)) (e_wd hC hini rfl) hdn ⟨by show F.2.1 - 1 + 1 ≤ R.frames; omega, by show 8 + (mm + 11) + (F.2.2.1 - (mm + 19)) ≤ R.locals; omega⟩, e_wd hC hinst rfl, e_wd hC hsel rfl⟩ ⟨e_Pc_blind, e_recv hC h3 h4 hb0 hc9 hcl, hpre⟩ rfl hlen0 (h1.2.choose_spec.1.1.trans (by obtain ⟨-, -, -, -, -, -, -, q9, -, -, r3, -⟩ := hC; exact r3.symm)) (by rw [htc]; simp) (lv_room hwd) hd ⟨by omega, by omega⟩
          refine e_runW hrun h6 (fun as1 ws1 H1 locs1 xo q1 q2 q3 q4 q5 q6 => ?_)
          have hfin := hWG as1 ws1 H1 locs1 ls (xo ++ rc) ⟨e_lo_mono h1 q1, by obtain ⟨x, rfl, hx9⟩ := q6; exact ⟨hx9, e_st_mono q1 ht3⟩, q2, q3, q4, q5, List.IsPrefix.trans h7 q1⟩
          subst hnx
          rw [show c.2.1 - k0 + (c1.2.1 - c.2.1) = c1.2.1 - k0 by omega, show c.2.2 - s0 + (c1.2.2 - c.2.2) = c1.2.2 - s0 by omega]
          exact hfin
        · cases hres
      · cases h
    · cases h
  · cases h

end SN
end
section
/-! THROWS: the op; contracts of methods that throw; calls whose throws the caller's own table catches; methods with a table -/
section SN
variable {M pc : Nat} {cc : ByteArray}
def e_wok (L : List Jvm.Cond) (ps : List Nat) : Bool := decide (ps.map (fun i => lw_tbl[i]?) = L.map some) && L.all (fun w => goodWord w || (e_nk w && w.onTables))
theorem e_wok_at {L : List Jvm.Cond} {ps : List Nat} (h : e_wok L ps = true) {args : Array Value} {s : State} (h1 : ∀ w ∈ e_ws, w.before args s = true) (h2 : ∀ w ∈ e_nw, va_Nw w s) : (∀ w ∈ L, w.before args s = true) ∧ ∀ w ∈ L, vx_ot w = true := by
  obtain ⟨h4, h3⟩ := (Bool.and_eq_true _ _).mp h
  have h4 := of_decide_eq_true h4
  have key : ∀ w ∈ L, w.before args s = true ∧ vx_ot w = true := by
    intro w hw
    have h5 := List.all_eq_true.mp h3 w hw
    have h6 : w ∈ lw_tbl := by
      have h7 : some w ∈ ps.map (fun i => lw_tbl[i]?) := by rw [h4]; exact List.mem_map.mpr ⟨w, hw, rfl⟩
      obtain ⟨i, -, hi⟩ := List.mem_map.mp h7
      exact List.mem_of_getElem? hi
    rcases (Bool.or_eq_true _ _).mp h5 with g | g
    · exact ⟨h1 w (List.mem_filter.mpr ⟨h6, g⟩), by unfold vx_ot; rw [g, Bool.or_true]⟩
    · obtain ⟨g1, g2⟩ := (Bool.and_eq_true _ _).mp g
      exact ⟨(h2 w (List.mem_filter.mpr ⟨h6, g1⟩)).use g2, by unfold vx_ot; rw [g2, Bool.true_or]⟩
  exact ⟨fun w hw => (key w hw).1, fun w hw => (key w hw).2⟩
theorem s_throw {E ik is ic mL : Nat} {X text own : String} {yn : MethodName} {b : ByteArray} {rt : Option FieldType} (hq : (e_ml[M]?).map (·.2.1) = some cc) (ho : (e_ml[M]?).map (·.1.cls) = some own) (hyn : e_ml[M]? = some (yn, b, mL, rt)) (hcode : Jvm.Cond.code yn b mL rt ∈ lw_tbl) (hE : e_xn E = some X) (hfit : Bundle.fit X = true)
    {ps : List Nat} (hw : e_wok (Jvm.Cond.classLink own ik X :: Jvm.Cond.initialized X :: vx_atS own ic X e_nm) ps = true) (hs : (own, is, text) ∈ e_sr)
    (d0 : decode cc pc = .ok (.new ik, 3)) (d3 : decode cc (pc + 3) = .ok (.dup, 1)) (d4 : decode cc (pc + 4) = .ok (.ldc is, 2) ∧ decode cc (pc + 6) = .ok (.invokespecial ic, 3) ∧ decode cc (pc + 9) = .ok (.athrow, 1) ∨ decode cc (pc + 4) = .ok (.ldc_w is, 3) ∧ decode cc (pc + 7) = .ok (.invokespecial ic, 3) ∧ decode cc (pc + 10) = .ok (.athrow, 1)) : e_Sn M pc (o_throw E) := by
  intro g hg F al st w c K hM h
  obtain ⟨q, c1, c2⟩ := c
  unfold o_throw at h
  cases hbc : (Nat.ble 6 F.2.1 && Nat.ble 90 F.2.2.1 && Nat.ble (e_stw st) 8) with
  | false => rw [hbc, cond_false] at h; cases h
  | true =>
    rw [hbc, cond_true] at h
    replace h : K (.inr E) w (q, c1 + 1, c2 + 6) = true := e_fo_t (e_fo_t h)
    obtain ⟨g1, g3⟩ := (Bool.and_eq_true _ _).mp hbc
    obtain ⟨g1, g2⟩ := (Bool.and_eq_true _ _).mp g1
    replace g1 := Nat.le_of_ble_eq_true g1
    replace g2 := Nat.le_of_ble_eq_true g2
    replace g3 := Nat.le_of_ble_eq_true g3
    refine ⟨_, _, _, h, Nat.le_refl _, Nat.le_succ _, Nat.le_add_right _ _, ?_⟩
    intro p l e R s m args below meth cd Q ad D tys base nL as0 k0 s0 hC hf hl hk hs0 hc hsl hE'
    obtain ⟨hx, hb⟩ := e_cc hM hq hC
    intro as ws H locs ls ys hS
    obtain ⟨h1, h2, h3, h4, h5, h6, h7⟩ := hS
    dsimp only at hk hs0 hc hsl h3
    obtain ⟨sa, hsa⟩ := hC.2.2.2.2.1.2.2.2.1 _ hs
    obtain ⟨w1, w2⟩ := e_wok_at hw (args := args) hC.2.2.2.1 hC.2.2.2.2.1.2.2.1
    have hown := e_own hM ho hC
    obtain ⟨-, -, -, -, -, -, -, q9, r1, r2, r3, r4, -, -, -, r7⟩ := hC
    rw [hM, hyn] at r1
    cases r1
    have htab := r7.1 b mL rt (List.mem_filter.mpr ⟨hcode, rfl⟩)
    refine (hE' as ws H locs ⟨h3, h4, h5, h6, h7⟩).2 pc ls ys X _ _ hE ⟨own, text, ik, is, ic, sa, hown, hfit, w1 _ List.mem_cons_self, w1 _ (List.mem_cons_of_mem _ List.mem_cons_self), hsa, fun w hw => w1 w (List.mem_cons_of_mem _ (List.mem_cons_of_mem _ hw)), w2, by rw [hb]; exact d0, by rw [hb]; exact d3, by rw [hb]; exact d4, htab, h1.2.choose_spec.1.1.trans r3.symm, by rw [e_stw_t h2]; exact g3, by omega, by omega⟩ ?_ ?_
    · show c1 - k0 + 1 ≤ c1 + 1 - k0
      omega
    · show c2 - s0 + 6 ≤ c2 + 6 - s0
      omega
/-- what a thrown end leaves -/
def e_XC (ad : Nat → Nat) (D : va_G) (tys : List (ClassId × FieldType)) (base : Nat) (as0 : List Nat) (E : Nat) (w' : e_W) (n' : Nat) : String → State → State → Prop := fun X st t =>
  e_xn E = some X ∧ ∃ as' ws', as0 <+: as' ∧ e_wk ad as' tys w' n' ws' ∧ va_P D e_cl ws' t.heap ∧ va_D (e_A0 base) ws' ∧ va_F (e_A0 base) st t
theorem e_metX {F : e_F} {la : e_A} {vs : List e_V} {w w' : e_W} {c c' : e_Q} {E : Nat} {y : MethodName} {b : ByteArray} {mL : Nat} {rt : Option FieldType} {ad : Nat → Nat} {D : va_G} {tys : List (ClassId × FieldType)} {base : Nat} {as0 : List Nat} {ws0 : va_W} {l : Launch} (hok : e_Ok F 0 la [] w c (.inr E) w' c') {X0 : String} (hX0 : e_xn E = some X0) (hq : e_ml[F.1]? = some (y, b, mL, rt)) (hy : plainName y.cls = true) (hfl : l.flags = flags0)
    (hla : la.length = mL) (hla2 : ∀ (ad : Nat → Nat) (az : List Nat) (xs : List Value), e_st ad az vs xs → (lg_sl xs).length ≤ mL ∧ ∀ (o i : Nat) (v : e_V), la[i]? = some (some v) → ∃ x, (o + i, x) ∈ lv_args o xs ∧ e_rel ad az v x)
    (hwk : e_wk ad as0 tys w c.1 ws0) (hD : va_D (e_A0 base) ws0) :
    vx_Met l y (.code y b mL rt :: e_ws) { frames := F.2.1, cells := c'.2.1 - c.2.1, slots := c'.2.2 - c.2.2, locals := F.2.2.1 } (e_Pc F ad D tys base as0 ws0 vs) (fun _ _ _ _ => False) (e_XC ad D tys base as0 E w' c'.1) (c'.2.1 - c.2.1) (c'.2.2 - c.2.2) (e_A0 base) := by
  refine vx_ofW (cc := b) (maxL := mL) (ret := rt) hy rfl ?_
  intro p e s m args below meth cd s₁ B hml hxt hP
  obtain ⟨xs, rfl, hst, hP, hbase, hK, hsf⟩ := hP
  obtain ⟨h1, h2, h3, h4⟩ := hok
  have hlocks := B.notSynchronized
  have hts : ∀ w ∈ e_ws, w.before xs.toArray s = true := fun w hw => atoms_spec (ws := .code y b mL rt :: e_ws) B.pre w (List.mem_cons_of_mem _ hw)
  have hC : e_Cx F p l s m xs.toArray meth cd ad D tys base mL := ⟨hfl, B.exec, hlocks, hts, hK, hbase, hsf, _, hq, B.bytes, hml, rfl, findClass_of_methodNamed B.named, B.returns, (name_of_methodNamed B.named B.method).1, e_et B.method B.named (Stand.of_body B).code hts⟩
  have hent := lv_entry xs (n := mL) (hla2 ad as0 xs hst).1
  rw [lg_entry_eq]
  have hE : e_En p l e (headSpec (.code y b mL rt :: e_ws) { frames := F.2.1, cells := c'.2.1 - c.2.1, slots := c'.2.2 - c.2.2, locals := F.2.2.1 }).room s m xs.toArray below meth cd (vx_MQ below (fun _ _ _ _ => False) (e_XC ad D tys base as0 E w' c'.1) xs.toArray s (c'.2.1 - c.2.1) (c'.2.2 - c.2.2) (e_A0 base)) ad D tys base mL as0 c.2.1 c.2.2 (.inr E) w' c' := by
    intro as ws H locs hH
    refine ⟨fun h9 => (by subst h9; cases hX0), fun pc ls ys X n1 n2 hX hTh hn1 hn2 => ?_⟩
    obtain ⟨g1, g2, g3, g4, g5⟩ := hH
    obtain ⟨own, text, ik, is, ic, sa, t1, t2, t3, t4, t5, t6, t7, d0, d3, d4, t8, t9, t10, t11, t12⟩ := hTh
    have hst9 : l.stackTraces = false := by
      unfold Launch.stackTraces
      rw [hfl]
      decide +kernel
    rcases d4 with ⟨d4, d6, d9⟩ | ⟨d4, d6, d9⟩
    · refine vx_throwS (A := e_A0 base) (names := e_nm) B.exec rfl hst9 t1 t2 (by intro n hn; simp only [e_nm, List.mem_cons, List.not_mem_nil, or_false] at hn; rcases hn with rfl | rfl <;> decide +kernel) t3 t4 t5 t6 t7 hsf.2.2.1 hsf.2.2.2.1 g4 t9 d0 d3 d4 d6 d9 (by rw [t8]; intro x hx; cases hx) t11 ?_ hn1 hn2 hlocks ?_ g4.2.2 hn1 hn2
      · have e9 : e_nm.length = 2 := rfl
        rw [e9]
        show _ ≤ (headSpec (.code y b mL rt :: e_ws) { frames := F.2.1, cells := c'.2.1 - c.2.1, slots := c'.2.2 - c.2.2, locals := F.2.2.1 }).room.locals
        omega
      · intro t ht hz hq9
        refine ⟨hX, as, ws, g5, g1, g2.kept (fun k q hk => hq9 q.1 (g2 k q hk).lt), g3, Nat.le_trans g4.1 hz, fun q hq hA => ?_⟩
        rw [hq9 q (Nat.lt_of_lt_of_le hq g4.1)]
        exact g4.2.1 q hq hA
    · refine vx_throwSW (A := e_A0 base) (names := e_nm) B.exec rfl hst9 t1 t2 (by intro n hn; simp only [e_nm, List.mem_cons, List.not_mem_nil, or_false] at hn; rcases hn with rfl | rfl <;> decide +kernel) t3 t4 t5 t6 t7 hsf.2.2.1 hsf.2.2.2.1 g4 t9 d0 d3 d4 d6 d9 (by rw [t8]; intro x hx; cases hx) t11 ?_ hn1 hn2 hlocks ?_ g4.2.2 hn1 hn2
      · have e9 : e_nm.length = 2 := rfl
        rw [e9]
        show _ ≤ (headSpec (.code y b mL rt :: e_ws) { frames := F.2.1, cells := c'.2.1 - c.2.1, slots := c'.2.2 - c.2.2, locals := F.2.2.1 }).room.locals
        omega
      · intro t ht hz hq9
        refine ⟨hX, as, ws, g5, g1, g2.kept (fun k q hk => hq9 q.1 (g2 k q hk).lt), g3, Nat.le_trans g4.1 hz, fun q hq hA => ?_⟩
        rw [hq9 q (Nat.lt_of_lt_of_le hq g4.1)]
        exact g4.2.1 q hq hA
  have hWG := h4 p l e _ s m xs.toArray below meth cd _ ad D tys base mL as0 c.2.1 c.2.2 hC (Nat.le_refl _) (Nat.le_refl _) (Nat.le_refl _) (Nat.le_refl _) (Nat.le_refl _) (Nat.le_refl _) hE
  have hfin := hWG as0 ws0 s.heap [] _ [] ⟨⟨hla, _, hent, fun i v hv => by obtain ⟨x, q1, q2⟩ := (hla2 ad as0 xs hst).2 0 i v hv; exact ⟨x, by rw [Nat.zero_add] at q1; exact q1, q2⟩⟩, trivial, hwk, hP, hD, va_S.rf, List.prefix_refl _⟩
  rw [Nat.sub_self, Nat.sub_self] at hfin
  exact hfin
/-- the same of a method with a table of its own, that comes back -/
theorem e_metW {F : e_F} {la : e_A} {vs : List e_V} {w w' : e_W} {c c' : e_Q} {ov : Option e_V} {y : MethodName} {b : ByteArray} {mL : Nat} {rt : Option FieldType} {hh : List (Nat × Nat × Nat × Nat)} {ad : Nat → Nat} {D : va_G} {tys : List (ClassId × FieldType)} {base : Nat} {as0 : List Nat} {ws0 : va_W} {l : Launch} (hok : e_Ok F 0 la [] w c (.inl ov) w' c') (hq : e_ml[F.1]? = some (y, b, mL, rt)) (hy : plainName y.cls = true) (hfl : l.flags = flags0)
    (hla : la.length = mL) (hla2 : ∀ (ad : Nat → Nat) (az : List Nat) (xs : List Value), e_st ad az vs xs → (lg_sl xs).length ≤ mL ∧ ∀ (o i : Nat) (v : e_V), la[i]? = some (some v) → ∃ x, (o + i, x) ∈ lv_args o xs ∧ e_rel ad az v x)
    (hwk : e_wk ad as0 tys w c.1 ws0) (hD : va_D (e_A0 base) ws0) :
    vx_Met l y (.codeWith y b mL rt hh :: e_ws) { frames := F.2.1, cells := c'.2.1 - c.2.1, slots := c'.2.2 - c.2.2, locals := F.2.2.1 } (e_Pc F ad D tys base as0 ws0 vs) (e_Qc ad D tys base as0 ov w' c'.1) (fun _ _ _ => False) (c'.2.1 - c.2.1) (c'.2.2 - c.2.2) (e_A0 base) := by
  refine vx_ofWH (cc := b) (maxL := mL) (ret := rt) hy rfl ?_
  intro p e s m args below meth cd s₁ B hml hP
  obtain ⟨xs, rfl, hst, hP, hbase, hK, hsf⟩ := hP
  obtain ⟨h1, h2, h3, h4⟩ := hok
  have hlocks := B.notSynchronized
  have hts : ∀ w ∈ e_ws, w.before xs.toArray s = true := fun w hw => atoms_spec (ws := .codeWith y b mL rt hh :: e_ws) B.pre w (List.mem_cons_of_mem _ hw)
  have hC : e_Cx F p l s m xs.toArray meth cd ad D tys base mL := ⟨hfl, B.exec, hlocks, hts, hK, hbase, hsf, _, hq, B.bytes, hml, rfl, findClass_of_methodNamed B.named, B.returns, (name_of_methodNamed B.named B.method).1, e_et B.method B.named (Stand.of_body B).code hts⟩
  have hent := lv_entry xs (n := mL) (hla2 ad as0 xs hst).1
  rw [lg_entry_eq]
  have hE : e_En p l e (headSpec (.codeWith y b mL rt hh :: e_ws) { frames := F.2.1, cells := c'.2.1 - c.2.1, slots := c'.2.2 - c.2.2, locals := F.2.2.1 }).room s m xs.toArray below meth cd (vx_MQ below (e_Qc ad D tys base as0 ov w' c'.1) (fun _ _ _ => False) xs.toArray s (c'.2.1 - c.2.1) (c'.2.2 - c.2.2) (e_A0 base)) ad D tys base mL as0 c.2.1 c.2.2 (.inl ov) w' c' := by
    intro as ws H locs hH
    obtain ⟨g1, g2, g3, g4, g5⟩ := hH
    have hF9 : ∀ t : State, t.heap = H → va_F (e_A0 base) s t := fun t ht => ⟨by rw [ht]; exact g4.1, fun q hq hA => by rw [ht]; exact g4.2.1 q hq hA⟩
    cases ov with
    | none => exact fun pc ls hr hd => vx_ret (W.vret B.exec rfl hr (fun t ht hW => ⟨as, ws, g5, g1, by rw [ht]; exact g2, g3, hF9 t ht, rfl⟩) g4.2.2 hd)
    | some v =>
      intro pc ls x hx hret
      have hQ : ∀ t : State, t.heap = H → s.WarmedH t.vm → e_Qc ad D tys base as0 (some v) w' c'.1 xs.toArray s (.returned (some x)) t := fun t ht hW => ⟨as, ws, g5, g1, by rw [ht]; exact g2, g3, hF9 t ht, x, rfl, hx⟩
      rcases hret with ⟨⟨z, rfl, hr | ⟨hr, hz⟩⟩, hd⟩ | ⟨⟨z, rfl, hr⟩, hd⟩ | ⟨⟨hx2, rt2, hr, hrt⟩, hd⟩
      · exact vx_ret (W.iret B.exec rfl hr hQ g4.2.2 hd)
      · exact vx_ret (W.zret B.exec rfl hr (by rcases hz with rfl | rfl <;> decide) hQ g4.2.2 hd)
      · exact vx_ret (W.lret B.exec rfl hr hQ g4.2.2 hd)
      · exact vx_ret (W.aret B.exec rfl hr hrt hx2 hQ g4.2.2 hd)
  have hWG := h4 p l e _ s m xs.toArray below meth cd _ ad D tys base mL as0 c.2.1 c.2.2 hC (Nat.le_refl _) (Nat.le_refl _) (Nat.le_refl _) (Nat.le_refl _) (Nat.le_refl _) (Nat.le_refl _) hE
  have hfin := hWG as0 ws0 s.heap [] _ [] ⟨⟨hla, _, hent, fun i v hv => by obtain ⟨x, q1, q2⟩ := (hla2 ad as0 xs hst).2 0 i v hv; exact ⟨x, by rw [Nat.zero_add] at q1; exact q1, q2⟩⟩, trivial, hwk, hP, hD, va_S.rf, List.prefix_refl _⟩
  rw [Nat.sub_self, Nat.sub_self] at hfin
  exact hfin

/-- behind a callee that throws -/
theorem e_runX {p : Program} {l : Launch} {e : Env} {R : Room} {s : State} {m : MethodId} {args : Array Value} {below : List Frame} {meth : Method} {cd : Code} {Q : State → Prop} {ad : Nat → Nat} {D : va_G} {tys : List (ClassId × FieldType)} {base : Nat} {as : List Nat} {w1 : e_W} {n1 mc ms cells slots pc : Nat} {H : Heap} {locs : List Loc} {ls : Array Slot} {ys rc : List Value} {E : Nat}
    (hr : vx_Run p l e R s m args below meth cd H locs cells slots mc ms (F0 m pc ls ys) rc (fun _ _ _ => False) (e_XC ad D tys base as E w1 n1) (e_A0 base)) (hS : va_S (e_A0 base) s.heap H locs)
    (hk : ∀ (as1 : List Nat) (ws1 : va_W) (H1 : Heap) (locs1 : List Loc) (q : Addr) (ce : Cell) (X : String), as <+: as1 → e_wk ad as1 tys w1 n1 ws1 → va_P D e_cl ws1 H1 → va_D (e_A0 base) ws1 → va_S (e_A0 base) s.heap H1 locs1 → H1[q]? = some ce → ce.vm = .none → s.vm.findClass X = some ce.cls → e_xn E = some X → vx_W p l e R s m args below meth cd H1 locs1 (cells + mc) (slots + ms) Q (F0 m pc ls rc) q) : W p l e R s m args below meth cd H locs cells slots Q (F0 m pc ls ys) := by
  intro T hT X
  rcases hr T hT X with ⟨v, st₀, t, T', L, h0, X', hL, e1, e2, hf, st⟩ | ⟨q, st₀, t, T', L, E', ce, h0, X', hL, e1, e2, ⟨hX, as1, ws1, q1, q2, q3, q4, q5⟩, hce, hcv, hcl, st⟩
  · exact hf.elim
  · obtain ⟨k1, k2, k3⟩ := vx_keep (A0 := e_A0 base) h0 e1 hS (fun _ _ h => h) (fun _ h => h) hL q5
    obtain ⟨t2, a1, b1⟩ := hk as1 ws1 T'.heap (locs ++ L) q ce E' q1 q2 (by rw [e1]; exact q3) q4 k3 (by rw [e1]; exact hce) hcv hcl hX T' rfl X'
    exact ⟨t2, st.trans a1, b1⟩
/-- behind a callee with a table that comes back -/
theorem e_runWX {p : Program} {l : Launch} {e : Env} {R : Room} {s : State} {m : MethodId} {args : Array Value} {below : List Frame} {meth : Method} {cd : Code} {Q : State → Prop} {ad : Nat → Nat} {D : va_G} {tys : List (ClassId × FieldType)} {base : Nat} {as : List Nat} {w1 : e_W} {n1 mc ms cells slots pc : Nat} {H : Heap} {locs : List Loc} {ls : Array Slot} {ys rc : List Value} {a : Array Value} {ov : Option e_V}
    (hr : vx_Run p l e R s m args below meth cd H locs cells slots mc ms (F0 m pc ls ys) rc (e_Qc ad D tys base as ov w1 n1 a) (fun _ _ _ => False) (e_A0 base)) (hS : va_S (e_A0 base) s.heap H locs)
    (hk : ∀ (as1 : List Nat) (ws1 : va_W) (H1 : Heap) (locs1 : List Loc) (xo : List Value), as <+: as1 → e_wk ad as1 tys w1 n1 ws1 → va_P D e_cl ws1 H1 → va_D (e_A0 base) ws1 → va_S (e_A0 base) s.heap H1 locs1 → (match ov with
      | some v => ∃ x, xo = [x] ∧ e_rel ad as1 v x
      | none => xo = []) → W p l e R s m args below meth cd H1 locs1 (cells + mc) (slots + ms) Q (F0 m (pc + 3) ls (xo ++ rc))) : W p l e R s m args below meth cd H locs cells slots Q (F0 m pc ls ys) := by
  intro T hT X
  rcases hr T hT X with ⟨v, st₀, t, T', L, h0, X', hL, e1, e2, ⟨as1, ws1, q1, q2, q3, q4, q5, q6⟩, st⟩ | ⟨q, st₀, t, T', L, E', ce, h0, X', hL, e1, e2, hf, hce, hcv, hcl, st⟩
  · obtain ⟨k1, k2, k3⟩ := vx_keep (A0 := e_A0 base) h0 e1 hS (fun _ _ h => h) (fun _ h => h) hL q5
    obtain ⟨t2, a1, b1⟩ := hk as1 ws1 T'.heap (locs ++ L) v.toList q1 q2 (by rw [e1]; exact q3) q4 k3 (by
      cases ov with
      | none => cases q6; rfl
      | some u => obtain ⟨x, hx, hx2⟩ := q6; cases hx; exact ⟨x, rfl, hx2⟩) T' rfl X'
    exact ⟨t2, st t2 a1, b1⟩
  · exact hf.elim
/-- where a throw goes in the caller's own table -/
def e_Hc (own : String) (pc : Nat) (hh : List (Nat × Nat × Nat × Nat)) (hs : List (Nat × Nat)) : Prop := ∀ E hp, e_hat hs E = some hp → ∃ X nm pre x suf, e_xn E = some X ∧ tableOf hh = pre ++ x :: suf ∧ (∀ z ∈ pre, z.catchType ≠ 0 ∧ ∃ nm', Jvm.Cond.classLink own z.catchType nm' ∈ lw_tbl ∧ (X, nm') ∈ e_nc) ∧ covers x pc = true ∧ x.catchType ≠ 0 ∧ x.handlerPc = hp ∧ Jvm.Cond.classLink own x.catchType nm ∈ lw_tbl ∧ Jvm.Cond.castable X nm ∈ lw_tbl
theorem e_hc1 {own X : String} {pc a b h ct E : Nat} (hX : e_xn E = some X) (hcov : covers ⟨a, b, h, ct⟩ pc = true) (h0 : ct ≠ 0) (hl : Jvm.Cond.classLink own ct X ∈ lw_tbl) (hc : Jvm.Cond.castable X X ∈ lw_tbl) : e_Hc own pc [(a, b, h, ct)] [(E, h)] := by
  intro E1 hp h1
  unfold e_hat at h1
  cases hb : Nat.beq E E1 with
  | true =>
    rw [hb, cond_true] at h1
    cases h1
    cases Nat.eq_of_beq_eq_true hb
    exact ⟨X, X, [], _, [], hX, rfl, (fun z hz => nomatch hz), hcov, h0, rfl, hl, hc⟩
  | false => rw [hb, cond_false] at h1; cases h1
theorem e_hc2 {own X X2 : String} {pc a b h ct E a2 b2 h2 ct2 E2 : Nat} (hX : e_xn E = some X) (hcov : covers ⟨a, b, h, ct⟩ pc = true) (h0 : ct ≠ 0) (hl : Jvm.Cond.classLink own ct X ∈ lw_tbl) (hc : Jvm.Cond.castable X X ∈ lw_tbl)
    (hX2 : e_xn E2 = some X2) (hcov2 : covers ⟨a2, b2, h2, ct2⟩ pc = true) (h02 : ct2 ≠ 0) (hl2 : Jvm.Cond.classLink own ct2 X2 ∈ lw_tbl) (hc2 : Jvm.Cond.castable X2 X2 ∈ lw_tbl) (hn : (X2, X) ∈ e_nc) : e_Hc own pc [(a, b, h, ct), (a2, b2, h2, ct2)] [(E, h), (E2, h2)] := by
  intro E1 hp h1
  unfold e_hat at h1
  cases hb : Nat.beq E E1 with
  | true =>
    rw [hb, cond_true] at h1
    cases h1
    cases Nat.eq_of_beq_eq_true hb
    exact ⟨X, X, [], _, _, hX, rfl, (fun z hz => nomatch hz), hcov, h0, rfl, hl, hc⟩
  | false =>
    rw [hb, cond_false] at h1
    unfold e_hat at h1
    cases hb2 : Nat.beq E2 E1 with
    | true =>
      rw [hb2, cond_true] at h1
      cases h1
      cases Nat.eq_of_beq_eq_true hb2
      refine ⟨X2, X2, [⟨a, b, h, ct⟩], _, [], hX2, rfl, fun z hz => ?_, hcov2, h02, rfl, hl2, hc2⟩
      obtain rfl := List.mem_singleton.mp hz
      exact ⟨h0, X, hl, hn⟩
    | false => rw [hb2, cond_false] at h1; cases h1

theorem s_callVX {hs : List (Nat × Nat)} {hh : List (Nat × Nat × Nat × Nat)} {ynM : MethodName} {bM : ByteArray} {mM : Nat} {rM : Option FieldType} {y mm n nx index ci N : Nat} {own C : String} {T : u_T} {yn : MethodName} {yb : ByteArray} {rt : Option FieldType} (hq : (e_ml[M]?).map (·.2.1) = some cc) (ho : (e_ml[M]?).map (·.1.cls) = some own) (hy : e_ml[y]? = some (yn, yb, mm, rt)) (hplain : plainName yn.cls = true) (hcode : Jvm.Cond.code yn yb mm rt ∈ lw_tbl) (hini : Jvm.Cond.initialized yn.cls ∈ lw_tbl) (hdn : yn.cls ≠ "java/lang/invoke/MethodHandle" ∧ yn.cls ≠ "java/lang/invoke/VarHandle" ∧ (parseMethodDescriptor yn.desc).map (fun d => d.parameters.length) = some n) (hlink : Jvm.Cond.methodLink own index yn ∈ lw_tbl) (hinst : Jvm.Cond.instanceMethod yn ∈ lw_tbl) (hsel : Jvm.Cond.selects C yn yn ∈ lw_tbl) (hcl : e_cl[ci]? = some (C, T, N)) (hd : decode cc pc = .ok (.invokevirtual index, 3)) (hnx : nx = pc + 3) (hynM : e_ml[M]? = some (ynM, bM, mM, rM)) (hcw : Jvm.Cond.codeWith ynM bM mM rM hh ∈ lw_tbl) (hhc : e_Hc own pc hh hs) : e_Sn M pc (o_callVX (e_s1 ci y mm) (n + 1) nx hs) := by
  intro g hg F al st w c K hM h
  unfold o_callVX o_callX at h
  obtain ⟨t, r, hst9, ht0, h9⟩ := e_args_t h
  clear h
  have h := h9
  clear h9
  subst hst9
  rw [List.append_nil] at h
  split at h
  · next q t0 htr =>
    split at h
    · next cj fs9 hc9 =>
      split at h
      · next y9 m9 hs9 =>
        have e1 : cj = ci ∧ y9 = y ∧ m9 = mm := by
          unfold e_s1 at hs9
          cases hb9 : Nat.beq cj ci with
          | false => rw [hb9, cond_false] at hs9; cases hs9
          | true => rw [hb9, cond_true] at hs9; cases hs9; exact ⟨Nat.eq_of_beq_eq_true hb9, rfl, rfl⟩
        obtain ⟨e1a, e1b, e1c⟩ := e1
        replace e1b := e1b.symm
        replace e1c := e1c.symm
        subst e1a e1b e1c
        obtain ⟨la, z1, w1, c1, hfr, hlo, hst8, hlal, hla, hok1, hres⟩ := e_go_t hg h
        rcases z1 with (_ | v) | E
        · obtain ⟨z2, w2, c2, hK2, hok2⟩ := hg _ _ _ _ _ _ _ hres
          refine ⟨z2, w2, c2, hK2, Nat.le_trans hok1.1 hok2.1, Nat.le_trans hok1.2.1 hok2.2.1, Nat.le_trans hok1.2.2.1 hok2.2.2.1, ?_⟩
          intro p l e R s m args below meth cd Q ad D tys base nL as0 k0 s0 hC hf hl hk hs hc hsl hE
          have hok1' := hok1
          obtain ⟨b1, b2, b3, -⟩ := hok1'
          have hWG := hok2.2.2.2 p l e R s m args below meth cd Q ad D tys base nL as0 k0 s0 hC hf hl (by omega) (by omega) hc hsl hE
          obtain ⟨hx, hb⟩ := e_cc hM hq hC
          have d2 := hok2.2.1
          have d3 := hok2.2.2.1
          intro as ws H locs ls ys hS
          obtain ⟨h1, h2, h3, h4, h5, h6, h7⟩ := hS
          obtain ⟨tc, rc, rfl, ht1, ht2, ht3⟩ := e_st_app h2
          have hrv := e_st_rev ht2
          rw [htr] at hrv
          obtain ⟨x0, tc0, htc0, hrel0, hst0⟩ := e_st_cons hrv
          obtain ⟨b0, hb0, rfl⟩ := e_ref hrel0
          have htc : tc = tc0.reverse ++ [.ref b0] := by rw [← List.reverse_reverse tc, htc0, List.reverse_cons]
          have hlen0 : tc0.length = n := by
            have e1 := congrArg List.length htc
            simp [ht1, ht0] at e1
            omega
          have hwd : (rc.map fun v => v.category).sum ≤ 8 := by rw [e_stw_t ht3]; exact hst8
          have hM9 := e_met (ad := ad) (D := D) (tys := tys) (base := base) (as0 := as) (ws0 := ws) (l := l) hok1 hy hplain hC.1 hlal hla h3 h5
          have hpre : ∀ U : State, U.heap = H → s.WarmedH U.vm → e_Pc (y, F.2.1 - 1, F.2.2.1 - (mm + 19), F.2.2.2) ad D tys base as ws (Sum.inr (Sum.inl (some q)) :: t0) (Value.ref b0 :: tc0).toArray U := fun U hU hW => ⟨Value.ref b0 :: tc0, rfl, ⟨hrel0, hst0⟩, by rw [hU]; exact h4, by rw [hU]; exact Nat.le_trans hC.2.2.2.2.2.1 h6.1, e_Kx_warm hW hC.2.2.2.2.1, by
            rw [hU]
            exact e_sf_moved hW.alike (fun q hq hA => h6.2.1 q hq hA) (e_sf_F rfl hC.2.2.2.2.2.2.1)⟩
          rw [htr] at hM9
          have hrun := va_runV (e := e) (below := below) (meth := meth) (C := C) (As := tc0) (b := b0) (rest := rc) (Ts := e_ws) (own := own) (H := H) (locs := locs) (cells := c.2.1 - k0) (slots := c.2.2 - s0) (g := F0 m pc ls (tc ++ rc)) ⟨hx, hb, rfl, e_own hM ho hC, hC.2.2.2.1⟩ hM9 ⟨callB_of n hC.2.2.2.1 (e_good hcode) rfl rfl rfl (e_wd hC hini rfl) (e_wd hC hlink rfl) hdn ⟨by show F.2.1 - 1 + 1 ≤ R.frames; omega, by show 8 + (mm + 11) + (F.2.2.1 - (mm + 19)) ≤ R.locals; omega⟩, e_wd hC hinst rfl, e_wd hC hsel rfl⟩ ⟨e_Pc_blind, e_recv hC h3 h4 hb0 hc9 hcl, hpre⟩ rfl hlen0 (h1.2.choose_spec.1.1.trans (by obtain ⟨-, -, -, -, -, -, -, q9, -, -, r3, -⟩ := hC; exact r3.symm)) (by rw [htc]; simp) (lv_room hwd) hd ⟨by omega, by omega⟩
          refine e_runW hrun h6 (fun as1 ws1 H1 locs1 xo q1 q2 q3 q4 q5 q6 => ?_)
          have hfin := hWG as1 ws1 H1 locs1 ls (xo ++ rc) ⟨e_lo_mono h1 q1, by cases q6; exact e_st_mono q1 ht3, q2, q3, q4, q5, List.IsPrefix.trans h7 q1⟩
          subst hnx
          rw [show c.2.1 - k0 + (c1.2.1 - c.2.1) = c1.2.1 - k0 by omega, show c.2.2 - s0 + (c1.2.2 - c.2.2) = c1.2.2 - s0 by omega]
          exact hfin
        · obtain ⟨z2, w2, c2, hK2, hok2⟩ := hg _ _ _ _ _ _ _ hres
          refine ⟨z2, w2, c2, hK2, Nat.le_trans hok1.1 hok2.1, Nat.le_trans hok1.2.1 hok2.2.1, Nat.le_trans hok1.2.2.1 hok2.2.2.1, ?_⟩
          intro p l e R s m args below meth cd Q ad D tys base nL as0 k0 s0 hC hf hl hk hs hc hsl hE
          have hok1' := hok1
          obtain ⟨b1, b2, b3, -⟩ := hok1'
          have hWG := hok2.2.2.2 p l e R s m args below meth cd Q ad D tys base nL as0 k0 s0 hC hf hl (by omega) (by omega) hc hsl hE
          obtain ⟨hx, hb⟩ := e_cc hM hq hC
          have d2 := hok2.2.1
          have d3 := hok2.2.2.1
          intro as ws H locs ls ys hS
          obtain ⟨h1, h2, h3, h4, h5, h6, h7⟩ := hS
          obtain ⟨tc, rc, rfl, ht1, ht2, ht3⟩ := e_st_app h2
          have hrv := e_st_rev ht2
          rw [htr] at hrv
          obtain ⟨x0, tc0, htc0, hrel0, hst0⟩ := e_st_cons hrv
          obtain ⟨b0, hb0, rfl⟩ := e_ref hrel0
          have htc : tc = tc0.reverse ++ [.ref b0] := by rw [← List.reverse_reverse tc, htc0, List.reverse_cons]
          have hlen0 : tc0.length = n := by
            have e1 := congrArg List.length htc
            simp [ht1, ht0] at e1
            omega
          have hwd : (rc.map fun v => v.category).sum ≤ 8 := by rw [e_stw_t ht3]; exact hst8
          have hM9 := e_met (ad := ad) (D := D) (tys := tys) (base := base) (as0 := as) (ws0 := ws) (l := l) hok1 hy hplain hC.1 hlal hla h3 h5
          have hpre : ∀ U : State, U.heap = H → s.WarmedH U.vm → e_Pc (y, F.2.1 - 1, F.2.2.1 - (mm + 19), F.2.2.2) ad D tys base as ws (Sum.inr (Sum.inl (some q)) :: t0) (Value.ref b0 :: tc0).toArray U := fun U hU hW => ⟨Value.ref b0 :: tc0, rfl, ⟨hrel0, hst0⟩, by rw [hU]; exact h4, by rw [hU]; exact Nat.le_trans hC.2.2.2.2.2.1 h6.1, e_Kx_warm hW hC.2.2.2.2.1, by
            rw [hU]
            exact e_sf_moved hW.alike (fun q hq hA => h6.2.1 q hq hA) (e_sf_F rfl hC.2.2.2.2.2.2.1)⟩
          rw [htr] at hM9
          have hrun := va_runV (e := e) (below := below) (meth := meth) (C := C) (As := tc0) (b := b0) (rest := rc) (Ts := e_ws) (own := own) (H := H) (locs := locs) (cells := c.2.1 - k0) (slots := c.2.2 - s0) (g := F0 m pc ls (tc ++ rc)) ⟨hx, hb, rfl, e_own hM ho hC, hC.2.2.2.1⟩ hM9 ⟨callB_of n hC.2.2.2.1 (e_good hcode) rfl rfl rfl (e_wd hC hini rfl) (e_wd hC hlink rfl) hdn ⟨by show F.2.1 - 1 + 1 ≤ R.frames; omega, by show 8 + (mm + 11) + (F.2.2.1 - (mm + 19)) ≤ R.locals; omega⟩, e_wd hC hinst rfl, e_wd hC hsel rfl⟩ ⟨e_Pc_blind, e_recv hC h3 h4 hb0 hc9 hcl, hpre⟩ rfl hlen0 (h1.2.choose_spec.1.1.trans (by obtain ⟨-, -, -, -, -, -, -, q9, -, -, r3, -⟩ := hC; exact r3.symm)) (by rw [htc]; simp) (lv_room hwd) hd ⟨by omega, by omega⟩
          refine e_runW hrun h6 (fun as1 ws1 H1 locs1 xo q1 q2 q3 q4 q5 q6 => ?_)
          have hfin := hWG as1 ws1 H1 locs1 ls (xo ++ rc) ⟨e_lo_mono h1 q1, by obtain ⟨x, rfl, hx9⟩ := q6; exact ⟨hx9, e_st_mono q1 ht3⟩, q2, q3, q4, q5, List.IsPrefix.trans h7 q1⟩
          subst hnx
          rw [show c.2.1 - k0 + (c1.2.1 - c.2.1) = c1.2.1 - k0 by omega, show c.2.2 - s0 + (c1.2.2 - c.2.2) = c1.2.2 - s0 by omega]
          exact hfin
        · dsimp only at hres
          cases hhp : e_hat hs E with
          | none => rw [hhp] at hres; cases hres
          | some hp =>
          replace hres : g F hp al [e_Tp] w1 c1 K = true := by rw [hhp] at hres; exact hres
          obtain ⟨z2, w2, c2, hK2, hok2⟩ := hg _ _ _ _ _ _ _ hres
          refine ⟨z2, w2, c2, hK2, Nat.le_trans hok1.1 hok2.1, Nat.le_trans hok1.2.1 hok2.2.1, Nat.le_trans hok1.2.2.1 hok2.2.2.1, ?_⟩
          intro p l e R s m args below meth cd Q ad D tys base nL as0 k0 s0 hC hf hl hk hs hc hsl hE
          have hok1' := hok1
          obtain ⟨b1, b2, b3, -⟩ := hok1'
          have hWG := hok2.2.2.2 p l e R s m args below meth cd Q ad D tys base nL as0 k0 s0 hC hf hl (by omega) (by omega) hc hsl hE
          obtain ⟨hx, hb⟩ := e_cc hM hq hC
          have d2 := hok2.2.1
          have d3 := hok2.2.2.1
          intro as ws H locs ls ys hS
          obtain ⟨h1, h2, h3, h4, h5, h6, h7⟩ := hS
          obtain ⟨tc, rc, rfl, ht1, ht2, ht3⟩ := e_st_app h2
          have hrv := e_st_rev ht2
          rw [htr] at hrv
          obtain ⟨x0, tc0, htc0, hrel0, hst0⟩ := e_st_cons hrv
          obtain ⟨b0, hb0, rfl⟩ := e_ref hrel0
          have htc : tc = tc0.reverse ++ [.ref b0] := by rw [← List.reverse_reverse tc, htc0, List.reverse_cons]
          have hlen0 : tc0.length = n := by
            have e1 := congrArg List.length htc
            simp [ht1, ht0] at e1
            omega
          have hwd : (rc.map fun v => v.category).sum ≤ 8 := by rw [e_stw_t ht3]; exact hst8
          have hM9 := e_metX (ad := ad) (D := D) (tys := tys) (base := base) (as0 := as) (ws0 := ws) (l := l) hok1 (hhc E hp hhp).choose_spec.choose_spec.choose_spec.choose_spec.choose_spec.1 hy hplain hC.1 hlal hla h3 h5
          have hpre : ∀ U : State, U.heap = H → s.WarmedH U.vm → e_Pc (y, F.2.1 - 1, F.2.2.1 - (mm + 19), F.2.2.2) ad D tys base as ws (Sum.inr (Sum.inl (some q)) :: t0) (Value.ref b0 :: tc0).toArray U := fun U hU hW => ⟨Value.ref b0 :: tc0, rfl, ⟨hrel0, hst0⟩, by rw [hU]; exact h4, by rw [hU]; exact Nat.le_trans hC.2.2.2.2.2.1 h6.1, e_Kx_warm hW hC.2.2.2.2.1, by
            rw [hU]
            exact e_sf_moved hW.alike (fun q hq hA => h6.2.1 q hq hA) (e_sf_F rfl hC.2.2.2.2.2.2.1)⟩
          rw [htr] at hM9
          have hrun := vx_runV (e := e) (below := below) (meth := meth) (C := C) (As := tc0) (b := b0) (rest := rc) (Ts := e_ws) (own := own) (H := H) (locs := locs) (cells := c.2.1 - k0) (slots := c.2.2 - s0) (g := F0 m pc ls (tc ++ rc)) ⟨hx, hb, rfl, e_own hM ho hC, hC.2.2.2.1⟩ hM9 ⟨callB_of n hC.2.2.2.1 (e_good hcode) rfl rfl rfl (e_wd hC hini rfl) (e_wd hC hlink rfl) hdn ⟨by show F.2.1 - 1 + 1 ≤ R.frames; omega, by show 8 + (mm + 11) + (F.2.2.1 - (mm + 19)) ≤ R.locals; omega⟩, e_wd hC hinst rfl, e_wd hC hsel rfl⟩ ⟨e_Pc_blind, e_recv hC h3 h4 hb0 hc9 hcl, hpre⟩ rfl hlen0 (h1.2.choose_spec.1.1.trans (by obtain ⟨-, -, -, -, -, -, -, q9, -, -, r3, -⟩ := hC; exact r3.symm)) (by rw [htc]; simp) (lv_room hwd) hd ⟨by omega, by omega⟩
          refine e_runX hrun h6 (fun as1 ws1 H1 locs1 q7 ce X q1 q2 q3 q4 q5 hce hcv hcl hX => ?_)
          have hfin := hWG as1 ws1 H1 locs1 ls [.ref q7] ⟨e_lo_mono h1 q1, ⟨⟨q7, rfl⟩, trivial⟩, q2, q3, q4, q5, List.IsPrefix.trans h7 q1⟩
          rw [show c.2.1 - k0 + (c1.2.1 - c.2.1) = c1.2.1 - k0 by omega, show c.2.2 - s0 + (c1.2.2 - c.2.2) = c1.2.2 - s0 by omega]
          obtain ⟨X2, nm, pre, x, suf, hX2, hsplit, hpass, hcov, hc0, hpc, hlk, hcast⟩ := hhc E hp hhp
          cases Option.some.inj (hX.symm.trans hX2)
          have htab : cd.exceptionTable.toList = tableOf hh := by
            obtain ⟨-, -, -, -, -, -, -, q9, r1, -, -, -, -, -, -, r7⟩ := hC
            rw [hM, hynM] at r1
            cases r1
            exact r7.2 bM mM rM hh (List.mem_filter.mpr ⟨hcw, rfl⟩)
          refine vx_catch (e_own hM ho hC) pre x suf (htab.trans hsplit) (fun z hz => ?_) hcov hc0 (e_wd hC hlk rfl) ((hC.2.2.2.2.1.2.2.1 _ (List.mem_filter.mpr ⟨hcast, rfl⟩)).use rfl) hce hcv hcl (by rw [hpc]; exact hfin)
          obtain ⟨hz0, nm', hz1, hz2⟩ := hpass z hz
          exact Or.inr ⟨hz0, nm', e_wd hC hz1 rfl, hC.2.2.2.2.1.2.2.2.2.1 _ hz2⟩
      · cases h
    · cases h
  · cases h


theorem e_goodW {y : MethodName} {b : ByteArray} {mL : Nat} {rt : Option FieldType} {hh : List (Nat × Nat × Nat × Nat)} (h : Jvm.Cond.codeWith y b mL rt hh ∈ lw_tbl) : GoodIn e_ws (.codeWith y b mL rt hh :: e_ws) := by
  intro w hw
  have h1 : w ∈ e_ws := by
    rcases List.mem_cons.mp hw with rfl | hw
    · exact List.mem_filter.mpr ⟨h, rfl⟩
    · exact hw
  exact ⟨h1, good_of_word (List.mem_filter.mp h1).2⟩
theorem e_mem {w : Jvm.Cond} (h : w ∈ lw_tbl) (hg : goodWord w = true) : w ∈ e_ws := List.mem_filter.mpr ⟨h, hg⟩

theorem e_par {d : String} {n : Nat} (h : (parseMethodDescriptor d).map (fun d => d.parameters.length) = some n) : ∀ sig, parseMethodDescriptor d = some sig → n = sig.parameters.length := by
  intro sig h1
  rw [h1] at h
  exact (Option.some.inj h).symm

theorem s_callSW {hh : List (Nat × Nat × Nat × Nat)} {y mm n nx index : Nat} {own : String} {yn : MethodName} {yb : ByteArray} {rt : Option FieldType} (hq : (e_ml[M]?).map (·.2.1) = some cc) (ho : (e_ml[M]?).map (·.1.cls) = some own) (hy : e_ml[y]? = some (yn, yb, mm, rt)) (hplain : plainName yn.cls = true) (hcode : Jvm.Cond.codeWith yn yb mm rt hh ∈ lw_tbl) (hini : Jvm.Cond.initialized yn.cls ∈ lw_tbl) (hdn : yn.cls ≠ "java/lang/invoke/MethodHandle" ∧ yn.cls ≠ "java/lang/invoke/VarHandle" ∧ (parseMethodDescriptor yn.desc).map (fun d => d.parameters.length) = some n) (hlink : Jvm.Cond.methodLink own index yn ∈ lw_tbl) (hstat : Jvm.Cond.static yn ∈ lw_tbl) (hd : decode cc pc = .ok (.invokestatic index, 3)) (hnx : nx = pc + 3) : e_Sn M pc (o_callS y mm n nx) := by
  intro g hg F al st w c K hM h
  unfold o_callS at h
  obtain ⟨t, r, rfl, ht0, h⟩ := e_args_t h
  obtain ⟨la, z1, w1, c1, hfr, hlo, hst8, hlal, hla, hok1, hres⟩ := e_go_t hg h
  rw [List.append_nil] at hla
  rcases z1 with (_ | v) | E
  · obtain ⟨z2, w2, c2, hK2, hok2⟩ := hg _ _ _ _ _ _ _ hres
    refine ⟨z2, w2, c2, hK2, Nat.le_trans hok1.1 hok2.1, Nat.le_trans hok1.2.1 hok2.2.1, Nat.le_trans hok1.2.2.1 hok2.2.2.1, ?_⟩
    intro p l e R s m args below meth cd Q ad D tys base nL as0 k0 s0 hC hf hl hk hs hc hsl hE
    have hok1' := hok1
    obtain ⟨b1, b2, b3, -⟩ := hok1'
    have hWG := hok2.2.2.2 p l e R s m args below meth cd Q ad D tys base nL as0 k0 s0 hC hf hl (by omega) (by omega) hc hsl hE
    obtain ⟨hx, hb⟩ := e_cc hM hq hC
    have d2 := hok2.2.1
    have d3 := hok2.2.2.1
    intro as ws H locs ls ys hS
    obtain ⟨h1, h2, h3, h4, h5, h6, h7⟩ := hS
    obtain ⟨tc, rc, rfl, ht1, ht2, ht3⟩ := e_st_app h2
    have hwd : (rc.map fun v => v.category).sum ≤ 8 := by rw [e_stw_t ht3]; exact hst8
    have hM9 := e_metW (hh := hh) (ad := ad) (D := D) (tys := tys) (base := base) (as0 := as) (ws0 := ws) (l := l) hok1 hy hplain hC.1 hlal hla h3 h5
    have hpre : ∀ U : State, U.heap = H → s.WarmedH U.vm → e_Pc (y, F.2.1 - 1, F.2.2.1 - (mm + 19), F.2.2.2) ad D tys base as ws t.reverse (tc.reverse).toArray U := fun U hU hW => ⟨tc.reverse, rfl, e_st_rev ht2, by rw [hU]; exact h4, by rw [hU]; exact Nat.le_trans hC.2.2.2.2.2.1 h6.1, e_Kx_warm hW hC.2.2.2.2.1, by
      rw [hU]
      exact e_sf_moved hW.alike (fun q hq hA => h6.2.1 q hq hA) (e_sf_F rfl hC.2.2.2.2.2.2.1)⟩
    have hrun := vx_runSX (hh := hh) (e := e) (below := below) (meth := meth) (As := tc.reverse) (rest := rc) (Ts := e_ws) (own := own) (H := H) (locs := locs) (cells := c.2.1 - k0) (slots := c.2.2 - s0) (g := F0 m pc ls (tc ++ rc)) ⟨hx, hb, rfl, e_own hM ho hC, hC.2.2.2.1⟩ hM9 (show vx_CSW R s args own index yn yb mm rt hh (.codeWith yn yb mm rt hh :: e_ws) _ _ _ n from ⟨⟨rfl, rfl, by show F.2.1 - 1 + 1 ≤ R.frames; omega, by show 8 + (mm + 11) + (F.2.2.1 - (mm + 19)) ≤ R.locals; omega, pay_in hC.2.2.2.1 (e_goodW hcode), List.mem_cons_self⟩, e_wd hC hcode rfl, e_wd hC hini rfl, ⟨hdn.1, hdn.2.1⟩, e_par hdn.2.2, e_wd hC hlink rfl, e_wd hC hstat rfl⟩) ⟨e_Pc_blind, hpre⟩ rfl (by simp [ht1, ht0]) (h1.2.choose_spec.1.1.trans (by obtain ⟨-, -, -, -, -, -, -, q9, -, -, r3, -⟩ := hC; exact r3.symm)) (by simp) (lv_room hwd) hd ⟨by omega, by omega⟩
    refine e_runWX hrun h6 (fun as1 ws1 H1 locs1 xo q1 q2 q3 q4 q5 q6 => ?_)
    have hfin := hWG as1 ws1 H1 locs1 ls (xo ++ rc) ⟨e_lo_mono h1 q1, by cases q6; exact e_st_mono q1 ht3, q2, q3, q4, q5, List.IsPrefix.trans h7 q1⟩
    subst hnx
    rw [show c.2.1 - k0 + (c1.2.1 - c.2.1) = c1.2.1 - k0 by omega, show c.2.2 - s0 + (c1.2.2 - c.2.2) = c1.2.2 - s0 by omega]
    exact hfin
  · obtain ⟨z2, w2, c2, hK2, hok2⟩ := hg _ _ _ _ _ _ _ hres
    refine ⟨z2, w2, c2, hK2, Nat.le_trans hok1.1 hok2.1, Nat.le_trans hok1.2.1 hok2.2.1, Nat.le_trans hok1.2.2.1 hok2.2.2.1, ?_⟩
    intro p l e R s m args below meth cd Q ad D tys base nL as0 k0 s0 hC hf hl hk hs hc hsl hE
    have hok1' := hok1
    obtain ⟨b1, b2, b3, -⟩ := hok1'
    have hWG := hok2.2.2.2 p l e R s m args below meth cd Q ad D tys base nL as0 k0 s0 hC hf hl (by omega) (by omega) hc hsl hE
    obtain ⟨hx, hb⟩ := e_cc hM hq hC
    have d2 := hok2.2.1
    have d3 := hok2.2.2.1
    intro as ws H locs ls ys hS
    obtain ⟨h1, h2, h3, h4, h5, h6, h7⟩ := hS
    obtain ⟨tc, rc, rfl, ht1, ht2, ht3⟩ := e_st_app h2
    have hwd : (rc.map fun v => v.category).sum ≤ 8 := by rw [e_stw_t ht3]; exact hst8
    have hM9 := e_metW (hh := hh) (ad := ad) (D := D) (tys := tys) (base := base) (as0 := as) (ws0 := ws) (l := l) hok1 hy hplain hC.1 hlal hla h3 h5
    have hpre : ∀ U : State, U.heap = H → s.WarmedH U.vm → e_Pc (y, F.2.1 - 1, F.2.2.1 - (mm + 19), F.2.2.2) ad D tys base as ws t.reverse (tc.reverse).toArray U := fun U hU hW => ⟨tc.reverse, rfl, e_st_rev ht2, by rw [hU]; exact h4, by rw [hU]; exact Nat.le_trans hC.2.2.2.2.2.1 h6.1, e_Kx_warm hW hC.2.2.2.2.1, by
      rw [hU]
      exact e_sf_moved hW.alike (fun q hq hA => h6.2.1 q hq hA) (e_sf_F rfl hC.2.2.2.2.2.2.1)⟩
    have hrun := vx_runSX (hh := hh) (e := e) (below := below) (meth := meth) (As := tc.reverse) (rest := rc) (Ts := e_ws) (own := own) (H := H) (locs := locs) (cells := c.2.1 - k0) (slots := c.2.2 - s0) (g := F0 m pc ls (tc ++ rc)) ⟨hx, hb, rfl, e_own hM ho hC, hC.2.2.2.1⟩ hM9 (show vx_CSW R s args own index yn yb mm rt hh (.codeWith yn yb mm rt hh :: e_ws) _ _ _ n from ⟨⟨rfl, rfl, by show F.2.1 - 1 + 1 ≤ R.frames; omega, by show 8 + (mm + 11) + (F.2.2.1 - (mm + 19)) ≤ R.locals; omega, pay_in hC.2.2.2.1 (e_goodW hcode), List.mem_cons_self⟩, e_wd hC hcode rfl, e_wd hC hini rfl, ⟨hdn.1, hdn.2.1⟩, e_par hdn.2.2, e_wd hC hlink rfl, e_wd hC hstat rfl⟩) ⟨e_Pc_blind, hpre⟩ rfl (by simp [ht1, ht0]) (h1.2.choose_spec.1.1.trans (by obtain ⟨-, -, -, -, -, -, -, q9, -, -, r3, -⟩ := hC; exact r3.symm)) (by simp) (lv_room hwd) hd ⟨by omega, by omega⟩
    refine e_runWX hrun h6 (fun as1 ws1 H1 locs1 xo q1 q2 q3 q4 q5 q6 => ?_)
    have hfin := hWG as1 ws1 H1 locs1 ls (xo ++ rc) ⟨e_lo_mono h1 q1, by obtain ⟨x, rfl, hx9⟩ := q6; exact ⟨hx9, e_st_mono q1 ht3⟩, q2, q3, q4, q5, List.IsPrefix.trans h7 q1⟩
    subst hnx
    rw [show c.2.1 - k0 + (c1.2.1 - c.2.1) = c1.2.1 - k0 by omega, show c.2.2 - s0 + (c1.2.2 - c.2.2) = c1.2.2 - s0 by omega]
    exact hfin
  · cases hres


theorem s_callVW {hh : List (Nat × Nat × Nat × Nat)} {y mm n nx index ci N : Nat} {own C : String} {T : u_T} {yn : MethodName} {yb : ByteArray} {rt : Option FieldType} (hq : (e_ml[M]?).map (·.2.1) = some cc) (ho : (e_ml[M]?).map (·.1.cls) = some own) (hy : e_ml[y]? = some (yn, yb, mm, rt)) (hplain : plainName yn.cls = true) (hcode : Jvm.Cond.codeWith yn yb mm rt hh ∈ lw_tbl) (hini : Jvm.Cond.initialized yn.cls ∈ lw_tbl) (hdn : yn.cls ≠ "java/lang/invoke/MethodHandle" ∧ yn.cls ≠ "java/lang/invoke/VarHandle" ∧ (parseMethodDescriptor yn.desc).map (fun d => d.parameters.length) = some n) (hlink : Jvm.Cond.methodLink own index yn ∈ lw_tbl) (hinst : Jvm.Cond.instanceMethod yn ∈ lw_tbl) (hsel : Jvm.Cond.selects C yn yn ∈ lw_tbl) (hcl : e_cl[ci]? = some (C, T, N)) (hd : decode cc pc = .ok (.invokevirtual index, 3)) (hnx : nx = pc + 3) : e_Sn M pc (o_callV (e_s1 ci y mm) (n + 1) nx) := by
  intro g hg F al st w c K hM h
  unfold o_callV o_callX at h
  obtain ⟨t, r, hst9, ht0, h9⟩ := e_args_t h
  clear h
  have h := h9
  clear h9
  subst hst9
  rw [List.append_nil] at h
  split at h
  · next q t0 htr =>
    split at h
    · next cj fs9 hc9 =>
      split at h
      · next y9 m9 hs9 =>
        have e1 : cj = ci ∧ y9 = y ∧ m9 = mm := by
          unfold e_s1 at hs9
          cases hb9 : Nat.beq cj ci with
          | false => rw [hb9, cond_false] at hs9; cases hs9
          | true => rw [hb9, cond_true] at hs9; cases hs9; exact ⟨Nat.eq_of_beq_eq_true hb9, rfl, rfl⟩
        obtain ⟨e1a, e1b, e1c⟩ := e1
        replace e1b := e1b.symm
        replace e1c := e1c.symm
        subst e1a e1b e1c
        obtain ⟨la, z1, w1, c1, hfr, hlo, hst8, hlal, hla, hok1, hres⟩ := e_go_t hg h
        rcases z1 with (_ | v) | E
        · obtain ⟨z2, w2, c2, hK2, hok2⟩ := hg _ _ _ _ _ _ _ hres
          refine ⟨z2, w2, c2, hK2, Nat.le_trans hok1.1 hok2.1, Nat.le_trans hok1.2.1 hok2.2.1, Nat.le_trans hok1.2.2.1 hok2.2.2.1, ?_⟩
          intro p l e R s m args below meth cd Q ad D tys base nL as0 k0 s0 hC hf hl hk hs hc hsl hE
          have hok1' := hok1
          obtain ⟨b1, b2, b3, -⟩ := hok1'
          have hWG := hok2.2.2.2 p l e R s m args below meth cd Q ad D tys base nL as0 k0 s0 hC hf hl (by omega) (by omega) hc hsl hE
          obtain ⟨hx, hb⟩ := e_cc hM hq hC
          have d2 := hok2.2.1
          have d3 := hok2.2.2.1
          intro as ws H locs ls ys hS
          obtain ⟨h1, h2, h3, h4, h5, h6, h7⟩ := hS
          obtain ⟨tc, rc, rfl, ht1, ht2, ht3⟩ := e_st_app h2
          have hrv := e_st_rev ht2
          rw [htr] at hrv
          obtain ⟨x0, tc0, htc0, hrel0, hst0⟩ := e_st_cons hrv
          obtain ⟨b0, hb0, rfl⟩ := e_ref hrel0
          have htc : tc = tc0.reverse ++ [.ref b0] := by rw [← List.reverse_reverse tc, htc0, List.reverse_cons]
          have hlen0 : tc0.length = n := by
            have e1 := congrArg List.length htc
            simp [ht1, ht0] at e1
            omega
          have hwd : (rc.map fun v => v.category).sum ≤ 8 := by rw [e_stw_t ht3]; exact hst8
          have hM9 := e_metW (hh := hh) (ad := ad) (D := D) (tys := tys) (base := base) (as0 := as) (ws0 := ws) (l := l) hok1 hy hplain hC.1 hlal hla h3 h5
          have hpre : ∀ U : State, U.heap = H → s.WarmedH U.vm → e_Pc (y, F.2.1 - 1, F.2.2.1 - (mm + 19), F.2.2.2) ad D tys base as ws (Sum.inr (Sum.inl (some q)) :: t0) (Value.ref b0 :: tc0).toArray U := fun U hU hW => ⟨Value.ref b0 :: tc0, rfl, ⟨hrel0, hst0⟩, by rw [hU]; exact h4, by rw [hU]; exact Nat.le_trans hC.2.2.2.2.2.1 h6.1, e_Kx_warm hW hC.2.2.2.2.1, by
            rw [hU]
            exact e_sf_moved hW.alike (fun q hq hA => h6.2.1 q hq hA) (e_sf_F rfl hC.2.2.2.2.2.2.1)⟩
          rw [htr] at hM9
          have hrun := vx_runVX (hh := hh) (e := e) (below := below) (meth := meth) (C := C) (As := tc0) (b := b0) (rest := rc) (Ts := e_ws) (own := own) (H := H) (locs := locs) (cells := c.2.1 - k0) (slots := c.2.2 - s0) (g := F0 m pc ls (tc ++ rc)) ⟨hx, hb, rfl, e_own hM ho hC, hC.2.2.2.1⟩ hM9 (show vx_CVW R s args own C index yn yb mm rt hh (.codeWith yn yb mm rt hh :: e_ws) _ _ _ n from ⟨⟨rfl, rfl, by show F.2.1 - 1 + 1 ≤ R.frames; omega, by show 8 + (mm + 11) + (F.2.2.1 - (mm + 19)) ≤ R.locals; omega, pay_in hC.2.2.2.1 (e_goodW hcode), List.mem_cons_self⟩, e_wd hC hcode rfl, e_wd hC hini rfl, ⟨hdn.1, hdn.2.1⟩, e_par hdn.2.2, e_wd hC hlink rfl, e_wd hC hinst rfl, e_wd hC hsel rfl⟩) ⟨e_Pc_blind, e_recv hC h3 h4 hb0 hc9 hcl, hpre⟩ rfl hlen0 (h1.2.choose_spec.1.1.trans (by obtain ⟨-, -, -, -, -, -, -, q9, -, -, r3, -⟩ := hC; exact r3.symm)) (by rw [htc]; simp) (lv_room hwd) hd ⟨by omega, by omega⟩
          refine e_runWX hrun h6 (fun as1 ws1 H1 locs1 xo q1 q2 q3 q4 q5 q6 => ?_)
          have hfin := hWG as1 ws1 H1 locs1 ls (xo ++ rc) ⟨e_lo_mono h1 q1, by cases q6; exact e_st_mono q1 ht3, q2, q3, q4, q5, List.IsPrefix.trans h7 q1⟩
          subst hnx
          rw [show c.2.1 - k0 + (c1.2.1 - c.2.1) = c1.2.1 - k0 by omega, show c.2.2 - s0 + (c1.2.2 - c.2.2) = c1.2.2 - s0 by omega]
          exact hfin
        · obtain ⟨z2, w2, c2, hK2, hok2⟩ := hg _ _ _ _ _ _ _ hres
          refine ⟨z2, w2, c2, hK2, Nat.le_trans hok1.1 hok2.1, Nat.le_trans hok1.2.1 hok2.2.1, Nat.le_trans hok1.2.2.1 hok2.2.2.1, ?_⟩
          intro p l e R s m args below meth cd Q ad D tys base nL as0 k0 s0 hC hf hl hk hs hc hsl hE
          have hok1' := hok1
          obtain ⟨b1, b2, b3, -⟩ := hok1'
          have hWG := hok2.2.2.2 p l e R s m args below meth cd Q ad D tys base nL as0 k0 s0 hC hf hl (by omega) (by omega) hc hsl hE
          obtain ⟨hx, hb⟩ := e_cc hM hq hC
          have d2 := hok2.2.1
          have d3 := hok2.2.2.1
          intro as ws H locs ls ys hS
          obtain ⟨h1, h2, h3, h4, h5, h6, h7⟩ := hS
          obtain ⟨tc, rc, rfl, ht1, ht2, ht3⟩ := e_st_app h2
          have hrv := e_st_rev ht2
          rw [htr] at hrv
          obtain ⟨x0, tc0, htc0, hrel0, hst0⟩ := e_st_cons hrv
          obtain ⟨b0, hb0, rfl⟩ := e_ref hrel0
          have htc : tc = tc0.reverse ++ [.ref b0] := by rw [← List.reverse_reverse tc, htc0, List.reverse_cons]
          have hlen0 : tc0.length = n := by
            have e1 := congrArg List.length htc
            simp [ht1, ht0] at e1
            omega
          have hwd : (rc.map fun v => v.category).sum ≤ 8 := by rw [e_stw_t ht3]; exact hst8
          have hM9 := e_metW (hh := hh) (ad := ad) (D := D) (tys := tys) (base := base) (as0 := as) (ws0 := ws) (l := l) hok1 hy hplain hC.1 hlal hla h3 h5
          have hpre : ∀ U : State, U.heap = H → s.WarmedH U.vm → e_Pc (y, F.2.1 - 1, F.2.2.1 - (mm + 19), F.2.2.2) ad D tys base as ws (Sum.inr (Sum.inl (some q)) :: t0) (Value.ref b0 :: tc0).toArray U := fun U hU hW => ⟨Value.ref b0 :: tc0, rfl, ⟨hrel0, hst0⟩, by rw [hU]; exact h4, by rw [hU]; exact Nat.le_trans hC.2.2.2.2.2.1 h6.1, e_Kx_warm hW hC.2.2.2.2.1, by
            rw [hU]
            exact e_sf_moved hW.alike (fun q hq hA => h6.2.1 q hq hA) (e_sf_F rfl hC.2.2.2.2.2.2.1)⟩
          rw [htr] at hM9
          have hrun := vx_runVX (hh := hh) (e := e) (below := below) (meth := meth) (C := C) (As := tc0) (b := b0) (rest := rc) (Ts := e_ws) (own := own) (H := H) (locs := locs) (cells := c.2.1 - k0) (slots := c.2.2 - s0) (g := F0 m pc ls (tc ++ rc)) ⟨hx, hb, rfl, e_own hM ho hC, hC.2.2.2.1⟩ hM9 (show vx_CVW R s args own C index yn yb mm rt hh (.codeWith yn yb mm rt hh :: e_ws) _ _ _ n from ⟨⟨rfl, rfl, by show F.2.1 - 1 + 1 ≤ R.frames; omega, by show 8 + (mm + 11) + (F.2.2.1 - (mm + 19)) ≤ R.locals; omega, pay_in hC.2.2.2.1 (e_goodW hcode), List.mem_cons_self⟩, e_wd hC hcode rfl, e_wd hC hini rfl, ⟨hdn.1, hdn.2.1⟩, e_par hdn.2.2, e_wd hC hlink rfl, e_wd hC hinst rfl, e_wd hC hsel rfl⟩) ⟨e_Pc_blind, e_recv hC h3 h4 hb0 hc9 hcl, hpre⟩ rfl hlen0 (h1.2.choose_spec.1.1.trans (by obtain ⟨-, -, -, -, -, -, -, q9, -, -, r3, -⟩ := hC; exact r3.symm)) (by rw [htc]; simp) (lv_room hwd) hd ⟨by omega, by omega⟩
          refine e_runWX hrun h6 (fun as1 ws1 H1 locs1 xo q1 q2 q3 q4 q5 q6 => ?_)
          have hfin := hWG as1 ws1 H1 locs1 ls (xo ++ rc) ⟨e_lo_mono h1 q1, by obtain ⟨x, rfl, hx9⟩ := q6; exact ⟨hx9, e_st_mono q1 ht3⟩, q2, q3, q4, q5, List.IsPrefix.trans h7 q1⟩
          subst hnx
          rw [show c.2.1 - k0 + (c1.2.1 - c.2.1) = c1.2.1 - k0 by omega, show c.2.2 - s0 + (c1.2.2 - c.2.2) = c1.2.2 - s0 by omega]
          exact hfin
        · cases hres
      · cases h
    · cases h
  · cases h


theorem s_ldcw {nx z index : Nat} {own : String} {v : Int32} (hq : (e_ml[M]?).map (·.2.1) = some cc) (ho : (e_ml[M]?).map (·.1.cls) = some own) (hk : Jvm.Cond.constant own index v ∈ lw_tbl) (hd : decode cc pc = .ok (.ldc_w index, 3)) (hnx : nx = pc + 3) (hz : v = e_i z ∧ z < 4294967296) : e_Sn M pc (o_push (e_I z) nx) := by
  intro g hg F al st w c K hM h
  replace h : g F nx al (e_I z :: st) w c K = true := h
  obtain ⟨z9, w', c', hK, hok⟩ := hg _ _ _ _ _ _ _ h
  refine ⟨z9, w', c', hK, e_step hok ?_⟩
  intro p l e R s m args below meth cd Q ad D tys base nL as0 k0 s0 hC hW
  obtain ⟨hx, hb⟩ := e_cc hM hq hC
  intro as ws H locs ls ys hS
  obtain ⟨h1, h2, h3⟩ := hS
  subst hnx
  exact lv_ldcw hx hb (e_own hM ho hC) (e_wd hC hk rfl) hd (hW as ws H locs ls (.int v :: ys) ⟨h1, ⟨⟨hz.2, by rw [hz.1]⟩, h2⟩, h3⟩)
/-- the cut -/
def e_sameA : e_A → e_A → Bool
  | [], [] => true
  | none :: a, none :: b => e_sameA a b
  | some u :: a, some v :: b => e_sameB u v && e_sameA a b
  | _, _ => false
theorem e_sameB_t {a b : e_V} (h : e_sameB a b = true) : a = b := by
  unfold e_sameB at h
  split at h
  · rw [Nat.eq_of_beq_eq_true h]
  · rw [Nat.eq_of_beq_eq_true h]
  · rfl
  · rw [Nat.eq_of_beq_eq_true h]
  · rw [Nat.eq_of_beq_eq_true h]
  · cases h
theorem e_sameA_t : ∀ {a b : e_A}, e_sameA a b = true → a = b
  | [], [], _ => rfl
  | none :: a, none :: b, h => by rw [e_sameA_t (a := a) (b := b) h]
  | some u :: a, some v :: b, h => by
    obtain ⟨h1, h2⟩ := (Bool.and_eq_true _ _).mp h
    rw [e_sameB_t h1, e_sameA_t h2]
  | [], _ :: _, h => by cases h
  | none :: _, [], h => by cases h
  | some _ :: _, [], h => by cases h
  | none :: _, some _ :: _, h => by cases h
  | some _ :: _, none :: _, h => by cases h
def e_sameS : List e_V → List e_V → Bool
  | [], [] => true
  | u :: a, v :: b => e_sameB u v && e_sameS a b
  | _, _ => false
theorem e_sameS_t : ∀ {a b : List e_V}, e_sameS a b = true → a = b
  | [], [], _ => rfl
  | u :: a, v :: b, h => by
    obtain ⟨h1, h2⟩ := (Bool.and_eq_true _ _).mp h
    rw [e_sameB_t h1, e_sameS_t h2]
  | [], _ :: _, h => by cases h
  | _ :: _, [], h => by cases h
def o_stop : e_O := fun _ _ ls st w c K => bif e_sameA ls e_spA && e_sameS st e_spS then K (.inr 1000) w c else false
theorem s_stop (hpc : pc = e_spP) : e_Sn M pc o_stop := by
  intro g hg F al st w c K hM h
  unfold o_stop at h
  cases hbc : (e_sameA al e_spA && e_sameS st e_spS) with
  | false => rw [hbc, cond_false] at h; cases h
  | true =>
    rw [hbc, cond_true] at h
    obtain ⟨g1, g2⟩ := (Bool.and_eq_true _ _).mp hbc
    obtain rfl := e_sameA_t g1
    obtain rfl := e_sameS_t g2
    refine ⟨_, _, _, h, Nat.le_refl _, Nat.le_refl _, Nat.le_refl _, ?_⟩
    intro p l e R s m args below meth cd Q ad D tys base nL as0 k0 s0 hC hf hl hk hs0 hc hsl hE'
    intro as ws H locs ls ys hS
    obtain ⟨h1, h2, h3, h4, h5, h6, h7⟩ := hS
    subst hpc
    exact (hE' as ws H locs ⟨h3, h4, h5, h6, h7⟩).1 rfl ls ys h1 h2
end SN
end
section
/-! MORE OPERATIONS: Object's constructor, casts, an empty copy -/
def o_oinit (nx : Nat) : e_O := fun g F ls st w c K => match st with
  | .inr (.inl (some _)) :: r => bif Nat.blt 0 F.2.1 && Nat.ble 20 F.2.2.1 && Nat.ble (e_stw r) 8 then g F nx ls r w c K else false
  | _ => false
noncomputable def o_cast (k : Nat) (nx : Nat) : e_O := fun g F ls st w c K => match st with
  | .inr (.inl none) :: r => g F nx ls (e_N :: r) w c K
  | .inr (.inl (some q)) :: r => bif Nat.beq (e_cod (e_tget 9 w q)) k then g F nx ls (e_R q :: r) w c K else false
  | _ => false
section SN
variable {M pc : Nat} {cc : ByteArray}
theorem e_stepR {F : e_F} {pc nx : Nat} {al al' : e_A} {st st' : List e_V} {w w1 w' : e_W} {c c' : e_Q} {z : e_Z} (hok : e_Ok F nx al' st' w1 c z w' c')
    (hrow : ∀ (p : Program) (l : Launch) (e : Env) (R : Room) (s : State) (m : MethodId) (args : Array Value) (below : List Frame) (meth : Method) (cd : Code) (Q : State → Prop) (ad : Nat → Nat) (D : va_G) (tys : List (ClassId × FieldType)) (base nL : Nat) (as0 : List Nat) (k0 s0 : Nat), e_Cx F p l s m args meth cd ad D tys base nL → F.2.1 ≤ R.frames → F.2.2.1 ≤ R.locals → e_wg p l e R s m args below meth cd Q ad D tys base nL as0 k0 s0 nx al' st' w1 c → e_wg p l e R s m args below meth cd Q ad D tys base nL as0 k0 s0 pc al st w c) : e_Ok F pc al st w c z w' c' := by
  obtain ⟨h1, h2, h3, h4⟩ := hok
  refine ⟨h1, h2, h3, ?_⟩
  intro p l e R s m args below meth cd Q ad D tys base nL as0 k0 s0 hC hf hl hk hs hc hsl hE
  exact hrow p l e R s m args below meth cd Q ad D tys base nL as0 k0 s0 hC hf hl (h4 p l e R s m args below meth cd Q ad D tys base nL as0 k0 s0 hC hf hl hk hs hc hsl hE)
theorem s_oinit {nx idx : Nat} {own : String} (hq : (e_ml[M]?).map (·.2.1) = some cc) (ho : (e_ml[M]?).map (·.1.cls) = some own) (hl1 : Jvm.Cond.methodLink own idx Lib.objectInit ∈ lw_tbl) (hl2 : Jvm.Cond.instanceMethod Lib.objectInit ∈ lw_tbl) (hl3 : Jvm.Cond.code Lib.objectInit ⟨#[0xb1]⟩ 1 none ∈ lw_tbl) (hd : decode cc pc = .ok (.invokespecial idx, 3)) (hnx : nx = pc + 3) : e_Sn M pc (o_oinit nx) := by
  intro g hg F al st w c K hM h
  unfold o_oinit at h
  split at h
  · next q r =>
    cases hbc : (Nat.blt 0 F.2.1 && Nat.ble 20 F.2.2.1 && Nat.ble (e_stw r) 8) with
    | false => rw [hbc, cond_false] at h; cases h
    | true =>
      rw [hbc, cond_true] at h
      obtain ⟨g1, g3⟩ := (Bool.and_eq_true _ _).mp hbc
      obtain ⟨g1, g2⟩ := (Bool.and_eq_true _ _).mp g1
      replace g1 : 0 < F.2.1 := Nat.le_of_ble_eq_true g1
      replace g2 := Nat.le_of_ble_eq_true g2
      replace g3 := Nat.le_of_ble_eq_true g3
      obtain ⟨z, w', c', hK, hok⟩ := hg _ _ _ _ _ _ _ h
      refine ⟨z, w', c', hK, e_stepR hok ?_⟩
      intro p l e R s m args below meth cd Q ad D tys base nL as0 k0 s0 hC hf hl hW
      obtain ⟨hx, hb⟩ := e_cc hM hq hC
      intro as ws H locs ls ys hS
      obtain ⟨h1, h2, h3⟩ := hS
      obtain ⟨x, ys, rfl, hr, h8⟩ := e_st_cons h2
      obtain ⟨a, ha, rfl⟩ := e_ref hr
      subst hnx
      have hsz : ls.size = cd.maxLocals := h1.2.choose_spec.1.1.trans (by obtain ⟨-, -, -, -, -, -, -, q9, -, -, r3, -⟩ := hC; exact r3.symm)
      refine W.objInit hx hb (e_own hM ho hC) (e_wd hC hl1 rfl) (e_wd hC hl2 rfl) (e_wd hC hl3 rfl) rfl hsz rfl hd (by omega) ?_ (hW as ws H locs ls ys ⟨h1, h8, h3⟩)
      have h9 := lv_room (m := m) (pc := pc) (ls := ls) (rest := ys) (st := ys) (by rw [e_stw_t h8]; exact g3)
      rw [e_stw_t h8] at h9 ⊢
      have h10 : (F0 m pc ls (Value.ref a :: ys)).monitorRoom = (F0 m pc ls ys).monitorRoom := rfl
      omega
  · cases h
/-- a cast of null, of an object of just that class, of an array of ints -/
theorem s_cast {nx index k : Nat} {own nm : String} (hq : (e_ml[M]?).map (·.2.1) = some cc) (ho : (e_ml[M]?).map (·.1.cls) = some own) (hl1 : Jvm.Cond.classLink own index nm ∈ lw_tbl) (hk : (k < 100 ∧ (e_cl[k]?).map (·.1) = some nm) ∨ (k = 100 ∧ nm = "[I")) (hd : decode cc pc = .ok (.checkcast index, 3)) (hnx : nx = pc + 3) : e_Sn M pc (o_cast k nx) := by
  intro g hg F al st w c K hM h
  unfold o_cast at h
  split at h
  · next r =>
    obtain ⟨z, w', c', hK, hok⟩ := hg _ _ _ _ _ _ _ h
    refine ⟨z, w', c', hK, e_step hok ?_⟩
    intro p l e R s m args below meth cd Q ad D tys base nL as0 k0 s0 hC hW
    obtain ⟨hx, hb⟩ := e_cc hM hq hC
    exact e_pure (st' := e_N :: r) (fun as ys h2 => by
      obtain ⟨x, y, rfl, hx9, h3⟩ := e_st_cons h2
      cases (show x = .null from hx9)
      exact ⟨.null :: y, ⟨rfl, h3⟩, fun H locs cells slots ls k => by subst hnx; exact lv_castN hx hb hd k⟩) hW
  · next q r =>
    cases hbc : Nat.beq (e_cod (e_tget 9 w q)) k with
    | false => rw [hbc, cond_false] at h; cases h
    | true =>
      rw [hbc, cond_true] at h
      replace hbc := Nat.eq_of_beq_eq_true hbc
      obtain ⟨z, w', c', hK, hok⟩ := hg _ _ _ _ _ _ _ h
      refine ⟨z, w', c', hK, e_step hok ?_⟩
      intro p l e R s m args below meth cd Q ad D tys base nL as0 k0 s0 hC hW
      obtain ⟨hx, hb⟩ := e_cc hM hq hC
      intro as ws H locs ls ys hS
      obtain ⟨h1, h2, h3, h4, h5, h6, h7⟩ := hS
      obtain ⟨x, ys, rfl, hr, h8⟩ := e_st_cons h2
      obtain ⟨a, ha, rfl⟩ := e_ref hr
      obtain ⟨e', he, hent⟩ := e_wk_at h3 ha
      subst hnx
      have hnext := hW as ws H locs ls (.ref a :: ys) ⟨h1, ⟨hr, h8⟩, h3, h4, h5, h6, h7⟩
      generalize e_tget 9 w q = xx at hent hbc
      cases xx with
      | inl o1 =>
        obtain ⟨ci, fs⟩ := o1
        cases e' with
        | inl z => exact hent.elim
        | inr o2 =>
          obtain ⟨cj, vs⟩ := o2
          obtain ⟨rfl, -, -⟩ := hent
          obtain ⟨r9, q1, -⟩ := h4 q _ he
          have hk2 : ci = k := hbc
          subst hk2
          rcases hk with ⟨-, hk⟩ | ⟨hk, -⟩
          · rw [q1] at hk
            cases Option.some.inj hk
            have hrc := va_recv hC.2.2.2.2.1.1 h4 q1 he
            exact va_castS hx hb (e_own hM ho hC) (e_wd hC hl1 rfl) (hC.2.2.2.2.1.1.1 ci r9 q1).2 hrc hd hnext
          · have := (List.getElem?_eq_some_iff.mp q1).1
            have h100 : e_cl.length ≤ 100 := by decide
            omega
      | inr o1 =>
        obtain ⟨t2, rs2⟩ := o1
        cases e' with
        | inr z => exact hent.elim
        | inl o2 =>
          obtain ⟨cB, nB, fB⟩ := o2
          obtain ⟨⟨tyB, htyB⟩, -, -, -⟩ := hent
          have hkB := e_kt_at hC.2.2.2.2.1 htyB
          have hk2 : 100 + t2 = k := hbc
          rcases hk with ⟨hk, -⟩ | ⟨hk, rfl⟩
          · omega
          · obtain rfl : t2 = 0 := by omega
            obtain rfl : tyB = .int := (Option.some.inj hkB).symm
            have hRA := (hC.2.2.2.2.1.1.2 0 _ htyB).2
            exact va_castA hx hb (e_own hM ho hC) (e_wd hC hl1 rfl) h4 q he hRA hd hnext
  · cases h
end SN
end
section
/-- System.arraycopy of no element, among arrays of ints -/
noncomputable def o_copy0 (nx : Nat) : e_O := fun g F ls st w c K => match st with
  | .inl n :: .inl dp :: .inr (.inl (some q1)) :: .inl sp :: .inr (.inl (some q0)) :: r =>
    bif Nat.beq n 2147483648 && Nat.beq dp 2147483648 && Nat.beq sp 2147483648 && Nat.beq (e_cod (e_tget 9 w q0)) 100 && Nat.beq (e_cod (e_tget 9 w q1)) 100 && Nat.blt 0 F.2.1 && Nat.ble 4000 F.2.2.1 && Nat.ble (e_stw r) 8 then g F nx ls r w c K else false
  | _ => false
section SN
variable {M pc : Nat} {cc : ByteArray}
theorem e_int_of {ad : Nat → Nat} {as : List Nat} {tys : List (ClassId × FieldType)} {x : e_C} {e' : va_E} (hent : e_ent ad as tys x e') (h : e_cod x = 100) (hcl : ∀ ci fs, x = .inl (ci, fs) → ci < 100) : ∃ cA n f, e' = .inl (cA, n, .inl f) ∧ (∃ ty, tys[0]? = some (cA, ty)) := by
  cases x with
  | inl o1 =>
    obtain ⟨ci, fs⟩ := o1
    have := hcl ci fs rfl
    have h2 : ci = 100 := h
    omega
  | inr o1 =>
    obtain ⟨t, rs⟩ := o1
    have h2 : 100 + t = 100 := h
    obtain rfl : t = 0 := by omega
    cases e' with
    | inr z => exact hent.elim
    | inl o2 =>
      obtain ⟨cA, n, f⟩ := o2
      obtain ⟨hty, -, -, harr⟩ := hent
      rcases f with f | f
      · exact ⟨cA, n, f, rfl, hty⟩
      · exact harr.elim
theorem s_copy0 {nx index : Nat} {own : String} (hq : (e_ml[M]?).map (·.2.1) = some cc) (ho : (e_ml[M]?).map (·.1.cls) = some own) (hl1 : Jvm.Cond.methodLink own index arraycopyName ∈ lw_tbl) (hl2 : Jvm.Cond.native arraycopyName ∈ lw_tbl) (hl3 : Jvm.Cond.static arraycopyName ∈ lw_tbl) (hl4 : Jvm.Cond.initialized "java/lang/System" ∈ lw_tbl) (hd : decode cc pc = .ok (.invokestatic index, 3)) (hnx : nx = pc + 3) : e_Sn M pc (o_copy0 nx) := by
  intro g hg F al st w c K hM h
  unfold o_copy0 at h
  split at h
  · next n dp q1 sp q0 r =>
    cases hbc : (Nat.beq n 2147483648 && Nat.beq dp 2147483648 && Nat.beq sp 2147483648 && Nat.beq (e_cod (e_tget 9 w q0)) 100 && Nat.beq (e_cod (e_tget 9 w q1)) 100 && Nat.blt 0 F.2.1 && Nat.ble 4000 F.2.2.1 && Nat.ble (e_stw r) 8) with
    | false => rw [hbc, cond_false] at h; cases h
    | true =>
      rw [hbc, cond_true] at h
      obtain ⟨hbc, g8⟩ := (Bool.and_eq_true _ _).mp hbc
      obtain ⟨hbc, g7⟩ := (Bool.and_eq_true _ _).mp hbc
      obtain ⟨hbc, g6⟩ := (Bool.and_eq_true _ _).mp hbc
      obtain ⟨hbc, g5⟩ := (Bool.and_eq_true _ _).mp hbc
      obtain ⟨hbc, g4⟩ := (Bool.and_eq_true _ _).mp hbc
      obtain ⟨hbc, g3⟩ := (Bool.and_eq_true _ _).mp hbc
      obtain ⟨g1, g2⟩ := (Bool.and_eq_true _ _).mp hbc
      replace g1 := Nat.eq_of_beq_eq_true g1
      replace g2 := Nat.eq_of_beq_eq_true g2
      replace g3 := Nat.eq_of_beq_eq_true g3
      replace g4 := Nat.eq_of_beq_eq_true g4
      replace g5 := Nat.eq_of_beq_eq_true g5
      replace g6 : 0 < F.2.1 := Nat.le_of_ble_eq_true g6
      replace g7 := Nat.le_of_ble_eq_true g7
      replace g8 := Nat.le_of_ble_eq_true g8
      obtain ⟨z, w', c', hK, hok⟩ := hg _ _ _ _ _ _ _ h
      refine ⟨z, w', c', hK, e_stepR hok ?_⟩
      intro p l e R s m args below meth cd Q ad D tys base nL as0 k0 s0 hC hf hl hW
      obtain ⟨hx, hb⟩ := e_cc hM hq hC
      intro as ws H locs ls ys hS
      obtain ⟨h1, h2, h3, h4, h5, h6, h7⟩ := hS
      obtain ⟨x1, ys, rfl, hr1, j1⟩ := e_st_cons h2
      obtain ⟨x2, ys, rfl, hr2, j2⟩ := e_st_cons j1
      obtain ⟨x3, ys, rfl, hr3, j3⟩ := e_st_cons j2
      obtain ⟨x4, ys, rfl, hr4, j4⟩ := e_st_cons j3
      obtain ⟨x5, ys, rfl, hr5, j5⟩ := e_st_cons j4
      obtain ⟨-, rfl⟩ := hr1
      obtain ⟨-, rfl⟩ := hr2
      obtain ⟨-, rfl⟩ := hr4
      obtain ⟨a1, ha1, rfl⟩ := e_ref hr3
      obtain ⟨a0, ha0, rfl⟩ := e_ref hr5
      subst g1; subst g2; subst g3
      obtain ⟨e1, he1, hen1⟩ := e_wk_at h3 ha1
      obtain ⟨e0, he0, hen0⟩ := e_wk_at h3 ha0
      have hsmall : ∀ (q : Nat) (a : Nat) (e' : va_E), ws[q]? = some (a, e') → e_ent ad as tys (e_tget 9 w q) e' → ∀ ci fs, e_tget 9 w q = .inl (ci, fs) → ci < 100 := by
        intro q a e' hw he ci fs hx9
        rw [hx9] at he
        cases e' with
        | inl z => exact he.elim
        | inr o2 =>
          obtain ⟨cj, vs⟩ := o2
          obtain ⟨rfl, -, -⟩ := he
          obtain ⟨r9, q1, -⟩ := h4 q _ hw
          have := (List.getElem?_eq_some_iff.mp q1).1
          have h100 : e_cl.length ≤ 100 := by decide
          omega
      obtain ⟨c1, n1, f1, rfl, ty1, ht1⟩ := e_int_of hen1 g5 (hsmall q1 _ _ he1 hen1)
      obtain ⟨c0, n0, f0, rfl, ty0, ht0⟩ := e_int_of hen0 g4 (hsmall q0 _ _ he0 hen0)
      obtain rfl : ty0 = .int := (Option.some.inj (e_kt_at hC.2.2.2.2.1 ht0)).symm
      obtain rfl : ty1 = .int := (Option.some.inj (e_kt_at hC.2.2.2.2.1 ht1)).symm
      have hz : (e_i 2147483648).toNatClampNeg = 0 := by rw [e_i_cl (by decide) (by decide)]
      have hzn : ¬ e_i 2147483648 < 0 := e_i_neg (by decide) (by decide)
      subst hnx
      have hsz : cd.maxLocals = ls.size := (h1.2.choose_spec.1.1.trans (by obtain ⟨-, -, -, -, -, -, -, q9, -, -, r3, -⟩ := hC; exact r3.symm)).symm
      refine va_copyi hx hb hsz (e_own hM ho hC) (e_wd hC hl1 rfl) (e_wd hC hl2 rfl) (e_wd hC hl3 rfl) (e_wd hC hl4 rfl) hC.2.2.2.2.1.1 h4 h5 h6 q0 q1 0 0 he0 he1 ht0 ht1 rfl hzn hzn hzn (by rw [hz]; omega) (by rw [hz]; omega) (fun i hi => by rw [hz] at hi; omega) (by omega) ?_ hd (fun H1 locs1 p1 p2 p3 => ?_)
      · rw [e_stw_t j5]
        have hw9 : nativeFrameWords "java/lang/System" "arraycopy" 5 + 11 ≤ 3000 := by decide +kernel
        omega
      · have hcp : va_cpy f0 f1 (e_i 2147483648).toNatClampNeg (e_i 2147483648).toNatClampNeg (e_i 2147483648).toNatClampNeg = f1 := by
          funext k
          unfold va_cpy
          rw [hz, if_neg (by omega)]
        rw [hcp] at p1 p2
        have hset : ws.set q1 (a1, .inl (c1, n1, .inl f1)) = ws := by
          apply List.ext_getElem?
          intro j
          rw [List.getElem?_set]
          split
          · next hj =>
            subst hj
            split
            · rw [he1]
            · next hn => exact absurd (List.getElem?_eq_some_iff.mp he1).1 hn
          · rfl
        rw [hset] at p1 p2
        exact hW as ws H1 locs1 ls ys ⟨h1, j5, h3, p1, p2, p3, h7⟩
  · cases h
end SN
end
section
/-! Math.max, Math.min of known ints -/
def o_mmax (nx : Nat) : e_O := fun g F ls st w c K => match st with
  | .inl y :: .inl x :: r => bif Nat.blt 0 F.2.1 && Nat.ble 21 F.2.2.1 && Nat.ble (e_stw r) 8 then (bif Nat.blt x y then g F nx ls (.inl y :: r) w c K else g F nx ls (.inl x :: r) w c K) else false
  | _ => false
def o_mmin (nx : Nat) : e_O := fun g F ls st w c K => match st with
  | .inl y :: .inl x :: r => bif Nat.blt 0 F.2.1 && Nat.ble 21 F.2.2.1 && Nat.ble (e_stw r) 8 then (bif Nat.blt y x then g F nx ls (.inl y :: r) w c K else g F nx ls (.inl x :: r) w c K) else false
  | _ => false
section SN
variable {M pc : Nat} {cc : ByteArray}
theorem e_stepM {F : e_F} {pc nx : Nat} {al al' : e_A} {st st' : List e_V} {w w1 w' : e_W} {c c' : e_Q} {z : e_Z} (hok : e_Ok F nx al' st' w1 c z w' c')
    (hrow : ∀ (p : Program) (l : Launch) (e : Env) (R : Room) (s : State) (m : MethodId) (args : Array Value) (below : List Frame) (meth : Method) (cd : Code) (Q : State → Prop) (ad : Nat → Nat) (D : va_G) (tys : List (ClassId × FieldType)) (base nL : Nat) (as0 : List Nat) (k0 s0 : Nat), e_Cx F p l s m args meth cd ad D tys base nL → F.2.1 ≤ R.frames → F.2.2.1 ≤ R.locals → c.2.1 - k0 ≤ R.cells → c.2.2 - s0 ≤ R.slots → e_wg p l e R s m args below meth cd Q ad D tys base nL as0 k0 s0 nx al' st' w1 c → e_wg p l e R s m args below meth cd Q ad D tys base nL as0 k0 s0 pc al st w c) : e_Ok F pc al st w c z w' c' := by
  obtain ⟨h1, h2, h3, h4⟩ := hok
  refine ⟨h1, h2, h3, ?_⟩
  intro p l e R s m args below meth cd Q ad D tys base nL as0 k0 s0 hC hf hl hk hs hc hsl hE
  exact hrow p l e R s m args below meth cd Q ad D tys base nL as0 k0 s0 hC hf hl (by omega) (by omega) (h4 p l e R s m args below meth cd Q ad D tys base nL as0 k0 s0 hC hf hl hk hs hc hsl hE)
theorem s_mmax {nx index : Nat} {own : String} (hq : (e_ml[M]?).map (·.2.1) = some cc) (ho : (e_ml[M]?).map (·.1.cls) = some own) (hl1 : Jvm.Cond.methodLink own index Lib.Math.max.name ∈ lw_tbl) (hl2 : Jvm.Cond.static Lib.Math.max.name ∈ lw_tbl) (hl3 : Jvm.Cond.initialized "java/lang/Math" ∈ lw_tbl) (hl4 : Jvm.Cond.code Lib.Math.max.name Lib.Math.max.code 2 (some .int) ∈ lw_tbl) (hd : decode cc pc = .ok (.invokestatic index, 3)) (hnx : nx = pc + 3) : e_Sn M pc (o_mmax nx) := by
  intro g hg F al st w c K hM h
  unfold o_mmax at h
  split at h
  · next y x r =>
    cases hbc : (Nat.blt 0 F.2.1 && Nat.ble 21 F.2.2.1 && Nat.ble (e_stw r) 8) with
    | false => rw [hbc, cond_false] at h; cases h
    | true =>
      rw [hbc, cond_true] at h
      obtain ⟨g1, g3⟩ := (Bool.and_eq_true _ _).mp hbc
      obtain ⟨g1, g2⟩ := (Bool.and_eq_true _ _).mp g1
      replace g1 : 0 < F.2.1 := Nat.le_of_ble_eq_true g1
      replace g2 := Nat.le_of_ble_eq_true g2
      replace g3 := Nat.le_of_ble_eq_true g3
      have key : ∃ v, g F nx al (v :: r) w c K = true ∧ v = .inl (if x < y then y else x) := by
        cases hb2 : Nat.blt x y with
        | true =>
          rw [hb2, cond_true] at h
          exact ⟨_, h, by rw [if_pos (show x < y from Nat.le_of_ble_eq_true hb2)]⟩
        | false =>
          rw [hb2, cond_false] at h
          exact ⟨_, h, by rw [if_neg (fun q => by rw [show Nat.blt x y = true from Nat.ble_eq_true_of_le q] at hb2; cases hb2)]⟩
      obtain ⟨v, h, hv⟩ := key
      obtain ⟨z, w', c', hK, hok⟩ := hg _ _ _ _ _ _ _ h
      refine ⟨z, w', c', hK, e_stepM hok ?_⟩
      intro p l e R s m args below meth cd Q ad D tys base nL as0 k0 s0 hC hf hl hcc hss hW
      obtain ⟨hx, hb⟩ := e_cc hM hq hC
      intro as ws H locs ls ys hS
      obtain ⟨h1, h2, h3⟩ := hS
      obtain ⟨y1, ys, rfl, hr1, h8⟩ := e_st_cons h2
      obtain ⟨x1, ys, rfl, hr2, h9⟩ := e_st_cons h8
      obtain ⟨i1, rfl⟩ : y < 4294967296 ∧ y1 = .int (e_i y) := hr1
      obtain ⟨i2, rfl⟩ : x < 4294967296 ∧ x1 = .int (e_i x) := hr2
      subst hnx
      have hsz : ls.size = cd.maxLocals := h1.2.choose_spec.1.1.trans (by obtain ⟨-, -, -, -, -, -, -, q9, -, -, r3, -⟩ := hC; exact r3.symm)
      refine va_mmax hx hb hsz.symm (e_own hM ho hC) (e_wd hC hl1 rfl) (e_wd hC hl2 rfl) (e_wd hC hl3 rfl) (e_wd hC hl4 rfl) (by omega) (by rw [e_stw_t h9]; omega) hcc hss hd ?_
      refine hW as ws H locs ls _ ⟨h1, ⟨?_, h9⟩, h3⟩
      subst hv
      have hi : (e_i x < e_i y) ↔ x < y := by
        rw [Int32.lt_iff_toInt_lt, e_i_int (by assumption), e_i_int (by assumption)]
        omega
      by_cases hlt : x < y
      · rw [if_pos hlt, if_pos (hi.mpr hlt)]
        exact ⟨i1, rfl⟩
      · rw [if_neg hlt, if_neg (fun q => hlt (hi.mp q))]
        exact ⟨i2, rfl⟩
  · cases h
theorem s_mmin {nx index : Nat} {own : String} (hq : (e_ml[M]?).map (·.2.1) = some cc) (ho : (e_ml[M]?).map (·.1.cls) = some own) (hl1 : Jvm.Cond.methodLink own index Lib.Math.min.name ∈ lw_tbl) (hl2 : Jvm.Cond.static Lib.Math.min.name ∈ lw_tbl) (hl3 : Jvm.Cond.initialized "java/lang/Math" ∈ lw_tbl) (hl4 : Jvm.Cond.code Lib.Math.min.name Lib.Math.min.code 2 (some .int) ∈ lw_tbl) (hd : decode cc pc = .ok (.invokestatic index, 3)) (hnx : nx = pc + 3) : e_Sn M pc (o_mmin nx) := by
  intro g hg F al st w c K hM h
  unfold o_mmin at h
  split at h
  · next y x r =>
    cases hbc : (Nat.blt 0 F.2.1 && Nat.ble 21 F.2.2.1 && Nat.ble (e_stw r) 8) with
    | false => rw [hbc, cond_false] at h; cases h
    | true =>
      rw [hbc, cond_true] at h
      obtain ⟨g1, g3⟩ := (Bool.and_eq_true _ _).mp hbc
      obtain ⟨g1, g2⟩ := (Bool.and_eq_true _ _).mp g1
      replace g1 : 0 < F.2.1 := Nat.le_of_ble_eq_true g1
      replace g2 := Nat.le_of_ble_eq_true g2
      replace g3 := Nat.le_of_ble_eq_true g3
      have key : ∃ v, g F nx al (v :: r) w c K = true ∧ v = .inl (if y < x then y else x) := by
        cases hb2 : Nat.blt y x with
        | true =>
          rw [hb2, cond_true] at h
          exact ⟨_, h, by rw [if_pos (show y < x from Nat.le_of_ble_eq_true hb2)]⟩
        | false =>
          rw [hb2, cond_false] at h
          exact ⟨_, h, by rw [if_neg (fun q => by rw [show Nat.blt y x = true from Nat.ble_eq_true_of_le q] at hb2; cases hb2)]⟩
      obtain ⟨v, h, hv⟩ := key
      obtain ⟨z, w', c', hK, hok⟩ := hg _ _ _ _ _ _ _ h
      refine ⟨z, w', c', hK, e_stepM hok ?_⟩
      intro p l e R s m args below meth cd Q ad D tys base nL as0 k0 s0 hC hf hl hcc hss hW
      obtain ⟨hx, hb⟩ := e_cc hM hq hC
      intro as ws H locs ls ys hS
      obtain ⟨h1, h2, h3⟩ := hS
      obtain ⟨y1, ys, rfl, hr1, h8⟩ := e_st_cons h2
      obtain ⟨x1, ys, rfl, hr2, h9⟩ := e_st_cons h8
      obtain ⟨i1, rfl⟩ : y < 4294967296 ∧ y1 = .int (e_i y) := hr1
      obtain ⟨i2, rfl⟩ : x < 4294967296 ∧ x1 = .int (e_i x) := hr2
      subst hnx
      have hsz : ls.size = cd.maxLocals := h1.2.choose_spec.1.1.trans (by obtain ⟨-, -, -, -, -, -, -, q9, -, -, r3, -⟩ := hC; exact r3.symm)
      refine va_mmin hx hb hsz.symm (e_own hM ho hC) (e_wd hC hl1 rfl) (e_wd hC hl2 rfl) (e_wd hC hl3 rfl) (e_wd hC hl4 rfl) (by omega) (by rw [e_stw_t h9]; omega) hcc hss hd ?_
      refine hW as ws H locs ls _ ⟨h1, ⟨?_, h9⟩, h3⟩
      subst hv
      have hi : (e_i y < e_i x) ↔ y < x := by
        rw [Int32.lt_iff_toInt_lt, e_i_int (by assumption), e_i_int (by assumption)]
        omega
      by_cases hlt : y < x
      · rw [if_pos hlt, if_pos (hi.mpr hlt)]
        exact ⟨i1, rfl⟩
      · rw [if_neg hlt, if_neg (fun q => hlt (hi.mp q))]
        exact ⟨i2, rfl⟩
  · cases h
end SN
end
section
/-! MORE OPERATIONS: Integers of the cache (places 4 to 259 of those that aren't ours; 260: the cache; 261: the class object of Object[]), class objects, copies of references, rows of rows, Math's methods, a call of an interface, a nest mate's field -/
def e_isB (k : Nat) : Bool := Nat.ble 4 k && Nat.blt k 260
/-- a box of the cache -/
def o_aldB (nx : Nat) : e_O := fun g F ls st w c K => match st with
  | .inl i :: .inr (.inr (.inr (.inr (.inr (.inl k))))) :: r => bif Nat.beq k 260 && Nat.ble 2147483648 i && Nat.blt i 2147483904 then e_fo (i - 2147483648 + 4) (fun z => g F nx ls (e_B z :: r) w c K) else false
  | _ => false
def o_castB (nx : Nat) : e_O := fun g F ls st w c K => match st with
  | .inr (.inr (.inr (.inr (.inr (.inl k))))) :: r => bif e_isB k then g F nx ls (e_B k :: r) w c K else false
  | _ => false
/-- a box's value -/
def o_getB (nx : Nat) : e_O := fun g F ls st w c K => match st with
  | .inr (.inr (.inr (.inr (.inr (.inl k))))) :: r => bif e_isB k then e_fo (k + 2147483516) (fun z => g F nx ls (.inl z :: r) w c K) else false
  | _ => false
def o_callB (y m n nx : Nat) : e_O := fun g F ls st w c K => e_args n [] st (fun as r => match as with
  | .inr (.inr (.inr (.inr (.inr (.inl k))))) :: _ => bif e_isB k then e_go y m as nx r g F ls w c K (fun _ _ _ => false) else false
  | _ => false)
noncomputable def o_getC (nx : Nat) : e_O := fun g F ls st w c K => match st with
  | .inr (.inl (some q)) :: r => bif Nat.beq (e_cod (e_tget 9 w q)) 103 && Nat.blt 0 F.2.1 && Nat.ble 30 F.2.2.1 && Nat.ble (e_stw r) 8 then g F nx ls (e_B 261 :: r) w c K else false
  | _ => false
/-- a store of a box; others as before -/
noncomputable def o_astB (tc : Nat) (okc : Nat → Bool) (nx : Nat) : e_O := fun g F ls st w c K => match st with
  | .inr (.inr (.inr (.inr (.inr (.inl k))))) :: .inl i :: .inr (.inl (some q)) :: r => bif e_isB k && Nat.blt q 512 && Nat.ble 2147483648 i then (match e_tget 9 w q with
    | .inr (t, rs) => bif Nat.beq t tc then e_rset (e_B k) rs (i - 2147483648) (fun rs' => e_tput (.inr (t, rs')) 9 w q (fun w' => g F nx ls r w' c K)) else false
    | _ => false) else false
  | st => o_astR tc okc nx g F ls st w c K
/-- the first n of a list of runs, in front of the rest of another -/
def e_take : List (Nat × e_V) → Nat → (List (Nat × e_V) → Bool) → Bool
  | _, 0, k => k []
  | [], _ + 1, _ => false
  | (m, v) :: l, n + 1, k => match v with
    | .inr (.inr (.inr (.inr (.inr (.inl b))))) => bif e_isB b then (bif Nat.ble (n + 1) m then k [(n + 1, v)] else e_fo (n + 1 - m) (fun z => e_take l z (fun r => k ((m, v) :: r)))) else false
    | _ => false
/-- System.arraycopy of n boxes from the beginning, into an array of nulls -/
noncomputable def o_copyB (nx : Nat) : e_O := fun g F ls st w c K => match st with
  | .inl n :: .inl dp :: .inr (.inl (some q1)) :: .inl sp :: .inr (.inl (some q0)) :: r =>
    bif Nat.ble 2147483648 n && Nat.beq dp 2147483648 && Nat.beq sp 2147483648 && Nat.blt q1 512 && Nat.blt 0 F.2.1 && Nat.ble 4000 F.2.2.1 && Nat.ble (e_stw r) 8 then (match e_tget 9 w q0, e_tget 9 w q1 with
      | .inr (3, rs0), .inr (3, [(N, .inr (.inl none))]) => bif Nat.ble (n - 2147483648) N && Nat.ble (n - 2147483648) (e_rlen rs0) then e_take rs0 (n - 2147483648) (fun rs => e_fo (N - (n - 2147483648)) (fun z => e_tput (.inr (3, rs ++ [(z, e_N)])) 9 w q1 (fun w' => g F nx ls r w' c K))) else false
      | _, _ => false) else false
  | _ => false
section SN
variable {M pc : Nat} {cc : ByteArray}
theorem e_isB_t {k : Nat} (h : e_isB k = true) : ∃ j, k = j + 4 ∧ j < 256 := by
  obtain ⟨h1, h2⟩ := (Bool.and_eq_true _ _).mp h
  have h1 := Nat.le_of_ble_eq_true h1
  have h2 : k < 260 := Nat.le_of_ble_eq_true h2
  exact ⟨k - 4, by omega, by omega⟩
theorem s_getsH {nx index : Nat} {own : String} (hq : (e_ml[M]?).map (·.2.1) = some cc) (ho : (e_ml[M]?).map (·.1.cls) = some own) (hk : Jvm.Cond.fieldLink own index "java/lang/Integer$IntegerCache" "high" "I" ∈ lw_tbl) (hd : decode cc pc = .ok (.getstatic index, 3)) (hnx : nx = pc + 3) : e_Sn M pc (o_push (e_I 2147483775) nx) := by
  intro g hg F al st w c K hM h
  replace h : g F nx al (e_I 2147483775 :: st) w c K = true := h
  obtain ⟨z, w', c', hK, hok⟩ := hg _ _ _ _ _ _ _ h
  refine ⟨z, w', c', hK, e_step hok ?_⟩
  intro p l e R s m args below meth cd Q ad D tys base nL as0 k0 s0 hC hW
  obtain ⟨hx, hb⟩ := e_cc hM hq hC
  intro as ws H locs ls ys hS
  obtain ⟨h1, h2, h3, h4, h5, h6, h7⟩ := hS
  subst hnx
  have hsf := hC.2.2.2.2.2.2.1.2.2.2.2.2.2.1
  exact va_gets (A := e_A0 base) hx hb hsf h6 (e_own hM ho hC) (e_wd hC hk rfl) (fun _ h => h) hd (hW as ws H locs ls (.int 127 :: ys) ⟨h1, ⟨⟨by decide, by decide⟩, h2⟩, h3, h4, h5, h6, h7⟩)
theorem s_aldB {nx : Nat} (hq : (e_ml[M]?).map (·.2.1) = some cc) (hd : decode cc pc = .ok (.aaload, 1)) (hnx : nx = pc + 1) : e_Sn M pc (o_aldB nx) := by
  intro g hg F al st w c K hM h
  unfold o_aldB at h
  split at h
  · next i k r =>
    cases hbc : (Nat.beq k 260 && Nat.ble 2147483648 i && Nat.blt i 2147483904) with
    | false => rw [hbc, cond_false] at h; cases h
    | true =>
      rw [hbc, cond_true] at h
      obtain ⟨g0, g2⟩ := (Bool.and_eq_true _ _).mp hbc
      obtain ⟨g0, g1⟩ := (Bool.and_eq_true _ _).mp g0
      replace g0 := Nat.eq_of_beq_eq_true g0
      replace g1 := Nat.le_of_ble_eq_true g1
      replace g2 : i < 2147483904 := Nat.le_of_ble_eq_true g2
      subst g0
      replace h := e_fo_t h
      obtain ⟨z, w', c', hK, hok⟩ := hg _ _ _ _ _ _ _ h
      refine ⟨z, w', c', hK, e_step hok ?_⟩
      intro p l e R s m args below meth cd Q ad D tys base nL as0 k0 s0 hC hW
      obtain ⟨hx, hb⟩ := e_cc hM hq hC
      intro as ws H locs ls ys hS
      obtain ⟨h1, h2, h3, h4, h5, h6, h7⟩ := hS
      obtain ⟨y0, ys, rfl, ⟨hi3, rfl⟩, h80⟩ := e_st_cons h2
      obtain ⟨x, ys, rfl, hr, h8⟩ := e_st_cons h80
      cases (show x = .ref (ad 260) from hr)
      subst hnx
      have hT := hC.2.2.2.2.2.2.1.2.2.2.2.2.1
      exact vb_tq (v := .ref (ad (i - 2147483648 + 4))) hx hb hT h6 (e_in hi3 g1 (by omega)) (by rw [e_i_cl hi3 g1]) hd (hW as ws H locs ls _ ⟨h1, ⟨rfl, h8⟩, h3, h4, h5, h6, h7⟩)
  · cases h
theorem s_castB {nx index ci N : Nat} {own : String} {T : u_T} (hq : (e_ml[M]?).map (·.2.1) = some cc) (ho : (e_ml[M]?).map (·.1.cls) = some own) (hl1 : Jvm.Cond.classLink own index "java/lang/Integer" ∈ lw_tbl) (hcl : e_cl[ci]? = some ("java/lang/Integer", T, N)) (hd : decode cc pc = .ok (.checkcast index, 3)) (hnx : nx = pc + 3) : e_Sn M pc (o_castB nx) := by
  intro g hg F al st w c K hM h
  unfold o_castB at h
  split at h
  · next k r =>
    cases hbc : e_isB k with
    | false => rw [hbc, cond_false] at h; cases h
    | true =>
      rw [hbc, cond_true] at h
      obtain ⟨j, rfl, hj⟩ := e_isB_t hbc
      obtain ⟨z, w', c', hK, hok⟩ := hg _ _ _ _ _ _ _ h
      refine ⟨z, w', c', hK, e_step hok ?_⟩
      intro p l e R s m args below meth cd Q ad D tys base nL as0 k0 s0 hC hW
      obtain ⟨hx, hb⟩ := e_cc hM hq hC
      intro as ws H locs ls ys hS
      obtain ⟨h1, h2, h3, h4, h5, h6, h7⟩ := hS
      obtain ⟨x, ys, rfl, hr, h8⟩ := e_st_cons h2
      cases (show x = .ref (ad (j + 4)) from hr)
      subst hnx
      obtain ⟨cell, c1, c2, c3, -⟩ := (hC.2.2.2.2.2.2.1.2.2.2.2.1.1 j hj).kept h6.2.1
      exact va_castS hx hb (e_own hM ho hC) (e_wd hC hl1 rfl) (hC.2.2.2.2.1.1.1 ci _ hcl).2 ⟨cell, c1, c2, c3⟩ hd (hW as ws H locs ls _ ⟨h1, ⟨rfl, h8⟩, h3, h4, h5, h6, h7⟩)
  · cases h
theorem e_vbc {j : Nat} (hj : j < 256) : vb_c j = e_i (j + 4 + 2147483516) := by
  apply e_i_eq (by omega)
  unfold vb_c
  rw [Int32.toInt_sub, Int32.toInt_ofNat_of_lt (by omega)]
  have h128 : (128 : Int32).toInt = 128 := rfl
  rw [h128, Int.bmod_eq_of_le_mul_two] <;> omega
theorem s_getB {nx index : Nat} {own : String} (hq : (e_ml[M]?).map (·.2.1) = some cc) (ho : (e_ml[M]?).map (·.1.cls) = some own) (hk : Jvm.Cond.fieldLink own index "java/lang/Integer" "value" "I" ∈ lw_tbl) (hd : decode cc pc = .ok (.getfield index, 3)) (hnx : nx = pc + 3) : e_Sn M pc (o_getB nx) := by
  intro g hg F al st w c K hM h
  unfold o_getB at h
  split at h
  · next k r =>
    cases hbc : e_isB k with
    | false => rw [hbc, cond_false] at h; cases h
    | true =>
      rw [hbc, cond_true] at h
      obtain ⟨j, rfl, hj⟩ := e_isB_t hbc
      replace h := e_fo_t h
      obtain ⟨z, w', c', hK, hok⟩ := hg _ _ _ _ _ _ _ h
      refine ⟨z, w', c', hK, e_step hok ?_⟩
      intro p l e R s m args below meth cd Q ad D tys base nL as0 k0 s0 hC hW
      obtain ⟨hx, hb⟩ := e_cc hM hq hC
      intro as ws H locs ls ys hS
      obtain ⟨h1, h2, h3, h4, h5, h6, h7⟩ := hS
      obtain ⟨x, ys, rfl, hr, h8⟩ := e_st_cons h2
      cases (show x = .ref (ad (j + 4)) from hr)
      subst hnx
      exact va_getX (i := j) (v := fun k => .int (vb_c k)) (ad := fun k => ad (k + 4)) hx hb hC.2.2.2.2.2.2.1.2.2.2.2.1.2 hj h6 (e_own hM ho hC) (e_wd hC hk rfl) (fun _ h => h) hd (hW as ws H locs ls _ ⟨h1, ⟨⟨by omega, by rw [e_vbc hj]⟩, h8⟩, h3, h4, h5, h6, h7⟩)
  · cases h
theorem s_ldcM {nx index : Nat} {own : String} (hq : (e_ml[M]?).map (·.2.1) = some cc) (ho : (e_ml[M]?).map (·.1.cls) = some own) (hk : Jvm.Cond.classLink own index "[Ljava/lang/Object;" ∈ lw_tbl) (hd : decode cc pc = .ok (.ldc index, 2)) (hnx : nx = pc + 2) : e_Sn M pc (o_push (e_B 261) nx) := by
  intro g hg F al st w c K hM h
  replace h : g F nx al (e_B 261 :: st) w c K = true := h
  obtain ⟨z, w', c', hK, hok⟩ := hg _ _ _ _ _ _ _ h
  refine ⟨z, w', c', hK, e_step hok ?_⟩
  intro p l e R s m args below meth cd Q ad D tys base nL as0 k0 s0 hC hW
  obtain ⟨hx, hb⟩ := e_cc hM hq hC
  intro as ws H locs ls ys hS
  obtain ⟨h1, h2, h3, h4, h5, h6, h7⟩ := hS
  subst hnx
  exact va_ldcM hx hb (e_own hM ho hC) (e_wd hC hk rfl) hC.2.2.2.2.2.2.1.2.2.2.2.2.2.2 hd (hW as ws H locs ls _ ⟨h1, ⟨rfl, h2⟩, h3, h4, h5, h6, h7⟩)
theorem s_getC {nx index : Nat} {own : String} (hkt : e_kt[3]? = some (.object "java/lang/Object")) (hq : (e_ml[M]?).map (·.2.1) = some cc) (ho : (e_ml[M]?).map (·.1.cls) = some own) (hl : Jvm.Cond.methodLink own index ⟨"java/lang/Object", "getClass", "()Ljava/lang/Class;"⟩ ∈ lw_tbl) (hdl : Jvm.Cond.declares ⟨"java/lang/Object", "getClass", "()Ljava/lang/Class;"⟩ ∈ lw_tbl) (hsl : Jvm.Cond.selects "[Ljava/lang/Object;" ⟨"java/lang/Object", "getClass", "()Ljava/lang/Class;"⟩ ⟨"java/lang/Object", "getClass", "()Ljava/lang/Class;"⟩ ∈ lw_tbl) (hin : Jvm.Cond.instanceMethod ⟨"java/lang/Object", "getClass", "()Ljava/lang/Class;"⟩ ∈ lw_tbl) (hna : Jvm.Cond.native ⟨"java/lang/Object", "getClass", "()Ljava/lang/Class;"⟩ ∈ lw_tbl) (hd : decode cc pc = .ok (.invokevirtual index, 3)) (hnx : nx = pc + 3) : e_Sn M pc (o_getC nx) := by
  intro g hg F al st w c K hM h
  unfold o_getC at h
  split at h
  · next q r =>
    cases hbc : (Nat.beq (e_cod (e_tget 9 w q)) 103 && Nat.blt 0 F.2.1 && Nat.ble 30 F.2.2.1 && Nat.ble (e_stw r) 8) with
    | false => rw [hbc, cond_false] at h; cases h
    | true =>
      rw [hbc, cond_true] at h
      obtain ⟨hbc, g4⟩ := (Bool.and_eq_true _ _).mp hbc
      obtain ⟨hbc, g3⟩ := (Bool.and_eq_true _ _).mp hbc
      obtain ⟨g1, g2⟩ := (Bool.and_eq_true _ _).mp hbc
      replace g1 := Nat.eq_of_beq_eq_true g1
      replace g2 : 0 < F.2.1 := Nat.le_of_ble_eq_true g2
      replace g3 := Nat.le_of_ble_eq_true g3
      replace g4 := Nat.le_of_ble_eq_true g4
      obtain ⟨z, w', c', hK, hok⟩ := hg _ _ _ _ _ _ _ h
      refine ⟨z, w', c', hK, e_stepR hok ?_⟩
      intro p l e R s m args below meth cd Q ad D tys base nL as0 k0 s0 hC hf hlo hW
      obtain ⟨hx, hb⟩ := e_cc hM hq hC
      intro as ws H locs ls ys hS
      obtain ⟨h1, h2, h3, h4, h5, h6, h7⟩ := hS
      obtain ⟨x, ys, rfl, hr, h8⟩ := e_st_cons h2
      obtain ⟨a, ha, rfl⟩ := e_ref hr
      obtain ⟨e', he, hent⟩ := e_wk_at h3 ha
      subst hnx
      have hsz : cd.maxLocals = ls.size := (h1.2.choose_spec.1.1.trans (by obtain ⟨-, -, -, -, -, -, -, q9, -, -, r3, -⟩ := hC; exact r3.symm)).symm
      have hcellC : ∃ cell : Cell, H[a]? = some cell ∧ cell.vm.isStatics = false ∧ s.vm.findClass "[Ljava/lang/Object;" = some cell.cls := by
        generalize e_tget 9 w q = xx at hent g1
        cases xx with
        | inl o1 =>
          obtain ⟨ci, fs⟩ := o1
          cases e' with
          | inl z => exact hent.elim
          | inr o2 =>
            obtain ⟨cj, vs⟩ := o2
            obtain ⟨rfl, -, -⟩ := hent
            obtain ⟨r9, q1, -⟩ := h4 q _ he
            have := (List.getElem?_eq_some_iff.mp q1).1
            have h100 : e_cl.length ≤ 100 := by decide
            have g9 : ci = 103 := g1
            omega
        | inr o1 =>
          obtain ⟨t2, rs2⟩ := o1
          have g9 : 100 + t2 = 103 := g1
          obtain rfl : t2 = 3 := by omega
          cases e' with
          | inr z => exact hent.elim
          | inl o2 =>
            obtain ⟨cB, nB, fB⟩ := o2
            obtain ⟨⟨tyB, htyB⟩, -, -, -⟩ := hent
            obtain rfl : tyB = .object "java/lang/Object" := Option.some.inj ((e_kt_at hC.2.2.2.2.1 htyB).symm.trans hkt)
            obtain ⟨_, _, _, _, _, q9⟩ := (hC.2.2.2.2.1.1.2 3 _ htyB).2
            have hcell := h4 q _ he
            unfold va_at at hcell
            dsimp only at hcell
            refine ⟨_, hcell, ?_, ?_⟩
            · unfold vp_cell; split <;> rfl
            · rw [show ("[Ljava/lang/Object;" : String) = "[" ++ (FieldType.object "java/lang/Object").toString by decide +kernel, q9]
              unfold vp_cell; split <;> rfl
      refine va_getC hx hb hsz (e_own hM ho hC) (e_wd hC hl rfl) ((hC.2.2.2.2.1.2.2.1 _ (List.mem_filter.mpr ⟨hdl, rfl⟩)).use rfl) (e_wd hC hsl rfl) (e_wd hC hin rfl) (e_wd hC hna rfl) hC.2.2.2.2.2.2.1.2.2.2.2.2.2.2 hcellC (by omega) (by rw [e_stw_t h8]; omega) hd (hW as ws H locs ls _ ⟨h1, ⟨rfl, h8⟩, h3, h4, h5, h6, h7⟩)
  · cases h
theorem s_callB {y mm n nx index : Nat} {own C : String} {yn : MethodName} {yb : ByteArray} {rt : Option FieldType} (hq : (e_ml[M]?).map (·.2.1) = some cc) (ho : (e_ml[M]?).map (·.1.cls) = some own) (hy : e_ml[y]? = some (yn, yb, mm, rt)) (hplain : plainName yn.cls = true) (hcode : Jvm.Cond.code yn yb mm rt ∈ lw_tbl) (hini : Jvm.Cond.initialized yn.cls ∈ lw_tbl) (hdn : yn.cls ≠ "java/lang/invoke/MethodHandle" ∧ yn.cls ≠ "java/lang/invoke/VarHandle" ∧ (parseMethodDescriptor yn.desc).map (fun d => d.parameters.length) = some n) (hlink : Jvm.Cond.methodLink own index yn ∈ lw_tbl) (hinst : Jvm.Cond.instanceMethod yn ∈ lw_tbl) (hsel : Jvm.Cond.selects C yn yn ∈ lw_tbl) (hCI : C = "java/lang/Integer") (hd : decode cc pc = .ok (.invokevirtual index, 3)) (hnx : nx = pc + 3) : e_Sn M pc (o_callB y mm (n + 1) nx) := by
  intro g hg F al st w c K hM h
  unfold o_callB at h
  obtain ⟨t, r, hst9, ht0, h9⟩ := e_args_t h
  clear h
  have h := h9
  clear h9
  subst hst9
  rw [List.append_nil] at h
  split at h
  · next kB t0 htr =>
    cases hbc9 : e_isB kB with
    | false => rw [hbc9, cond_false] at h; cases h
    | true =>
        rw [hbc9, cond_true] at h
        obtain ⟨j9, rfl, hj9⟩ := e_isB_t hbc9
        obtain ⟨la, z1, w1, c1, hfr, hlo, hst8, hlal, hla, hok1, hres⟩ := e_go_t hg h
        rcases z1 with (_ | v) | E
        · obtain ⟨z2, w2, c2, hK2, hok2⟩ := hg _ _ _ _ _ _ _ hres
          refine ⟨z2, w2, c2, hK2, Nat.le_trans hok1.1 hok2.1, Nat.le_trans hok1.2.1 hok2.2.1, Nat.le_trans hok1.2.2.1 hok2.2.2.1, ?_⟩
          intro p l e R s m args below meth cd Q ad D tys base nL as0 k0 s0 hC hf hl hk hs hc hsl hE
          have hok1' := hok1
          obtain ⟨b1, b2, b3, -⟩ := hok1'
          have hWG := hok2.2.2.2 p l e R s m args below meth cd Q ad D tys base nL as0 k0 s0 hC hf hl (by omega) (by omega) hc hsl hE
          obtain ⟨hx, hb⟩ := e_cc hM hq hC
          have d2 := hok2.2.1
          have d3 := hok2.2.2.1
          intro as ws H locs ls ys hS
          obtain ⟨h1, h2, h3, h4, h5, h6, h7⟩ := hS
          obtain ⟨tc, rc, rfl, ht1, ht2, ht3⟩ := e_st_app h2
          have hrv := e_st_rev ht2
          rw [htr] at hrv
          obtain ⟨x0, tc0, htc0, hrel0, hst0⟩ := e_st_cons hrv
          obtain ⟨b0, hb0, rfl⟩ : ∃ b0, b0 = ad (j9 + 4) ∧ x0 = .ref b0 := ⟨_, rfl, hrel0⟩
          have htc : tc = tc0.reverse ++ [.ref b0] := by rw [← List.reverse_reverse tc, htc0, List.reverse_cons]
          have hlen0 : tc0.length = n := by
            have e1 := congrArg List.length htc
            simp [ht1, ht0] at e1
            omega
          have hwd : (rc.map fun v => v.category).sum ≤ 8 := by rw [e_stw_t ht3]; exact hst8
          have hM9 := e_met (ad := ad) (D := D) (tys := tys) (base := base) (as0 := as) (ws0 := ws) (l := l) hok1 hy hplain hC.1 hlal hla h3 h5
          have hpre : ∀ U : State, U.heap = H → s.WarmedH U.vm → e_Pc (y, F.2.1 - 1, F.2.2.1 - (mm + 19), F.2.2.2) ad D tys base as ws (e_B (j9 + 4) :: t0) (Value.ref b0 :: tc0).toArray U := fun U hU hW => ⟨Value.ref b0 :: tc0, rfl, ⟨hrel0, hst0⟩, by rw [hU]; exact h4, by rw [hU]; exact Nat.le_trans hC.2.2.2.2.2.1 h6.1, e_Kx_warm hW hC.2.2.2.2.1, by
            rw [hU]
            exact e_sf_moved hW.alike (fun q hq hA => h6.2.1 q hq hA) (e_sf_F rfl hC.2.2.2.2.2.2.1)⟩
          rw [htr] at hM9
          have hrun := va_runV (e := e) (below := below) (meth := meth) (C := C) (As := tc0) (b := b0) (rest := rc) (Ts := e_ws) (own := own) (H := H) (locs := locs) (cells := c.2.1 - k0) (slots := c.2.2 - s0) (g := F0 m pc ls (tc ++ rc)) ⟨hx, hb, rfl, e_own hM ho hC, hC.2.2.2.1⟩ hM9 ⟨callB_of n hC.2.2.2.1 (e_good hcode) rfl rfl rfl (e_wd hC hini rfl) (e_wd hC hlink rfl) hdn ⟨by show F.2.1 - 1 + 1 ≤ R.frames; omega, by show 8 + (mm + 11) + (F.2.2.1 - (mm + 19)) ≤ R.locals; omega⟩, e_wd hC hinst rfl, e_wd hC hsel rfl⟩ ⟨e_Pc_blind, (by subst hCI; rw [hb0]; obtain ⟨cell, c1, c2, c3, -⟩ := (hC.2.2.2.2.2.2.1.2.2.2.2.1.1 j9 hj9).kept h6.2.1; exact ⟨cell, c1, c2, c3⟩), hpre⟩ rfl hlen0 (h1.2.choose_spec.1.1.trans (by obtain ⟨-, -, -, -, -, -, -, q9, -, -, r3, -⟩ := hC; exact r3.symm)) (by rw [htc]; simp) (lv_room hwd) hd ⟨by omega, by omega⟩
          refine e_runW hrun h6 (fun as1 ws1 H1 locs1 xo q1 q2 q3 q4 q5 q6 => ?_)
          have hfin := hWG as1 ws1 H1 locs1 ls (xo ++ rc) ⟨e_lo_mono h1 q1, by cases q6; exact e_st_mono q1 ht3, q2, q3, q4, q5, List.IsPrefix.trans h7 q1⟩
          subst hnx
          rw [show c.2.1 - k0 + (c1.2.1 - c.2.1) = c1.2.1 - k0 by omega, show c.2.2 - s0 + (c1.2.2 - c.2.2) = c1.2.2 - s0 by omega]
          exact hfin
        · obtain ⟨z2, w2, c2, hK2, hok2⟩ := hg _ _ _ _ _ _ _ hres
          refine ⟨z2, w2, c2, hK2, Nat.le_trans hok1.1 hok2.1, Nat.le_trans hok1.2.1 hok2.2.1, Nat.le_trans hok1.2.2.1 hok2.2.2.1, ?_⟩
          intro p l e R s m args below meth cd Q ad D tys base nL as0 k0 s0 hC hf hl hk hs hc hsl hE
          have hok1' := hok1
          obtain ⟨b1, b2, b3, -⟩ := hok1'
          have hWG := hok2.2.2.2 p l e R s m args below meth cd Q ad D tys base nL as0 k0 s0 hC hf hl (by omega) (by omega) hc hsl hE
          obtain ⟨hx, hb⟩ := e_cc hM hq hC
          have d2 := hok2.2.1
          have d3 := hok2.2.2.1
          intro as ws H locs ls ys hS
          obtain ⟨h1, h2, h3, h4, h5, h6, h7⟩ := hS
          obtain ⟨tc, rc, rfl, ht1, ht2, ht3⟩ := e_st_app h2
          have hrv := e_st_rev ht2
          rw [htr] at hrv
          obtain ⟨x0, tc0, htc0, hrel0, hst0⟩ := e_st_cons hrv
          obtain ⟨b0, hb0, rfl⟩ : ∃ b0, b0 = ad (j9 + 4) ∧ x0 = .ref b0 := ⟨_, rfl, hrel0⟩
          have htc : tc = tc0.reverse ++ [.ref b0] := by rw [← List.reverse_reverse tc, htc0, List.reverse_cons]
          have hlen0 : tc0.length = n := by
            have e1 := congrArg List.length htc
            simp [ht1, ht0] at e1
            omega
          have hwd : (rc.map fun v => v.category).sum ≤ 8 := by rw [e_stw_t ht3]; exact hst8
          have hM9 := e_met (ad := ad) (D := D) (tys := tys) (base := base) (as0 := as) (ws0 := ws) (l := l) hok1 hy hplain hC.1 hlal hla h3 h5
          have hpre : ∀ U : State, U.heap = H → s.WarmedH U.vm → e_Pc (y, F.2.1 - 1, F.2.2.1 - (mm + 19), F.2.2.2) ad D tys base as ws (e_B (j9 + 4) :: t0) (Value.ref b0 :: tc0).toArray U := fun U hU hW => ⟨Value.ref b0 :: tc0, rfl, ⟨hrel0, hst0⟩, by rw [hU]; exact h4, by rw [hU]; exact Nat.le_trans hC.2.2.2.2.2.1 h6.1, e_Kx_warm hW hC.2.2.2.2.1, by
            rw [hU]
            exact e_sf_moved hW.alike (fun q hq hA => h6.2.1 q hq hA) (e_sf_F rfl hC.2.2.2.2.2.2.1)⟩
          rw [htr] at hM9
          have hrun := va_runV (e := e) (below := below) (meth := meth) (C := C) (As := tc0) (b := b0) (rest := rc) (Ts := e_ws) (own := own) (H := H) (locs := locs) (cells := c.2.1 - k0) (slots := c.2.2 - s0) (g := F0 m pc ls (tc ++ rc)) ⟨hx, hb, rfl, e_own hM ho hC, hC.2.2.2.1⟩ hM9 ⟨callB_of n hC.2.2.2.1 (e_good hcode) rfl rfl rfl (e_wd hC hini rfl) (e_wd hC hlink rfl) hdn ⟨by show F.2.1 - 1 + 1 ≤ R.frames; omega, by show 8 + (mm + 11) + (F.2.2.1 - (mm + 19)) ≤ R.locals; omega⟩, e_wd hC hinst rfl, e_wd hC hsel rfl⟩ ⟨e_Pc_blind, (by subst hCI; rw [hb0]; obtain ⟨cell, c1, c2, c3, -⟩ := (hC.2.2.2.2.2.2.1.2.2.2.2.1.1 j9 hj9).kept h6.2.1; exact ⟨cell, c1, c2, c3⟩), hpre⟩ rfl hlen0 (h1.2.choose_spec.1.1.trans (by obtain ⟨-, -, -, -, -, -, -, q9, -, -, r3, -⟩ := hC; exact r3.symm)) (by rw [htc]; simp) (lv_room hwd) hd ⟨by omega, by omega⟩
          refine e_runW hrun h6 (fun as1 ws1 H1 locs1 xo q1 q2 q3 q4 q5 q6 => ?_)
          have hfin := hWG as1 ws1 H1 locs1 ls (xo ++ rc) ⟨e_lo_mono h1 q1, by obtain ⟨x, rfl, hx9⟩ := q6; exact ⟨hx9, e_st_mono q1 ht3⟩, q2, q3, q4, q5, List.IsPrefix.trans h7 q1⟩
          subst hnx
          rw [show c.2.1 - k0 + (c1.2.1 - c.2.1) = c1.2.1 - k0 by omega, show c.2.2 - s0 + (c1.2.2 - c.2.2) = c1.2.2 - s0 by omega]
          exact hfin
        · cases hres
  · cases h

theorem e_ofWF {l : Launch} {y : MethodName} {ws ws' : List Cond} {rm : Room} {Pc : Array Value → State → Prop} {Qc : Array Value → State → Outcome → State → Prop} {mc ms : Nat} {free : Addr → Prop} {cc : ByteArray} {maxL : Nat} {ret : Option FieldType}
    (hy : plainFor y = true) (hw : ws = Jvm.Cond.code y cc maxL ret :: ws')
    (body : ∀ p e s m args below meth c s₁, BodyLoose p l y (headSpec ws rm) cc maxL ret e s m args below meth c s₁ → c.maxLocals = maxL → Pc args s →
      W p l e (headSpec ws rm).room s m args below meth c s.heap [] 0 0 (MQ below Qc args s mc ms free) (entryFrame m args maxL)) : Met l y ws rm Pc Qc mc ms free := by
  refine MetFree.of_bodySF (code := cc) (maxLocals := maxL) (ret := ret) hy ?_ ?_
  · intro args s m h hn
    obtain ⟨meth, c, h1, h2, h3, h4, h5, h6, -, -⟩ := Cond.code_spec hn (atoms_spec (ws := ws) h _ (by rw [hw]; exact List.mem_cons_self))
    exact ⟨meth, c, h1, h2, h3, h4, h5, h6⟩
  · intro p e s m args below meth c s₁ B hml hP _
    have hh0 : s₁.heap = s.heap := by rw [B.state]; rfl
    obtain ⟨t, a1, o, b1, b2, b3⟩ := body p e s m args below meth c s₁ B hml hP s₁ hh0 (Stand.of_body B)
    exact ⟨t, o, a1, b1, b2, ⟨b3.1, b3.2⟩⟩
theorem e_metF {F : e_F} {la : e_A} {vs : List e_V} {w w' : e_W} {c c' : e_Q} {ov : Option e_V} {y : MethodName} {b : ByteArray} {mL : Nat} {rt : Option FieldType} {ad : Nat → Nat} {D : va_G} {tys : List (ClassId × FieldType)} {base : Nat} {as0 : List Nat} {ws0 : va_W} {l : Launch} (hok : e_Ok F 0 la [] w c (.inl ov) w' c') (hq : e_ml[F.1]? = some (y, b, mL, rt)) (hy : plainFor y = true) (hfl : l.flags = flags0)
    (hla : la.length = mL) (hla2 : ∀ (ad : Nat → Nat) (az : List Nat) (xs : List Value), e_st ad az vs xs → (lg_sl xs).length ≤ mL ∧ ∀ (o i : Nat) (v : e_V), la[i]? = some (some v) → ∃ x, (o + i, x) ∈ lv_args o xs ∧ e_rel ad az v x)
    (hwk : e_wk ad as0 tys w c.1 ws0) (hD : va_D (e_A0 base) ws0) :
    Met l y (.code y b mL rt :: e_ws) { frames := F.2.1, cells := c'.2.1 - c.2.1, slots := c'.2.2 - c.2.2, locals := F.2.2.1 } (e_Pc F ad D tys base as0 ws0 vs) (e_Qc ad D tys base as0 ov w' c'.1) (c'.2.1 - c.2.1) (c'.2.2 - c.2.2) (e_A0 base) := by
  refine e_ofWF (cc := b) (maxL := mL) (ret := rt) hy rfl ?_
  intro p e s m args below meth cd s₁ B hml hP
  obtain ⟨xs, rfl, hst, hP, hbase, hK, hsf⟩ := hP
  obtain ⟨h1, h2, h3, h4⟩ := hok
  have hlocks := B.notSynchronized
  have hts : ∀ w ∈ e_ws, w.before xs.toArray s = true := fun w hw => atoms_spec (ws := .code y b mL rt :: e_ws) B.pre w (List.mem_cons_of_mem _ hw)
  have hC : e_Cx F p l s m xs.toArray meth cd ad D tys base mL := ⟨hfl, B.exec, hlocks, hts, hK, hbase, hsf, _, hq, B.bytes, hml, rfl, findClass_of_methodNamed B.named, B.returns, (name_of_methodNamed B.named B.method).1, e_et B.method B.named (Stand.of_body B).code hts⟩
  have hent := lv_entry xs (n := mL) (hla2 ad as0 xs hst).1
  rw [lg_entry_eq]
  have hE : e_En p l e (headSpec (.code y b mL rt :: e_ws) { frames := F.2.1, cells := c'.2.1 - c.2.1, slots := c'.2.2 - c.2.2, locals := F.2.2.1 }).room s m xs.toArray below meth cd (MQ below (e_Qc ad D tys base as0 ov w' c'.1) xs.toArray s (c'.2.1 - c.2.1) (c'.2.2 - c.2.2) (e_A0 base)) ad D tys base mL as0 c.2.1 c.2.2 (.inl ov) w' c' := by
    intro as ws H locs hH
    obtain ⟨g1, g2, g3, g4, g5⟩ := hH
    have hF9 : ∀ t : State, t.heap = H → va_F (e_A0 base) s t := fun t ht => ⟨by rw [ht]; exact g4.1, fun q hq hA => by rw [ht]; exact g4.2.1 q hq hA⟩
    cases ov with
    | none => exact fun pc ls hr hd => W.vret B.exec rfl hr (fun t ht hW => ⟨as, ws, g5, g1, by rw [ht]; exact g2, g3, hF9 t ht, rfl⟩) g4.2.2 hd
    | some v =>
      intro pc ls x hx hret
      have hQ : ∀ t : State, t.heap = H → s.WarmedH t.vm → e_Qc ad D tys base as0 (some v) w' c'.1 xs.toArray s (.returned (some x)) t := fun t ht hW => ⟨as, ws, g5, g1, by rw [ht]; exact g2, g3, hF9 t ht, x, rfl, hx⟩
      rcases hret with ⟨⟨z, rfl, hr | ⟨hr, hz⟩⟩, hd⟩ | ⟨⟨z, rfl, hr⟩, hd⟩ | ⟨⟨hx2, rt2, hr, hrt⟩, hd⟩
      · exact W.iret B.exec rfl hr hQ g4.2.2 hd
      · exact W.zret B.exec rfl hr (by rcases hz with rfl | rfl <;> decide) hQ g4.2.2 hd
      · exact W.lret B.exec rfl hr hQ g4.2.2 hd
      · exact W.aret B.exec rfl hr hrt hx2 hQ g4.2.2 hd
  have hWG := h4 p l e _ s m xs.toArray below meth cd _ ad D tys base mL as0 c.2.1 c.2.2 hC (Nat.le_refl _) (Nat.le_refl _) (Nat.le_refl _) (Nat.le_refl _) (Nat.le_refl _) (Nat.le_refl _) hE
  have hfin := hWG as0 ws0 s.heap [] _ [] ⟨⟨hla, _, hent, fun i v hv => by obtain ⟨x, q1, q2⟩ := (hla2 ad as0 xs hst).2 0 i v hv; exact ⟨x, by rw [Nat.zero_add] at q1; exact q1, q2⟩⟩, trivial, hwk, hP, hD, va_S.rf, List.prefix_refl _⟩
  rw [Nat.sub_self, Nat.sub_self] at hfin
  exact hfin

theorem s_callSF {y mm n nx index : Nat} {own : String} {yn : MethodName} {yb : ByteArray} {rt : Option FieldType} (hq : (e_ml[M]?).map (·.2.1) = some cc) (ho : (e_ml[M]?).map (·.1.cls) = some own) (hy : e_ml[y]? = some (yn, yb, mm, rt)) (hplain : plainFor yn = true) (hcode : Jvm.Cond.code yn yb mm rt ∈ lw_tbl) (hini : Jvm.Cond.initialized yn.cls ∈ lw_tbl) (hdn : yn.cls ≠ "java/lang/invoke/MethodHandle" ∧ yn.cls ≠ "java/lang/invoke/VarHandle" ∧ (parseMethodDescriptor yn.desc).map (fun d => d.parameters.length) = some n) (hlink : Jvm.Cond.methodLink own index yn ∈ lw_tbl) (hstat : Jvm.Cond.static yn ∈ lw_tbl) (hd : decode cc pc = .ok (.invokestatic index, 3)) (hnx : nx = pc + 3) : e_Sn M pc (o_callS y mm n nx) := by
  intro g hg F al st w c K hM h
  unfold o_callS at h
  obtain ⟨t, r, rfl, ht0, h⟩ := e_args_t h
  obtain ⟨la, z1, w1, c1, hfr, hlo, hst8, hlal, hla, hok1, hres⟩ := e_go_t hg h
  rw [List.append_nil] at hla
  rcases z1 with (_ | v) | E
  · obtain ⟨z2, w2, c2, hK2, hok2⟩ := hg _ _ _ _ _ _ _ hres
    refine ⟨z2, w2, c2, hK2, Nat.le_trans hok1.1 hok2.1, Nat.le_trans hok1.2.1 hok2.2.1, Nat.le_trans hok1.2.2.1 hok2.2.2.1, ?_⟩
    intro p l e R s m args below meth cd Q ad D tys base nL as0 k0 s0 hC hf hl hk hs hc hsl hE
    have hok1' := hok1
    obtain ⟨b1, b2, b3, -⟩ := hok1'
    have hWG := hok2.2.2.2 p l e R s m args below meth cd Q ad D tys base nL as0 k0 s0 hC hf hl (by omega) (by omega) hc hsl hE
    obtain ⟨hx, hb⟩ := e_cc hM hq hC
    have d2 := hok2.2.1
    have d3 := hok2.2.2.1
    intro as ws H locs ls ys hS
    obtain ⟨h1, h2, h3, h4, h5, h6, h7⟩ := hS
    obtain ⟨tc, rc, rfl, ht1, ht2, ht3⟩ := e_st_app h2
    have hwd : (rc.map fun v => v.category).sum ≤ 8 := by rw [e_stw_t ht3]; exact hst8
    have hM9 := e_metF (ad := ad) (D := D) (tys := tys) (base := base) (as0 := as) (ws0 := ws) (l := l) hok1 hy hplain hC.1 hlal hla h3 h5
    have hpre : ∀ U : State, U.heap = H → s.WarmedH U.vm → e_Pc (y, F.2.1 - 1, F.2.2.1 - (mm + 19), F.2.2.2) ad D tys base as ws t.reverse (tc.reverse).toArray U := fun U hU hW => ⟨tc.reverse, rfl, e_st_rev ht2, by rw [hU]; exact h4, by rw [hU]; exact Nat.le_trans hC.2.2.2.2.2.1 h6.1, e_Kx_warm hW hC.2.2.2.2.1, by
      rw [hU]
      exact e_sf_moved hW.alike (fun q hq hA => h6.2.1 q hq hA) (e_sf_F rfl hC.2.2.2.2.2.2.1)⟩
    have hrun := va_runS (e := e) (below := below) (meth := meth) (As := tc.reverse) (rest := rc) (Ts := e_ws) (own := own) (H := H) (locs := locs) (cells := c.2.1 - k0) (slots := c.2.2 - s0) (g := F0 m pc ls (tc ++ rc)) ⟨hx, hb, rfl, e_own hM ho hC, hC.2.2.2.1⟩ hM9 ⟨callB_of n hC.2.2.2.1 (e_good hcode) rfl rfl rfl (e_wd hC hini rfl) (e_wd hC hlink rfl) hdn ⟨by show F.2.1 - 1 + 1 ≤ R.frames; omega, by show 8 + (mm + 11) + (F.2.2.1 - (mm + 19)) ≤ R.locals; omega⟩, e_wd hC hstat rfl⟩ ⟨e_Pc_blind, hpre⟩ rfl (by simp [ht1, ht0]) (h1.2.choose_spec.1.1.trans (by obtain ⟨-, -, -, -, -, -, -, q9, -, -, r3, -⟩ := hC; exact r3.symm)) (by simp) (lv_room hwd) hd ⟨by omega, by omega⟩
    refine e_runW hrun h6 (fun as1 ws1 H1 locs1 xo q1 q2 q3 q4 q5 q6 => ?_)
    have hfin := hWG as1 ws1 H1 locs1 ls (xo ++ rc) ⟨e_lo_mono h1 q1, by cases q6; exact e_st_mono q1 ht3, q2, q3, q4, q5, List.IsPrefix.trans h7 q1⟩
    subst hnx
    rw [show c.2.1 - k0 + (c1.2.1 - c.2.1) = c1.2.1 - k0 by omega, show c.2.2 - s0 + (c1.2.2 - c.2.2) = c1.2.2 - s0 by omega]
    exact hfin
  · obtain ⟨z2, w2, c2, hK2, hok2⟩ := hg _ _ _ _ _ _ _ hres
    refine ⟨z2, w2, c2, hK2, Nat.le_trans hok1.1 hok2.1, Nat.le_trans hok1.2.1 hok2.2.1, Nat.le_trans hok1.2.2.1 hok2.2.2.1, ?_⟩
    intro p l e R s m args below meth cd Q ad D tys base nL as0 k0 s0 hC hf hl hk hs hc hsl hE
    have hok1' := hok1
    obtain ⟨b1, b2, b3, -⟩ := hok1'
    have hWG := hok2.2.2.2 p l e R s m args below meth cd Q ad D tys base nL as0 k0 s0 hC hf hl (by omega) (by omega) hc hsl hE
    obtain ⟨hx, hb⟩ := e_cc hM hq hC
    have d2 := hok2.2.1
    have d3 := hok2.2.2.1
    intro as ws H locs ls ys hS
    obtain ⟨h1, h2, h3, h4, h5, h6, h7⟩ := hS
    obtain ⟨tc, rc, rfl, ht1, ht2, ht3⟩ := e_st_app h2
    have hwd : (rc.map fun v => v.category).sum ≤ 8 := by rw [e_stw_t ht3]; exact hst8
    have hM9 := e_metF (ad := ad) (D := D) (tys := tys) (base := base) (as0 := as) (ws0 := ws) (l := l) hok1 hy hplain hC.1 hlal hla h3 h5
    have hpre : ∀ U : State, U.heap = H → s.WarmedH U.vm → e_Pc (y, F.2.1 - 1, F.2.2.1 - (mm + 19), F.2.2.2) ad D tys base as ws t.reverse (tc.reverse).toArray U := fun U hU hW => ⟨tc.reverse, rfl, e_st_rev ht2, by rw [hU]; exact h4, by rw [hU]; exact Nat.le_trans hC.2.2.2.2.2.1 h6.1, e_Kx_warm hW hC.2.2.2.2.1, by
      rw [hU]
      exact e_sf_moved hW.alike (fun q hq hA => h6.2.1 q hq hA) (e_sf_F rfl hC.2.2.2.2.2.2.1)⟩
    have hrun := va_runS (e := e) (below := below) (meth := meth) (As := tc.reverse) (rest := rc) (Ts := e_ws) (own := own) (H := H) (locs := locs) (cells := c.2.1 - k0) (slots := c.2.2 - s0) (g := F0 m pc ls (tc ++ rc)) ⟨hx, hb, rfl, e_own hM ho hC, hC.2.2.2.1⟩ hM9 ⟨callB_of n hC.2.2.2.1 (e_good hcode) rfl rfl rfl (e_wd hC hini rfl) (e_wd hC hlink rfl) hdn ⟨by show F.2.1 - 1 + 1 ≤ R.frames; omega, by show 8 + (mm + 11) + (F.2.2.1 - (mm + 19)) ≤ R.locals; omega⟩, e_wd hC hstat rfl⟩ ⟨e_Pc_blind, hpre⟩ rfl (by simp [ht1, ht0]) (h1.2.choose_spec.1.1.trans (by obtain ⟨-, -, -, -, -, -, -, q9, -, -, r3, -⟩ := hC; exact r3.symm)) (by simp) (lv_room hwd) hd ⟨by omega, by omega⟩
    refine e_runW hrun h6 (fun as1 ws1 H1 locs1 xo q1 q2 q3 q4 q5 q6 => ?_)
    have hfin := hWG as1 ws1 H1 locs1 ls (xo ++ rc) ⟨e_lo_mono h1 q1, by obtain ⟨x, rfl, hx9⟩ := q6; exact ⟨hx9, e_st_mono q1 ht3⟩, q2, q3, q4, q5, List.IsPrefix.trans h7 q1⟩
    subst hnx
    rw [show c.2.1 - k0 + (c1.2.1 - c.2.1) = c1.2.1 - k0 by omega, show c.2.2 - s0 + (c1.2.2 - c.2.2) = c1.2.2 - s0 by omega]
    exact hfin
  · cases hres


theorem s_getfN {nx index ci k : Nat} {own ref host C : String} {T : u_T} {N : Nat} (hq : (e_ml[M]?).map (·.2.1) = some cc) (ho : (e_ml[M]?).map (·.1.cls) = some own) (hf : e_cl[ci]? = some (C, T, N) ∧ k < N ∧ (∀ w ∈ u_ws C T N, w ∈ lw_tbl) ∧ Jvm.Cond.fieldLinkNest own index ref (T k).2.1 (T k).2.2.1 host ∈ lw_tbl ∧ (T k).1 = ref) (hd : decode cc pc = .ok (.getfield index, 3)) (hnx : nx = pc + 3) : e_Sn M pc (o_getf (e_f1 ci k) nx) := by
  intro g hg F al st w c K hM h
  unfold o_getf at h
  split at h
  · next q r =>
      split at h
      · next cj fs hc =>
        split at h
        · next i hi =>
          split at h
          · next v hv =>
            have e1 : cj = ci ∧ i = k := by
              unfold e_f1 at hi
              cases hb9 : Nat.beq cj ci with
              | false => rw [hb9, cond_false] at hi; cases hi
              | true => rw [hb9, cond_true] at hi; exact ⟨Nat.eq_of_beq_eq_true hb9, (Option.some.inj hi).symm⟩
            obtain ⟨rfl, rfl⟩ := e1
            obtain ⟨z, w', c', hK, hok⟩ := hg _ _ _ _ _ _ _ h
            refine ⟨z, w', c', hK, e_step hok ?_⟩
            intro p l e R s m args below meth cd Q ad D tys base nL as0 k0 s0 hC hW
            obtain ⟨hx, hb⟩ := e_cc hM hq hC
            intro as ws H locs ls ys hS
            obtain ⟨h1, h2, h3, h4, h5, h6, h7⟩ := hS
            obtain ⟨x, ys, rfl, hr, h8⟩ := e_st_cons h2
            obtain ⟨a, ha, rfl⟩ := e_ref hr
            obtain ⟨e', he, hent⟩ := e_wk_at h3 ha
            rw [hc] at hent
            cases e' with
            | inl z => exact hent.elim
            | inr o =>
              obtain ⟨cj2, vs⟩ := o
              obtain ⟨rfl, hlen, hvs⟩ := hent
              rw [e_nth_eq] at hv
              obtain ⟨y, hy, hry⟩ := hvs i v hv
              subst hnx
              exact va_getN (own := own) (host := host) (Ts := e_ws) hx hb hC.2.2.2.1 (e_uws hf.2.2.1) (e_own hM ho hC) hC.2.2.2.2.1.1 h4 q he hf.1 i hf.2.1 ((hC.2.2.2.2.1.2.2.1 _ (List.mem_filter.mpr ⟨hf.2.2.2.1, rfl⟩)).use rfl) (fun x hx => by rw [← hf.2.2.2.2]; exact hx) hy hd (hW as ws H locs ls (y :: ys) ⟨h1, ⟨hry, h8⟩, h3, h4, h5, h6, h7⟩)
          · cases h
        · cases h
      · cases h
  · cases h

theorem e_aldA {p : Program} {l : Launch} {e : Env} {R : Room} {s : State} {m : MethodId} {args : Array Value} {below : List Frame} {meth : Method} {c : Code} {H : Heap} {locs : List Loc} {cells slots : Nat} {Q : State → Prop} {cc : ByteArray} {pc : Nat} {ls : Array Slot} {rest : List Value} {D : va_G} {cl : List vw_C} {a : Nat} {tys : List (ClassId × FieldType)} {ws : va_W} (hexec : p.tables.exec = Jvm.exec) (hb : c.code = cc) (hK : va_K D cl tys s) (hP : va_P D cl ws H) (q0 t0 : Nat) {cA : ClassId} {E : FieldType} {n : Nat} {f : Nat → Option Nat} (ha : ws[q0]? = some (a, .inl (cA, n, .inr (.inr (.inr (.inr f)))))) (ht : tys[t0]? = some (cA, .array E)) {i : Int32} (hin : vp_in i n) (hdg : decode cc pc = .ok (.aaload, 1))
    (kk : W p l e R s m args below meth c H locs cells slots Q (F0 m (pc + 1) ls (va_rf (f i.toNatClampNeg) :: rest))) : W p l e R s m args below meth c H locs cells slots Q (F0 m pc ls (.int i :: .ref a :: rest)) := by
  have hlt : i.toNatClampNeg < n := Nat.not_le.mp fun q => hin (Or.inr q)
  exact W.aald (v := va_rf (f i.toNatClampNeg)) (ty := .array E) hexec hb (hP q0 _ ha) ((hK.2 t0 _ ht).1 n (fun j => va_rf (f j))) rfl (fun q => by cases q) (by show ¬ (i < 0 ∨ (arrV _ _ _).slots.size ≤ _); rw [arrV_size]; exact hin) (by show (arrV _ _ _).slots[_]? = _; rw [arrV_read _ _ hlt]) rfl rfl hdg kk
theorem s_aaldA {nx : Nat} {tc : Nat} {E : FieldType} (hkt : e_kt[tc + 3]? = some (.array E)) (hq : (e_ml[M]?).map (·.2.1) = some cc) (hd : decode cc pc = .ok (.aaload, 1)) (hnx : nx = pc + 1) : e_Sn M pc (o_aldO (tc + 3) nx) := by
  intro g hg F al st w c K hM h
  unfold o_aldO at h
  split at h
  · next i q r =>
    split at h
    · next l1 h1 t rs hi hc =>
      cases hbc : (Nat.beq t (tc + 3) && Nat.ble 2147483648 l1 && Nat.ble l1 h1) with
      | false => rw [hbc, cond_false] at h; cases h
      | true =>
        rw [hbc, cond_true] at h
        obtain ⟨g0, g2⟩ := (Bool.and_eq_true _ _).mp hbc
        obtain ⟨g0, g1⟩ := (Bool.and_eq_true _ _).mp g0
        replace g0 := Nat.eq_of_beq_eq_true g0
        replace g1 := Nat.le_of_ble_eq_true g1
        replace g2 := Nat.le_of_ble_eq_true g2
        subst g0
        split at h
        · next v hv =>
          obtain ⟨z, w', c', hK, hok⟩ := hg _ _ _ _ _ _ _ h
          refine ⟨z, w', c', hK, e_step hok ?_⟩
          intro p l e R s m args below meth cd Q ad D tys base nL as0 k0 s0 hC hW
          obtain ⟨hx, hb⟩ := e_cc hM hq hC
          intro as ws H locs ls ys hS
          obtain ⟨h1, h2, h3, h4, h5, h6, h7⟩ := hS
          obtain ⟨y0, ys, rfl, hr0, h80⟩ := e_st_cons h2
          obtain ⟨x, ys, rfl, hr, h8⟩ := e_st_cons h80
          obtain ⟨a, ha, rfl⟩ := e_ref hr
          obtain ⟨i9, i1, i2, i3, rfl⟩ := e_rel_rg hr0 hi
          dsimp only at i1 i2
          obtain ⟨e', he, hent⟩ := e_wk_at h3 ha
          rw [hc] at hent
          cases e' with
          | inr z => exact hent.elim
          | inl o =>
            obtain ⟨cA, n, f⟩ := o
            obtain ⟨⟨ty, hty⟩, hn, hn2, harr⟩ := hent
            have hk := e_kt_at hC.2.2.2.2.1 hty
            obtain rfl : ty = .array E := Option.some.inj (hk.symm.trans hkt)
            rcases f with f | f | f | f | f
            · exact harr.elim
            · exact harr.elim
            · exact harr.elim
            · exact harr.elim
            · skip
              have hrel : e_rel ad as v (va_rf (f (i9 - 2147483648))) := harr _ _ (e_rget_t hv (by omega) (i9 - 2147483648) (by omega) (by omega)).1
              obtain ⟨j1, j2⟩ := e_rget_t hv (by omega) (i9 - 2147483648) (by omega) (by omega)
              subst hnx
              exact e_aldA hx hb hC.2.2.2.2.1.1 h4 q _ he hty (e_in i3 (by omega) (by omega)) hd (by rw [e_i_cl i3 (by omega)]; exact hW as ws H locs ls (va_rf (f (i9 - 2147483648)) :: ys) ⟨h1, ⟨hrel, h8⟩, h3, h4, h5, h6, h7⟩)
        · cases h
    · cases h
  · cases h

end SN
end
section
/-! MORE OPERATIONS: rows of rows, stores and copies of boxes, a call of an interface -/
/-- a store of a reference that isn't null -/
noncomputable def e_okT (okc : Nat → Bool) (w : e_W) (v : e_V) : Bool := match v with
  | .inr (.inl (some j)) => okc (e_cod (e_tget 9 w j))
  | _ => false
noncomputable def o_astRN (tc : Nat) (okc : Nat → Bool) (nx : Nat) : e_O := fun g F ls st w c K => match st with
  | v :: .inl i :: .inr (.inl (some q)) :: r => bif e_okT okc w v && Nat.blt q 512 && Nat.ble 2147483648 i then (match e_tget 9 w q with
    | .inr (t, rs) => bif Nat.beq t tc then e_rset v rs (i - 2147483648) (fun rs' => e_tput (.inr (t, rs')) 9 w q (fun w' => g F nx ls r w' c K)) else false
    | _ => false) else false
  | _ => false
section SN
variable {M pc : Nat} {cc : ByteArray}
theorem e_newqA {p : Program} {l : Launch} {e : Env} {R : Room} {s : State} {m : MethodId} {args : Array Value} {below : List Frame} {meth : Method} {c : Code} {H H0 : Heap} {locs : List Loc} {cells slots : Nat} {Q : State → Prop} {cc : ByteArray} {pc : Nat} {ls : Array Slot} {rest : List Value} {D : va_G} {cl : List vw_C} {A : Nat → Prop} {tys : List (ClassId × FieldType)} {ws : va_W} (hexec : p.tables.exec = Jvm.exec) (hb : c.code = cc) {own : String} {index : Nat} {t : FieldType} (hown : s.vm.findClass own = some m.cls) (hclink : (Jvm.Cond.classLink own index (FieldType.array t).toString).before args s = true) (hover : (Jvm.Cond.arrayOver (.array t)).before args s = true) (hK : va_K D cl tys s) (hP : va_P D cl ws H) (hD : va_D A ws) (hS : va_S A H0 H locs) (hA : ∀ q, H0.size ≤ q → A q)
    {n : Int32} {N' : Nat} (hn : ¬ n < 0) (hN : n.toNatClampNeg = N') (hbytes : N' * 4 ≤ 536870912) (hcells : cells + 1 ≤ R.cells) (hslots : slots + N' ≤ R.slots) (hdg : decode cc pc = .ok (.anewarray index, 3))
    (kk : ∀ (q : Nat) (cA : ClassId) (H1 : Heap), va_K D cl (tys ++ [(cA, .array t)]) s → va_P D cl (ws ++ [(q, .inl (cA, N', .inr (.inr (.inr (.inr (fun _ => none))))))]) H1 → va_D A (ws ++ [(q, .inl (cA, N', .inr (.inr (.inr (.inr (fun _ => none))))))]) → va_S A H0 H1 locs →
      W p l e R s m args below meth c H1 locs (cells + 1) (slots + N') Q (F0 m (pc + 3) ls (.ref q :: rest))) : W p l e R s m args below meth c H locs cells slots Q (F0 m pc ls (.int n :: rest)) := by
  subst hN
  refine W.anewA hexec hb hown hclink hover rfl hdg rfl hn hbytes hcells hslots fun cA kA comp f1 f2 f3 f4 => ?_
  generalize hH1 : H.push ({ cls := cA, slots := Array.replicate n.toNatClampNeg .null, vm := .none } : Cell) = H1
  have z1 : H1.size = H.size + 1 := by rw [← hH1, Array.size_push]
  have e1 : H1[H.size]? = some (arrV cA n.toNatClampNeg (fun _ => .null)) := by rw [← hH1, Array.getElem?_push_size, ← arrV_new]
  have o1 : ∀ q : Nat, q < H.size → H1[q]? = H[q]? := fun q hq => by rw [← hH1, Array.getElem?_push, if_neg (Nat.ne_of_lt hq)]
  have hAr : ArrOfT s cA (.array t) := fun N z => ⟨(fun k h => by cases h), kA, f2, comp, f3⟩
  have hk : ∀ (k : Nat) (x : Nat × va_E), ws[k]? = some x → H1[x.1]? = H[x.1]? := fun k x hx => o1 x.1 ((hP k x hx).lt)
  refine kk H.size cA H1 ⟨hK.1, fun k x hx => ?_⟩ ((hP.kept hk).app (fun k x hx => ?_)) (hD.push hP rfl (hA _ hS.1)) ⟨Nat.le_trans hS.1 (by omega), fun x h1 h2 => (o1 x (Nat.lt_of_lt_of_le h1 hS.1)).trans (hS.2.1 x h1 h2), hS.2.2⟩
  · by_cases hl : k < tys.length
    · rw [List.getElem?_append_left hl] at hx
      exact hK.2 k x hx
    · rw [List.getElem?_append_right (by omega)] at hx
      have hz : k - tys.length < 1 := (List.getElem?_eq_some_iff.mp hx).1
      rw [show k - tys.length = 0 by omega] at hx
      cases hx
      exact ⟨hAr, f1⟩
  · have hz : k < 1 := (List.getElem?_eq_some_iff.mp hx).1
    rw [show k = 0 by omega] at hx
    cases hx
    show H1[H.size]? = some (vp_cell _ _)
    rw [vp_cell_q]
    exact e1
theorem e_astqA {p : Program} {l : Launch} {e : Env} {R : Room} {s : State} {m : MethodId} {args : Array Value} {below : List Frame} {meth : Method} {c : Code} {H H0 : Heap} {locs : List Loc} {cells slots : Nat} {Q : State → Prop} {cc : ByteArray} {pc : Nat} {ls : Array Slot} {rest : List Value} {D : va_G} {cl : List vw_C} {A : Nat → Prop} {a : Nat} {ws : va_W} (hexec : p.tables.exec = Jvm.exec) (hb : c.code = cc) (hP : va_P D cl ws H) (hD : va_D A ws) (hS : va_S A H0 H locs) (q0 : Nat) {ty : FieldType} {cA comp : ClassId} {kA kE : Class} {n v : Nat} {f : Nat → Option Nat} (ha : ws[q0]? = some (a, .inl (cA, n, .inr (.inr (.inr (.inr f)))))) (k1 : s.vm.classes[cA]? = some kA) (k2 : kA.kind = .array comp (.array ty)) (hkE : s.vm.classes[comp]? = some kE) (hr : ∃ cellV : Cell, H[v]? = some cellV ∧ cellV.vm.isStatics = false ∧ cellV.cls = comp) {i : Int32} (hin : vp_in i n) (hdg : decode cc pc = .ok (.aastore, 1))
    (kk : ∀ (H1 : Heap) (locs1 : List Loc), va_P D cl (ws.set q0 (a, .inl (cA, n, .inr (.inr (.inr (.inr (va_up f i.toNatClampNeg (some v)))))))) H1 → va_D A (ws.set q0 (a, .inl (cA, n, .inr (.inr (.inr (.inr (va_up f i.toNatClampNeg (some v)))))))) → va_S A H0 H1 locs1 → W p l e R s m args below meth c H1 locs1 cells slots Q (F0 m (pc + 1) ls rest)) : W p l e R s m args below meth c H locs cells slots Q (F0 m pc ls (.ref v :: .int i :: .ref a :: rest)) := by
  have hlt : i.toNatClampNeg < n := Nat.not_le.mp fun q => hin (Or.inr q)
  have h0 : ¬ i < 0 := fun q => hin (Or.inl q)
  obtain ⟨cellV, g1, g3, g4⟩ := hr
  refine W.aast hexec hb (hP q0 _ ha) (fun q h => by cases h) (fun h => by cases h) k1 k2 rfl hkE ⟨h0, by show _ < (arrV _ _ _).slots.size; rw [arrV_size]; exact hlt⟩ g1 (fun q h => by rw [h] at g3; cases g3) (by rw [g4]; exact hkE) (by rw [g4]; exact va_asg _ _) rfl rfl hdg fun H1 e z oq => ?_
  refine kk H1 _ (hP.set hD ha ?_ oq) (hD.set ha) (hS.put z oq (hD.2 q0 _ ha))
  show H1[a]? = some (vp_cell _ _)
  rw [e]
  rw [vp_cell_q, vp_cell_q, arrV_store]
  congr 2
  funext q
  by_cases hq : q = i.toNatClampNeg
  · subst hq
    simp [updV, va_up, va_rf]
  · simp [updV, va_up, hq]
theorem s_newA {nx : Nat} {tc index : Nat} {own : String} {E : FieldType} (hkt : e_kt[tc + 3]? = some (.array E)) (ho : (e_ml[M]?).map (·.1.cls) = some own) (hcl : Jvm.Cond.classLink own index (FieldType.array E).toString ∈ lw_tbl) (hao : Jvm.Cond.arrayOver (.array E) ∈ lw_tbl) (hq : (e_ml[M]?).map (·.2.1) = some cc) (hd : decode cc pc = .ok (.anewarray index, 3)) (hnx : nx = pc + 3) : e_Sn M pc (o_newa (tc + 3) e_N nx) := by
  intro g hg F al st w c K hM h
  unfold o_newa at h
  split at h
  · next m9 r =>
    cases hbc : (Nat.ble 2147483648 m9 && Nat.ble m9 2214592512) with
    | false => rw [hbc, cond_false] at h; cases h
    | true =>
      rw [hbc, cond_true] at h
      obtain ⟨g1, g2⟩ := (Bool.and_eq_true _ _).mp hbc
      replace g1 := Nat.le_of_ble_eq_true g1
      replace g2 := Nat.le_of_ble_eq_true g2
      have key : ∃ rs w1, e_rlen rs = m9 - 2147483648 ∧ (∀ j v, e_rat rs j = some v → v = e_N) ∧ g F nx al (.inr (.inl (some c.1)) :: r) w1 (c.1 + 1, c.2.1 + 1, c.2.2 + (m9 - 2147483648)) K = true ∧ c.1 < 512 ∧ ∀ j, j < 2 ^ 9 → e_tget 9 w1 j = if j = c.1 then .inr ((tc + 3), rs) else e_tget 9 w j := by
        generalize hN : m9 - 2147483648 = N at h
        cases N with
        | zero =>
          obtain ⟨w1, h, hn, hw1⟩ := e_push_t h
          exact ⟨[], w1, rfl, (fun j v hv => by cases hv), h, hn, hw1⟩
        | succ N =>
          obtain ⟨w1, h, hn, hw1⟩ := e_push_t h
          refine ⟨[(N + 1, e_N)], w1, rfl, fun j v hv => ?_, h, hn, hw1⟩
          rw [e_rat_cons] at hv
          split at hv
          · exact (Option.some.inj hv).symm
          · cases hv
      obtain ⟨rs, w1, hrl, hrv, h, hn, hw1⟩ := key
      obtain ⟨z, w', c', hK, hok⟩ := hg _ _ _ _ _ _ _ h
      refine ⟨z, w', c', hK, e_stepN hok (by dsimp only; omega) (by dsimp only; omega) (by dsimp only; omega) ?_⟩
      intro p l e R s m args below meth cd Q ad D tys base nL as0 k0 s0 hC hk0 hs0 hc hsl hW
      obtain ⟨hx, hb⟩ := e_cc hM hq hC
      intro as ws H locs ls ys hS
      obtain ⟨h1, h2, h3, h4, h5, h6, h7⟩ := hS
      obtain ⟨x0, ys, rfl, ⟨hm3, rfl⟩, h8⟩ := e_st_cons h2
      dsimp only at hc hsl hW
      subst hnx
      have hq : as.length = c.1 := by rw [← h3.1, List.length_map, h3.2.1]
      obtain ⟨N, hN⟩ : ∃ N, N = m9 - 2147483648 := ⟨_, rfl⟩
      rw [← hN] at hsl
      refine e_newqA (N' := N) hx hb (e_own hM ho hC) (e_wd hC hcl rfl) (over_moved (Vm.Alike.refl _) (hC.2.2.2.2.1.2.2.1 _ (List.mem_filter.mpr ⟨hao, rfl⟩))) hC.2.2.2.2.1.1 h4 h5 h6 (fun q hq => Nat.le_trans hC.2.2.2.2.2.1 hq) (e_i_neg hm3 g1) (by rw [e_i_cl hm3 g1, hN]) (by omega) (by omega) (by omega) hd (fun q cA H1 pK p1 p2 p3 => ?_)
      have hmono : as <+: as ++ [q] := ⟨[q], rfl⟩
      have hcA : ∃ ty, tys[(tc + 3)]? = some (cA, ty) := by
        cases hz : tys[(tc + 3)]? with
        | none =>
          have h9 := hC.2.2.2.2.1.2.1
          have h10 : (tys.map (·.2))[(tc + 3)]? = some (.array E) := by rw [h9]; exact hkt
          rw [List.getElem?_map, hz] at h10
          cases h10
        | some z =>
          obtain ⟨cB, tyB⟩ := z
          have h10 : tyB = (.array E) := Option.some.inj ((e_kt_at hC.2.2.2.2.1 hz).symm.trans (hkt))
          subst h10
          have r1 := (hC.2.2.2.2.1.1.2 _ _ hz).2
          have r2 := (pK.2 tys.length (cA, (.array E)) (by rw [List.getElem?_append_right (Nat.le_refl _), Nat.sub_self]; rfl)).2
          replace r1 : s.vm.findClass _ = some cB := r1
          replace r2 : s.vm.findClass _ = some cA := r2
          cases r1.symm.trans r2
          exact ⟨_, rfl⟩
      have hfin := hW (as ++ [q]) _ H1 locs ls (.ref q :: ys) ⟨e_lo_mono h1 hmono, ⟨⟨q, by rw [List.getElem?_append_right (by omega), hq, Nat.sub_self]; rfl, rfl⟩, e_st_mono hmono h8⟩, e_wk_push h3 hn hw1 (show e_ent ad (as ++ [q]) tys (.inr ((tc + 3), rs)) (.inl (cA, N, .inr (.inr (.inr (.inr (fun _ => none)))))) from ⟨hcA, by omega, by omega, fun j v hv => by rw [hrv j v hv]; rfl⟩), p1, p2, p3, List.IsPrefix.trans h7 hmono⟩
      dsimp only at hfin
      rw [← hN, Nat.sub_add_comm hk0, Nat.sub_add_comm hs0] at hfin
      exact hfin
  · cases h

theorem s_aastA {nx tc : Nat} (hq : (e_ml[M]?).map (·.2.1) = some cc) (hkt : e_kt[tc + 3]? = some (.array .int)) (hk0 : e_kt[0]? = some .int) (hcl : e_cl.length ≤ 100) (hao : Jvm.Cond.arrayOver (.array .int) ∈ lw_tbl) (hd : decode cc pc = .ok (.aastore, 1)) (hnx : nx = pc + 1) : e_Sn M pc (o_astRN (tc + 3) (fun k => Nat.beq k 100) nx) := by
  intro g hg F al st w c K hM h
  unfold o_astRN at h
  split at h
  · next v i q r =>
    cases hbc : (e_okT (fun k => Nat.beq k 100) w v && Nat.blt q 512 && Nat.ble 2147483648 i) with
    | false => rw [hbc, cond_false] at h; cases h
    | true =>
      rw [hbc, cond_true] at h
      obtain ⟨g0, hi2⟩ := (Bool.and_eq_true _ _).mp hbc
      obtain ⟨hokv, hq512⟩ := (Bool.and_eq_true _ _).mp g0
      replace hi2 := Nat.le_of_ble_eq_true hi2
      replace hq512 : q < 2 ^ 9 := Nat.le_of_ble_eq_true hq512
      split at h
      · next t rs hc =>
        cases hbt : Nat.beq t (tc + 3) with
        | false => rw [hbt, cond_false] at h; cases h
        | true =>
          rw [hbt, cond_true] at h
          replace hbt := Nat.eq_of_beq_eq_true hbt
          subst hbt
          obtain ⟨rs', h, hlt, hlen, hrat⟩ := e_rset_t h
          obtain ⟨w1, h, hw1⟩ := e_tput_t 9 w q _ hq512 h
          obtain ⟨z, w', c', hK, hok⟩ := hg _ _ _ _ _ _ _ h
          refine ⟨z, w', c', hK, e_step hok ?_⟩
          intro p l e R s m args below meth cd Q ad D tys base nL as0 k0 s0 hC hW
          obtain ⟨hx, hb⟩ := e_cc hM hq hC
          intro as ws H locs ls ys hS
          obtain ⟨h1, h2, h3, h4, h5, h6, h7⟩ := hS
          obtain ⟨x0, ys, rfl, hr0, h80⟩ := e_st_cons h2
          obtain ⟨x1, ys, rfl, hr1, h81⟩ := e_st_cons h80
          obtain ⟨x, ys, rfl, hr, h8⟩ := e_st_cons h81
          obtain ⟨a, ha, rfl⟩ := e_ref hr
          obtain ⟨hi3, rfl⟩ := hr1
          obtain ⟨e', he, hent⟩ := e_wk_at h3 ha
          rw [hc] at hent
          cases e' with
          | inr z => exact hent.elim
          | inl o =>
            obtain ⟨cA, n, f⟩ := o
            obtain ⟨⟨ty, hty⟩, hn, hn2, harr⟩ := hent
            have hk := e_kt_at hC.2.2.2.2.1 hty
            obtain rfl : ty = .array .int := Option.some.inj (hk.symm.trans hkt)
            subst hnx
            rcases f with f | f | f | f | f
            · exact harr.elim
            · exact harr.elim
            · exact harr.elim
            · exact harr.elim
            · skip
              have hent2 : ∀ y : Option Nat, e_rel ad as v (va_rf y) → e_ent ad as tys (.inr (tc + 3, rs')) (.inl (cA, n, .inr (.inr (.inr (.inr (va_up f (i - 2147483648) y)))))) := fun y hy => ⟨⟨_, hty⟩, by omega, hn2, fun j u hj => by
                rw [hrat] at hj
                unfold va_up
                by_cases hji : j = i - 2147483648
                · rw [if_pos hji] at hj; cases hj; rw [if_pos hji]; exact hy
                · rw [if_neg hji] at hj; rw [if_neg hji]; exact harr j u hj⟩
              unfold e_okT at hokv
              split at hokv
              · next j =>
                obtain ⟨b, hb9, rfl⟩ := e_ref hr0
                obtain ⟨e2, he2, hen2⟩ := e_wk_at h3 hb9
                obtain ⟨comp, cR, kR, r1, -, r2, r3, r4⟩ := arrayOverA_spec (over_moved (a' := args) (Vm.Alike.refl _) (hC.2.2.2.2.1.2.2.1 _ (List.mem_filter.mpr ⟨hao, rfl⟩)))
                have r5 : s.vm.findClass ("[" ++ (FieldType.array .int).toString) = some cA := (hC.2.2.2.2.1.1.2 _ _ hty).2
                cases r4.symm.trans r5
                obtain ⟨kE, hkE, -⟩ := Vm.findClass_spec r1
                have hany : ∃ cellV : Cell, H[b]? = some cellV ∧ cellV.vm.isStatics = false ∧ cellV.cls = comp := by
                  generalize e_tget 9 w j = xx at hen2 hokv
                  replace hokv := Nat.eq_of_beq_eq_true hokv
                  cases xx with
                  | inl o1 =>
                    obtain ⟨ci, fs⟩ := o1
                    cases e2 with
                    | inl z => exact hen2.elim
                    | inr o2 =>
                      obtain ⟨cj, vs⟩ := o2
                      obtain ⟨rfl, -, -⟩ := hen2
                      obtain ⟨r9, q1, -⟩ := h4 j _ he2
                      have := (List.getElem?_eq_some_iff.mp q1).1
                      have g9 : ci = 100 := hokv
                      omega
                  | inr o1 =>
                    obtain ⟨t2, rs2⟩ := o1
                    have g9 : 100 + t2 = 100 := hokv
                    obtain rfl : t2 = 0 := by omega
                    cases e2 with
                    | inr z => exact hen2.elim
                    | inl o2 =>
                      obtain ⟨cB, nB, fB⟩ := o2
                      obtain ⟨⟨tyB, htyB⟩, -, -, -⟩ := hen2
                      obtain rfl : tyB = .int := Option.some.inj ((e_kt_at hC.2.2.2.2.1 htyB).symm.trans hk0)
                      have q9 : s.vm.findClass ("[" ++ FieldType.int.toString) = some cB := (hC.2.2.2.2.1.1.2 0 _ htyB).2
                      have q8 : s.vm.findClass ("[" ++ FieldType.int.toString) = some comp := r1
                      cases q8.symm.trans q9
                      have hcell := h4 j _ he2
                      unfold va_at at hcell
                      dsimp only at hcell
                      refine ⟨_, hcell, ?_, ?_⟩
                      · unfold vp_cell; split <;> rfl
                      · unfold vp_cell; split <;> rfl
                exact e_astqA hx hb h4 h5 h6 q he r2 r3 hkE hany (e_in hi3 hi2 (by omega)) hd (fun H1 locs1 p1 p2 p3 => by
                  rw [e_i_cl hi3 hi2] at p1 p2
                  exact hW as _ H1 locs1 ls ys ⟨h1, h8, e_wk_set h3 he hw1 (hent2 (some b) ⟨b, hb9, rfl⟩), p1, p2, p3, h7⟩)
              · cases hokv
      · cases h
  · cases h

theorem s_astB {nx tc : Nat} {E : String} {okc : Nat → Bool} (hR : e_Sn M pc (o_astR (tc + 3) okc nx)) (hq : (e_ml[M]?).map (·.2.1) = some cc) (hkt : e_kt[tc + 3]? = some (.object E)) (hca : Jvm.Cond.castable "java/lang/Integer" E ∈ lw_tbl) (hd : decode cc pc = .ok (.aastore, 1)) (hnx : nx = pc + 1) : e_Sn M pc (o_astB (tc + 3) okc nx) := by
  intro g hg F al st w c K hM h
  unfold o_astB at h
  split at h
  · next k i q r =>
    cases hbc : (e_isB k && Nat.blt q 512 && Nat.ble 2147483648 i) with
    | false => rw [hbc, cond_false] at h; cases h
    | true =>
      rw [hbc, cond_true] at h
      obtain ⟨g0, hi2⟩ := (Bool.and_eq_true _ _).mp hbc
      obtain ⟨hokv, hq512⟩ := (Bool.and_eq_true _ _).mp g0
      replace hi2 := Nat.le_of_ble_eq_true hi2
      replace hq512 : q < 2 ^ 9 := Nat.le_of_ble_eq_true hq512
      obtain ⟨j9, rfl, hj9⟩ := e_isB_t hokv
      split at h
      · next t rs hc =>
        cases hbt : Nat.beq t (tc + 3) with
        | false => rw [hbt, cond_false] at h; cases h
        | true =>
          rw [hbt, cond_true] at h
          replace hbt := Nat.eq_of_beq_eq_true hbt
          subst hbt
          obtain ⟨rs', h, hlt, hlen, hrat⟩ := e_rset_t h
          obtain ⟨w1, h, hw1⟩ := e_tput_t 9 w q _ hq512 h
          obtain ⟨z, w', c', hK, hok⟩ := hg _ _ _ _ _ _ _ h
          refine ⟨z, w', c', hK, e_step hok ?_⟩
          intro p l e R s m args below meth cd Q ad D tys base nL as0 k0 s0 hC hW
          obtain ⟨hx, hb⟩ := e_cc hM hq hC
          intro as ws H locs ls ys hS
          obtain ⟨h1, h2, h3, h4, h5, h6, h7⟩ := hS
          obtain ⟨x0, ys, rfl, hr0, h80⟩ := e_st_cons h2
          obtain ⟨x1, ys, rfl, hr1, h81⟩ := e_st_cons h80
          obtain ⟨x, ys, rfl, hr, h8⟩ := e_st_cons h81
          obtain ⟨a, ha, rfl⟩ := e_ref hr
          obtain ⟨hi3, rfl⟩ := hr1
          cases (show x0 = .ref (ad (j9 + 4)) from hr0)
          obtain ⟨e', he, hent⟩ := e_wk_at h3 ha
          rw [hc] at hent
          cases e' with
          | inr z => exact hent.elim
          | inl o =>
            obtain ⟨cA, n, f⟩ := o
            obtain ⟨⟨ty, hty⟩, hn, hn2, harr⟩ := hent
            have hk := e_kt_at hC.2.2.2.2.1 hty
            obtain rfl : ty = .object E := Option.some.inj (hk.symm.trans hkt)
            subst hnx
            rcases f with f | f | f | f | f
            · exact harr.elim
            · exact harr.elim
            · exact harr.elim
            · exact harr.elim
            · skip
              have hent2 : e_ent ad as tys (.inr (tc + 3, rs')) (.inl (cA, n, .inr (.inr (.inr (.inr (va_up f (i - 2147483648) (some (ad (j9 + 4))))))))) := ⟨⟨_, hty⟩, by omega, hn2, fun j u hj => by
                rw [hrat] at hj
                unfold va_up
                by_cases hji : j = i - 2147483648
                · rw [if_pos hji] at hj; cases hj; rw [if_pos hji]; exact (rfl : va_rf (some (ad (j9 + 4))) = .ref (ad (j9 + 4)))
                · rw [if_neg hji] at hj; rw [if_neg hji]; exact harr j u hj⟩
              obtain ⟨cell, c1, c2, c3, -⟩ := (hC.2.2.2.2.2.2.1.2.2.2.2.1.1 j9 hj9).kept h6.2.1
              exact vb_astq (C := "java/lang/Integer") hx hb hC.2.2.2.2.1.1 h4 h5 h6 q _ he hty ⟨cell, c1, c2, c3⟩ (fun comp c0 f1 f2 => vb_asgC (hC.2.2.2.2.1.2.2.1 _ (List.mem_filter.mpr ⟨hca, rfl⟩)) comp c0 f1 f2) (e_in hi3 hi2 (by omega)) hd (fun H1 locs1 p1 p2 p3 => by
                rw [e_i_cl hi3 hi2] at p1 p2
                exact hW as _ H1 locs1 ls ys ⟨h1, h8, e_wk_set h3 he hw1 hent2, p1, p2, p3, h7⟩)
      · cases h
  · exact hR g hg F al _ w c K hM h
theorem e_rat_app : ∀ (r l : List (Nat × e_V)) (j : Nat), e_rat (r ++ l) j = if j < e_rlen r then e_rat r j else e_rat l (j - e_rlen r)
  | [], l, j => by rw [if_neg (by show ¬ j < 0; omega)]; rfl
  | (n, v) :: r, l, j => by
    rw [List.cons_append, e_rat_cons, e_rat_cons, e_rat_app r l]
    show _ = if j < n + e_rlen r then _ else e_rat l (j - (n + e_rlen r))
    by_cases h1 : j < n
    · rw [if_pos h1, if_pos (by omega), if_pos h1]
    · rw [if_neg h1, if_neg h1]
      by_cases h2 : j - n < e_rlen r
      · rw [if_pos h2, if_pos (by omega)]
      · rw [if_neg h2, if_neg (by omega), show j - n - e_rlen r = j - (n + e_rlen r) by omega]
theorem e_rlen_app : ∀ (r l : List (Nat × e_V)), e_rlen (r ++ l) = e_rlen r + e_rlen l
  | [], l => by show e_rlen l = 0 + e_rlen l; omega
  | (n, v) :: r, l => by
    show n + e_rlen (r ++ l) = n + e_rlen r + e_rlen l
    rw [e_rlen_app r l]; omega
theorem e_take_t : ∀ {l : List (Nat × e_V)} {n : Nat} {k : List (Nat × e_V) → Bool}, e_take l n k = true → ∃ r, k r = true ∧ e_rlen r = n ∧ ∀ j, j < n → ∃ b, e_rat r j = some (e_B b) ∧ e_rat l j = some (e_B b) ∧ e_isB b = true
  | _, 0, k, h => ⟨[], by unfold e_take at h; exact h, rfl, fun j hj => absurd hj (Nat.not_lt_zero j)⟩
  | [], n + 1, k, h => by unfold e_take at h; cases h
  | (m, v) :: l, n + 1, k, h => by
    unfold e_take at h
    split at h
    · next b =>
      cases hb : e_isB b with
      | false => rw [hb, cond_false] at h; cases h
      | true =>
        rw [hb, cond_true] at h
        cases hm : Nat.ble (n + 1) m with
        | true =>
          rw [hm, cond_true] at h
          have hm2 := Nat.le_of_ble_eq_true hm
          refine ⟨_, h, by show n + 1 + 0 = n + 1; omega, fun j hj => ⟨b, ?_, ?_, hb⟩⟩
          · rw [e_rat_cons, if_pos hj]
          · rw [e_rat_cons, if_pos (by omega)]
        | false =>
          rw [hm, cond_false] at h
          have hm2 : ¬ n + 1 ≤ m := fun h => by rw [Nat.ble_eq_true_of_le h] at hm; cases hm
          obtain ⟨r, h1, h2, h3⟩ := e_take_t (e_fo_t h)
          refine ⟨_, h1, by show m + e_rlen r = n + 1; omega, fun j hj => ?_⟩
          by_cases hjm : j < m
          · exact ⟨b, by rw [e_rat_cons, if_pos hjm], by rw [e_rat_cons, if_pos hjm], hb⟩
          · obtain ⟨b2, q1, q2, q3⟩ := h3 (j - m) (by omega)
            exact ⟨b2, by rw [e_rat_cons, if_neg hjm, q1], by rw [e_rat_cons, if_neg hjm, q2], q3⟩
    · cases h
theorem s_copyB {nx index : Nat} {own : String} (hkt : e_kt[3]? = some (.object "java/lang/Object")) (hca : Jvm.Cond.castable "java/lang/Integer" "java/lang/Object" ∈ lw_tbl) (hq : (e_ml[M]?).map (·.2.1) = some cc) (ho : (e_ml[M]?).map (·.1.cls) = some own) (hl1 : Jvm.Cond.methodLink own index arraycopyName ∈ lw_tbl) (hl2 : Jvm.Cond.native arraycopyName ∈ lw_tbl) (hl3 : Jvm.Cond.static arraycopyName ∈ lw_tbl) (hl4 : Jvm.Cond.initialized "java/lang/System" ∈ lw_tbl) (hd : decode cc pc = .ok (.invokestatic index, 3)) (hnx : nx = pc + 3) : e_Sn M pc (o_copyB nx) := by
  intro g hg F al st w c K hM h
  unfold o_copyB at h
  split at h
  · next n dp q1 sp q0 r =>
    cases hbc : (Nat.ble 2147483648 n && Nat.beq dp 2147483648 && Nat.beq sp 2147483648 && Nat.blt q1 512 && Nat.blt 0 F.2.1 && Nat.ble 4000 F.2.2.1 && Nat.ble (e_stw r) 8) with
    | false => rw [hbc, cond_false] at h; cases h
    | true =>
      rw [hbc, cond_true] at h
      obtain ⟨hbc, g8⟩ := (Bool.and_eq_true _ _).mp hbc
      obtain ⟨hbc, g7⟩ := (Bool.and_eq_true _ _).mp hbc
      obtain ⟨hbc, g6⟩ := (Bool.and_eq_true _ _).mp hbc
      obtain ⟨hbc, g5⟩ := (Bool.and_eq_true _ _).mp hbc
      obtain ⟨hbc, g3⟩ := (Bool.and_eq_true _ _).mp hbc
      obtain ⟨g1, g2⟩ := (Bool.and_eq_true _ _).mp hbc
      replace g1 := Nat.le_of_ble_eq_true g1
      replace g2 := Nat.eq_of_beq_eq_true g2
      replace g3 := Nat.eq_of_beq_eq_true g3
      replace g5 : q1 < 2 ^ 9 := Nat.le_of_ble_eq_true g5
      replace g6 : 0 < F.2.1 := Nat.le_of_ble_eq_true g6
      replace g7 := Nat.le_of_ble_eq_true g7
      replace g8 := Nat.le_of_ble_eq_true g8
      subst g2; subst g3
      split at h
      · next rs0 N hc0 hc1 =>
        cases hbd : (Nat.ble (n - 2147483648) N && Nat.ble (n - 2147483648) (e_rlen rs0)) with
        | false => rw [hbd, cond_false] at h; cases h
        | true =>
          rw [hbd, cond_true] at h
          obtain ⟨g9, g10⟩ := (Bool.and_eq_true _ _).mp hbd
          replace g9 := Nat.le_of_ble_eq_true g9
          replace g10 := Nat.le_of_ble_eq_true g10
          obtain ⟨rs, h, hr1, hr2⟩ := e_take_t h
          replace h := e_fo_t h
          obtain ⟨w1, h, hw1⟩ := e_tput_t 9 w q1 _ g5 h
          obtain ⟨z, w', c', hK, hok⟩ := hg _ _ _ _ _ _ _ h
          refine ⟨z, w', c', hK, e_stepR hok ?_⟩
          intro p l e R s m args below meth cd Q ad D tys base nL as0 k0 s0 hC hf hl hW
          obtain ⟨hx, hb⟩ := e_cc hM hq hC
          intro as ws H locs ls ys hS
          obtain ⟨h1, h2, h3, h4, h5, h6, h7⟩ := hS
          obtain ⟨x1, ys, rfl, hx1, j1⟩ := e_st_cons h2
          obtain ⟨x2, ys, rfl, hx2, j2⟩ := e_st_cons j1
          obtain ⟨x3, ys, rfl, hx3, j3⟩ := e_st_cons j2
          obtain ⟨x4, ys, rfl, hx4, j4⟩ := e_st_cons j3
          obtain ⟨x5, ys, rfl, hx5, j5⟩ := e_st_cons j4
          obtain ⟨hn3, rfl⟩ := hx1
          obtain ⟨-, rfl⟩ := hx2
          obtain ⟨-, rfl⟩ := hx4
          obtain ⟨a1, ha1, rfl⟩ := e_ref hx3
          obtain ⟨a0, ha0, rfl⟩ := e_ref hx5
          obtain ⟨e1, he1, hen1⟩ := e_wk_at h3 ha1
          obtain ⟨e0, he0, hen0⟩ := e_wk_at h3 ha0
          rw [hc1] at hen1
          rw [hc0] at hen0
          cases e1 with
          | inr z => exact hen1.elim
          | inl o1 =>
          cases e0 with
          | inr z => exact hen0.elim
          | inl o0 =>
          obtain ⟨cA1, n1, f1⟩ := o1
          obtain ⟨cA0, n0, f0⟩ := o0
          obtain ⟨⟨ty1, ht1⟩, hn1, hn12, har1⟩ := hen1
          obtain ⟨⟨ty0, ht0⟩, hn0, hn02, har0⟩ := hen0
          obtain rfl : ty0 = .object "java/lang/Object" := Option.some.inj ((e_kt_at hC.2.2.2.2.1 ht0).symm.trans hkt)
          obtain rfl : ty1 = .object "java/lang/Object" := Option.some.inj ((e_kt_at hC.2.2.2.2.1 ht1).symm.trans hkt)
          rcases f1 with f1 | f1 | f1 | f1 | f1
          · exact har1.elim
          · exact har1.elim
          · exact har1.elim
          · exact har1.elim
          rcases f0 with f0 | f0 | f0 | f0 | f0
          · exact har0.elim
          · exact har0.elim
          · exact har0.elim
          · exact har0.elim
          have hz : (e_i 2147483648).toNatClampNeg = 0 := by rw [e_i_cl (by decide) (by decide)]
          have hzn : ¬ e_i 2147483648 < 0 := e_i_neg (by decide) (by decide)
          have hnn := e_i_cl hn3 g1
          subst hnx
          have hN1 : n1 = N := by rw [hn1]; show N + 0 = N; omega
          have hsz : cd.maxLocals = ls.size := (h1.2.choose_spec.1.1.trans (by obtain ⟨-, -, -, -, -, -, -, q9, -, -, r3, -⟩ := hC; exact r3.symm)).symm
          have hf0 : ∀ i, i < n - 2147483648 → ∃ b, f0 i = some (ad b) ∧ e_isB b = true ∧ e_rat rs i = some (e_B b) := by
            intro i hi
            obtain ⟨b, b1, b2, b3⟩ := hr2 i hi
            have b4 : va_rf (f0 i) = .ref (ad b) := har0 i _ b2
            refine ⟨b, ?_, b3, b1⟩
            cases hfi : f0 i with
            | none => rw [hfi] at b4; cases b4
            | some y => rw [hfi] at b4; cases b4; rfl
          refine va_copyq (C := "java/lang/Integer") hx hb hsz (e_own hM ho hC) (e_wd hC hl1 rfl) (e_wd hC hl2 rfl) (e_wd hC hl3 rfl) (e_wd hC hl4 rfl) hC.2.2.2.2.1.1 h4 h5 h6 q0 q1 3 3 he0 he1 ht0 ht1 hzn hzn (e_i_neg hn3 g1) (by rw [hz, hnn]; omega) (by rw [hz, hnn]; omega) (fun i hi y hy => ?_) (fun comp c0 f1 f2 => vb_asgC (hC.2.2.2.2.1.2.2.1 _ (List.mem_filter.mpr ⟨hca, rfl⟩)) comp c0 f1 f2) (by omega) ?_ hd (fun H1 locs1 p1 p2 p3 => ?_)
          · rw [hnn] at hi
            rw [hz, Nat.zero_add] at hy
            obtain ⟨b, b1, b2, -⟩ := hf0 i hi
            obtain ⟨j9, rfl, hj9⟩ := e_isB_t b2
            rw [b1] at hy
            cases hy
            obtain ⟨cell, c1, c2, c3, -⟩ := (hC.2.2.2.2.2.2.1.2.2.2.2.1.1 j9 hj9).kept h6.2.1
            exact ⟨cell, c1, c2, c3⟩
          · rw [e_stw_t j5]
            have hw9 : nativeFrameWords "java/lang/System" "arraycopy" 5 + 11 ≤ 3000 := by decide +kernel
            omega
          · rw [hz, hnn] at p1 p2
            refine hW as _ H1 locs1 ls ys ⟨h1, j5, e_wk_set h3 he1 hw1 (show e_ent ad as tys (.inr (3, rs ++ [(N - (n - 2147483648), e_N)])) (.inl (cA1, n1, .inr (.inr (.inr (.inr (va_cpy f0 f1 0 0 (n - 2147483648))))))) from ⟨⟨_, ht1⟩, ?_, hn12, fun j v hv => ?_⟩), p1, p2, p3, h7⟩
            · rw [e_rlen_app, hr1, hN1]
              show N = n - 2147483648 + (N - (n - 2147483648) + 0)
              omega
            · rw [e_rat_app, hr1] at hv
              unfold va_cpy
              by_cases hj : j < n - 2147483648
              · rw [if_pos hj] at hv
                obtain ⟨b, b1, b2, b3⟩ := hf0 j hj
                rw [b3] at hv
                cases hv
                rw [if_pos ⟨Nat.zero_le _, by omega⟩, Nat.zero_add, Nat.sub_zero, b1]
                exact (rfl : va_rf (some (ad b)) = .ref (ad b))
              · rw [if_neg hj, e_rat_cons] at hv
                split at hv
                · next hlt =>
                  cases hv
                  rw [if_neg (by omega)]
                  have q9 : e_rat [(N, (e_N : e_V))] j = some e_N := by rw [e_rat_cons, if_pos (by omega)]
                  exact har1 j _ q9
                · cases hv
      · cases h
  · cases h
theorem e_runW5 {p : Program} {l : Launch} {e : Env} {R : Room} {s : State} {m : MethodId} {args : Array Value} {below : List Frame} {meth : Method} {cd : Code} {Q : State → Prop} {ad : Nat → Nat} {D : va_G} {tys : List (ClassId × FieldType)} {base : Nat} {as : List Nat} {ov : Option e_V} {w1 : e_W} {n1 mc ms cells slots pc : Nat} {H : Heap} {locs : List Loc} {ls : Array Slot} {ys rc : List Value} {a : Array Value}
    (hr : va_Run5 p l e R s m args below meth cd H locs cells slots mc ms (F0 m pc ls ys) rc (e_Qc ad D tys base as ov w1 n1 a) (e_A0 base)) (hS : va_S (e_A0 base) s.heap H locs)
    (hk : ∀ (as1 : List Nat) (ws1 : va_W) (H1 : Heap) (locs1 : List Loc) (xo : List Value), as <+: as1 → e_wk ad as1 tys w1 n1 ws1 → va_P D e_cl ws1 H1 → va_D (e_A0 base) ws1 → va_S (e_A0 base) s.heap H1 locs1 → (match ov with
      | some v => ∃ x, xo = [x] ∧ e_rel ad as1 v x
      | none => xo = []) → W p l e R s m args below meth cd H1 locs1 (cells + mc) (slots + ms) Q (F0 m (pc + 5) ls (xo ++ rc))) : W p l e R s m args below meth cd H locs cells slots Q (F0 m pc ls ys) := by
  intro T hT X
  obtain ⟨v, st₀, t, T', L, h0, X', hL, e1, e2, ⟨as1, ws1, q1, q2, q3, q4, q5, q6⟩, st⟩ := hr T hT X
  obtain ⟨k1, k2, k3⟩ := vx_keep (A0 := e_A0 base) h0 e1 hS (fun _ _ h => h) (fun _ h => h) hL q5
  obtain ⟨t2, a1, b1⟩ := hk as1 ws1 T'.heap (locs ++ L) v.toList q1 q2 (by rw [e1]; exact q3) q4 k3 (by
    cases ov with
    | none => cases q6; rfl
    | some u => obtain ⟨x, hx, hx2⟩ := q6; cases hx; exact ⟨x, rfl, hx2⟩) T' rfl X'
  exact ⟨t2, st t2 a1, b1⟩

theorem s_callF {count : Nat} {xn : MethodName} {y mm n nx index ci N : Nat} {own C : String} {T : u_T} {yn : MethodName} {yb : ByteArray} {rt : Option FieldType} (hq : (e_ml[M]?).map (·.2.1) = some cc) (ho : (e_ml[M]?).map (·.1.cls) = some own) (hy : e_ml[y]? = some (yn, yb, mm, rt)) (hplain : plainName yn.cls = true) (hcode : Jvm.Cond.code yn yb mm rt ∈ lw_tbl) (hini : Jvm.Cond.initialized yn.cls ∈ lw_tbl) (hdn : xn.cls ≠ "java/lang/invoke/MethodHandle" ∧ xn.cls ≠ "java/lang/invoke/VarHandle" ∧ (parseMethodDescriptor xn.desc).map (fun d => d.parameters.length) = some n) (hlink : Jvm.Cond.methodLink own index xn ∈ lw_tbl) (hfw : (C, xn, yn) ∈ e_fw) (hinst : Jvm.Cond.instanceMethod yn ∈ lw_tbl) (hsel : Jvm.Cond.selects C xn yn ∈ lw_tbl) (hcl : e_cl[ci]? = some (C, T, N)) (hd : decode cc pc = .ok (.invokeinterface index count, 5)) (hnx : nx = pc + 5) : e_Sn M pc (o_callV (e_s1 ci y mm) (n + 1) nx) := by
  intro g hg F al st w c K hM h
  unfold o_callV o_callX at h
  obtain ⟨t, r, hst9, ht0, h9⟩ := e_args_t h
  clear h
  have h := h9
  clear h9
  subst hst9
  rw [List.append_nil] at h
  split at h
  · next q t0 htr =>
    split at h
    · next cj fs9 hc9 =>
      split at h
      · next y9 m9 hs9 =>
        have e1 : cj = ci ∧ y9 = y ∧ m9 = mm := by
          unfold e_s1 at hs9
          cases hb9 : Nat.beq cj ci with
          | false => rw [hb9, cond_false] at hs9; cases hs9
          | true => rw [hb9, cond_true] at hs9; cases hs9; exact ⟨Nat.eq_of_beq_eq_true hb9, rfl, rfl⟩
        obtain ⟨e1a, e1b, e1c⟩ := e1
        replace e1b := e1b.symm
        replace e1c := e1c.symm
        subst e1a e1b e1c
        obtain ⟨la, z1, w1, c1, hfr, hlo, hst8, hlal, hla, hok1, hres⟩ := e_go_t hg h
        rcases z1 with (_ | v) | E
        · obtain ⟨z2, w2, c2, hK2, hok2⟩ := hg _ _ _ _ _ _ _ hres
          refine ⟨z2, w2, c2, hK2, Nat.le_trans hok1.1 hok2.1, Nat.le_trans hok1.2.1 hok2.2.1, Nat.le_trans hok1.2.2.1 hok2.2.2.1, ?_⟩
          intro p l e R s m args below meth cd Q ad D tys base nL as0 k0 s0 hC hf hl hk hs hc hsl hE
          have hok1' := hok1
          obtain ⟨b1, b2, b3, -⟩ := hok1'
          have hWG := hok2.2.2.2 p l e R s m args below meth cd Q ad D tys base nL as0 k0 s0 hC hf hl (by omega) (by omega) hc hsl hE
          obtain ⟨hx, hb⟩ := e_cc hM hq hC
          have d2 := hok2.2.1
          have d3 := hok2.2.2.1
          intro as ws H locs ls ys hS
          obtain ⟨h1, h2, h3, h4, h5, h6, h7⟩ := hS
          obtain ⟨tc, rc, rfl, ht1, ht2, ht3⟩ := e_st_app h2
          have hrv := e_st_rev ht2
          rw [htr] at hrv
          obtain ⟨x0, tc0, htc0, hrel0, hst0⟩ := e_st_cons hrv
          obtain ⟨b0, hb0, rfl⟩ := e_ref hrel0
          have htc : tc = tc0.reverse ++ [.ref b0] := by rw [← List.reverse_reverse tc, htc0, List.reverse_cons]
          have hlen0 : tc0.length = n := by
            have e1 := congrArg List.length htc
            simp [ht1, ht0] at e1
            omega
          have hwd : (rc.map fun v => v.category).sum ≤ 8 := by rw [e_stw_t ht3]; exact hst8
          have hM9 := e_met (ad := ad) (D := D) (tys := tys) (base := base) (as0 := as) (ws0 := ws) (l := l) hok1 hy hplain hC.1 hlal hla h3 h5
          have hpre : ∀ U : State, U.heap = H → s.WarmedH U.vm → e_Pc (y, F.2.1 - 1, F.2.2.1 - (mm + 19), F.2.2.2) ad D tys base as ws (Sum.inr (Sum.inl (some q)) :: t0) (Value.ref b0 :: tc0).toArray U := fun U hU hW => ⟨Value.ref b0 :: tc0, rfl, ⟨hrel0, hst0⟩, by rw [hU]; exact h4, by rw [hU]; exact Nat.le_trans hC.2.2.2.2.2.1 h6.1, e_Kx_warm hW hC.2.2.2.2.1, by
            rw [hU]
            exact e_sf_moved hW.alike (fun q hq hA => h6.2.1 q hq hA) (e_sf_F rfl hC.2.2.2.2.2.2.1)⟩
          rw [htr] at hM9
          have hrun := va_runF (e := e) (hat := (hC.2.2.2.2.1.1.1 _ _ hcl).2) (below := below) (meth := meth) (C := C) (As := tc0) (b := b0) (rest := rc) (Ts := e_ws) (own := own) (H := H) (locs := locs) (cells := c.2.1 - k0) (slots := c.2.2 - s0) (g := F0 m pc ls (tc ++ rc)) ⟨hx, hb, rfl, e_own hM ho hC, hC.2.2.2.1⟩ hM9 (show va_CI R s args own C index xn yn yb mm rt (.code yn yb mm rt :: e_ws) _ _ _ n from ⟨⟨rfl, rfl, by show F.2.1 - 1 + 1 ≤ R.frames; omega, by show 8 + (mm + 11) + (F.2.2.1 - (mm + 19)) ≤ R.locals; omega, pay_in hC.2.2.2.1 (e_good hcode), List.mem_cons_self⟩, e_wd hC hlink rfl, va_any rfl (hC.2.2.2.2.1.2.2.2.2.2 _ hfw).1, va_any rfl (hC.2.2.2.2.1.2.2.2.2.2 _ hfw).2.1, e_wd hC hsel rfl, e_wd hC hinst rfl, va_any rfl (hC.2.2.2.2.1.2.2.2.2.2 _ hfw).2.2.1, va_any rfl (hC.2.2.2.2.1.2.2.2.2.2 _ hfw).2.2.2.1, va_any rfl (hC.2.2.2.2.1.2.2.2.2.2 _ hfw).2.2.2.2, e_wd hC hini rfl, e_wd hC hcode rfl, ⟨hdn.1, hdn.2.1⟩, e_par hdn.2.2⟩) ⟨e_Pc_blind, e_recv hC h3 h4 hb0 hc9 hcl, hpre⟩ rfl hlen0 (h1.2.choose_spec.1.1.trans (by obtain ⟨-, -, -, -, -, -, -, q9, -, -, r3, -⟩ := hC; exact r3.symm)) (by rw [htc]; simp) (lv_room hwd) hd ⟨by omega, by omega⟩
          refine e_runW5 hrun h6 (fun as1 ws1 H1 locs1 xo q1 q2 q3 q4 q5 q6 => ?_)
          have hfin := hWG as1 ws1 H1 locs1 ls (xo ++ rc) ⟨e_lo_mono h1 q1, by cases q6; exact e_st_mono q1 ht3, q2, q3, q4, q5, List.IsPrefix.trans h7 q1⟩
          subst hnx
          rw [show c.2.1 - k0 + (c1.2.1 - c.2.1) = c1.2.1 - k0 by omega, show c.2.2 - s0 + (c1.2.2 - c.2.2) = c1.2.2 - s0 by omega]
          exact hfin
        · obtain ⟨z2, w2, c2, hK2, hok2⟩ := hg _ _ _ _ _ _ _ hres
          refine ⟨z2, w2, c2, hK2, Nat.le_trans hok1.1 hok2.1, Nat.le_trans hok1.2.1 hok2.2.1, Nat.le_trans hok1.2.2.1 hok2.2.2.1, ?_⟩
          intro p l e R s m args below meth cd Q ad D tys base nL as0 k0 s0 hC hf hl hk hs hc hsl hE
          have hok1' := hok1
          obtain ⟨b1, b2, b3, -⟩ := hok1'
          have hWG := hok2.2.2.2 p l e R s m args below meth cd Q ad D tys base nL as0 k0 s0 hC hf hl (by omega) (by omega) hc hsl hE
          obtain ⟨hx, hb⟩ := e_cc hM hq hC
          have d2 := hok2.2.1
          have d3 := hok2.2.2.1
          intro as ws H locs ls ys hS
          obtain ⟨h1, h2, h3, h4, h5, h6, h7⟩ := hS
          obtain ⟨tc, rc, rfl, ht1, ht2, ht3⟩ := e_st_app h2
          have hrv := e_st_rev ht2
          rw [htr] at hrv
          obtain ⟨x0, tc0, htc0, hrel0, hst0⟩ := e_st_cons hrv
          obtain ⟨b0, hb0, rfl⟩ := e_ref hrel0
          have htc : tc = tc0.reverse ++ [.ref b0] := by rw [← List.reverse_reverse tc, htc0, List.reverse_cons]
          have hlen0 : tc0.length = n := by
            have e1 := congrArg List.length htc
            simp [ht1, ht0] at e1
            omega
          have hwd : (rc.map fun v => v.category).sum ≤ 8 := by rw [e_stw_t ht3]; exact hst8
          have hM9 := e_met (ad := ad) (D := D) (tys := tys) (base := base) (as0 := as) (ws0 := ws) (l := l) hok1 hy hplain hC.1 hlal hla h3 h5
          have hpre : ∀ U : State, U.heap = H → s.WarmedH U.vm → e_Pc (y, F.2.1 - 1, F.2.2.1 - (mm + 19), F.2.2.2) ad D tys base as ws (Sum.inr (Sum.inl (some q)) :: t0) (Value.ref b0 :: tc0).toArray U := fun U hU hW => ⟨Value.ref b0 :: tc0, rfl, ⟨hrel0, hst0⟩, by rw [hU]; exact h4, by rw [hU]; exact Nat.le_trans hC.2.2.2.2.2.1 h6.1, e_Kx_warm hW hC.2.2.2.2.1, by
            rw [hU]
            exact e_sf_moved hW.alike (fun q hq hA => h6.2.1 q hq hA) (e_sf_F rfl hC.2.2.2.2.2.2.1)⟩
          rw [htr] at hM9
          have hrun := va_runF (e := e) (hat := (hC.2.2.2.2.1.1.1 _ _ hcl).2) (below := below) (meth := meth) (C := C) (As := tc0) (b := b0) (rest := rc) (Ts := e_ws) (own := own) (H := H) (locs := locs) (cells := c.2.1 - k0) (slots := c.2.2 - s0) (g := F0 m pc ls (tc ++ rc)) ⟨hx, hb, rfl, e_own hM ho hC, hC.2.2.2.1⟩ hM9 (show va_CI R s args own C index xn yn yb mm rt (.code yn yb mm rt :: e_ws) _ _ _ n from ⟨⟨rfl, rfl, by show F.2.1 - 1 + 1 ≤ R.frames; omega, by show 8 + (mm + 11) + (F.2.2.1 - (mm + 19)) ≤ R.locals; omega, pay_in hC.2.2.2.1 (e_good hcode), List.mem_cons_self⟩, e_wd hC hlink rfl, va_any rfl (hC.2.2.2.2.1.2.2.2.2.2 _ hfw).1, va_any rfl (hC.2.2.2.2.1.2.2.2.2.2 _ hfw).2.1, e_wd hC hsel rfl, e_wd hC hinst rfl, va_any rfl (hC.2.2.2.2.1.2.2.2.2.2 _ hfw).2.2.1, va_any rfl (hC.2.2.2.2.1.2.2.2.2.2 _ hfw).2.2.2.1, va_any rfl (hC.2.2.2.2.1.2.2.2.2.2 _ hfw).2.2.2.2, e_wd hC hini rfl, e_wd hC hcode rfl, ⟨hdn.1, hdn.2.1⟩, e_par hdn.2.2⟩) ⟨e_Pc_blind, e_recv hC h3 h4 hb0 hc9 hcl, hpre⟩ rfl hlen0 (h1.2.choose_spec.1.1.trans (by obtain ⟨-, -, -, -, -, -, -, q9, -, -, r3, -⟩ := hC; exact r3.symm)) (by rw [htc]; simp) (lv_room hwd) hd ⟨by omega, by omega⟩
          refine e_runW5 hrun h6 (fun as1 ws1 H1 locs1 xo q1 q2 q3 q4 q5 q6 => ?_)
          have hfin := hWG as1 ws1 H1 locs1 ls (xo ++ rc) ⟨e_lo_mono h1 q1, by obtain ⟨x, rfl, hx9⟩ := q6; exact ⟨hx9, e_st_mono q1 ht3⟩, q2, q3, q4, q5, List.IsPrefix.trans h7 q1⟩
          subst hnx
          rw [show c.2.1 - k0 + (c1.2.1 - c.2.1) = c1.2.1 - k0 by omega, show c.2.2 - s0 + (c1.2.2 - c.2.2) = c1.2.2 - s0 by omega]
          exact hfin
        · cases hres
      · cases h
    · cases h
  · cases h


end SN
end
section
/-! QUICKER TWINS of the operations: by recursors, the operation that follows by name -/
/-- every place goes on with nxt -/
def e_k (nxt : e_O) (g : e_G) : e_G := fun F _ => nxt g F
def e_k2 (tg : Nat) (nt nn : e_O) (g : e_G) : e_G := fun F pc => bif Nat.beq pc tg then nt g F else nn g F
section FS
variable {M pc : Nat} {cc : ByteArray}
def e_th (M nx : Nat) (nxt : e_O) (g : e_G) : e_G := fun F pc ls st w c K => bif Nat.beq F.1 M && Nat.beq pc nx then nxt g F ls st w c K else g F pc ls st w c K
theorem e_th_gd {nx : Nat} {nxt : e_O} {g : e_G} (hn : e_Sn M nx nxt) (hg : e_Gd g) : e_Gd (e_th M nx nxt g) := by
  intro F pc al st w c K h
  unfold e_th at h
  cases hb : (Nat.beq F.1 M && Nat.beq pc nx) with
  | false => rw [hb, cond_false] at h; exact hg F pc al st w c K h
  | true =>
    rw [hb, cond_true] at h
    obtain ⟨h1, h2⟩ := (Bool.and_eq_true _ _).mp hb
    have h3 := Nat.eq_of_beq_eq_true h1
    obtain rfl := Nat.eq_of_beq_eq_true h2
    exact hn g hg F al st w c K h3 h
theorem e_th_at {nx : Nat} {nxt : e_O} {g : e_G} {F : e_F} (hM : F.1 = M) : e_th M nx nxt g F nx = nxt g F := by
  funext ls st w c K
  unfold e_th
  rw [hM, Nat.beq_refl, Nat.beq_refl]
  rfl
theorem e_thr {nx : Nat} {f o nxt : e_O} (ho : e_Sn M pc o) (hn : e_Sn M nx nxt) (hc : ∀ (g1 g2 : e_G) (F : e_F) (ls : e_A) (st : List e_V) (w : e_W) (c : e_Q) (K : e_K), g1 F nx = g2 F nx → o g1 F ls st w c K = o g2 F ls st w c K) (hf : ∀ (g : e_G) (F : e_F) (ls : e_A) (st : List e_V) (w : e_W) (c : e_Q) (K : e_K), f g F ls st w c K = o (e_k nxt g) F ls st w c K) : e_Sn M pc f := by
  intro g hg F al st w c K hM h
  rw [hf] at h
  exact ho _ (e_th_gd hn hg) F al st w c K hM ((hc (e_th M nx nxt g) (e_k nxt g) F al st w c K (e_th_at hM)).trans h)
def e_th2 (M1 p1 M2 p2 : Nat) (n1 n2 : e_O) (g : e_G) : e_G := fun F pc ls st w c K => bif Nat.beq F.1 M1 && Nat.beq pc p1 then n1 g F ls st w c K else bif Nat.beq F.1 M2 && Nat.beq pc p2 then n2 g F ls st w c K else g F pc ls st w c K
theorem e_th2_gd {M1 p1 M2 p2 : Nat} {n1 n2 : e_O} {g : e_G} (h1 : e_Sn M1 p1 n1) (h2 : e_Sn M2 p2 n2) (hg : e_Gd g) : e_Gd (e_th2 M1 p1 M2 p2 n1 n2 g) := by
  intro F pc al st w c K h
  unfold e_th2 at h
  cases hb : (Nat.beq F.1 M1 && Nat.beq pc p1) with
  | true =>
    rw [hb, cond_true] at h
    obtain ⟨g1, g2⟩ := (Bool.and_eq_true _ _).mp hb
    have h3 := Nat.eq_of_beq_eq_true g1
    obtain rfl := Nat.eq_of_beq_eq_true g2
    exact h1 g hg F al st w c K h3 h
  | false =>
    rw [hb, cond_false] at h
    cases hb : (Nat.beq F.1 M2 && Nat.beq pc p2) with
    | false => rw [hb, cond_false] at h; exact hg F pc al st w c K h
    | true =>
      rw [hb, cond_true] at h
      obtain ⟨g1, g2⟩ := (Bool.and_eq_true _ _).mp hb
      have h3 := Nat.eq_of_beq_eq_true g1
      obtain rfl := Nat.eq_of_beq_eq_true g2
      exact h2 g hg F al st w c K h3 h
theorem e_thr2 {tg nx : Nat} {f o nt nn : e_O} (hne : Nat.beq nx tg = false) (ho : e_Sn M pc o) (ht : e_Sn M tg nt) (hn : e_Sn M nx nn) (hc : ∀ (g1 g2 : e_G) (F : e_F) (ls : e_A) (st : List e_V) (w : e_W) (c : e_Q) (K : e_K), g1 F tg = g2 F tg → g1 F nx = g2 F nx → o g1 F ls st w c K = o g2 F ls st w c K) (hf : ∀ (g : e_G) (F : e_F) (ls : e_A) (st : List e_V) (w : e_W) (c : e_Q) (K : e_K), f g F ls st w c K = o (e_k2 tg nt nn g) F ls st w c K) : e_Sn M pc f := by
  intro g hg F al st w c K hM h
  rw [hf] at h
  refine ho _ (e_th2_gd ht hn hg) F al st w c K hM ((hc (e_th2 M tg M nx nt nn g) (e_k2 tg nt nn g) F al st w c K ?_ ?_).trans h)
  · funext ls st w c K
    unfold e_th2 e_k2
    rw [hM, Nat.beq_refl, Nat.beq_refl]
    rfl
  · funext ls st w c K
    unfold e_th2 e_k2
    rw [hM, hne, Nat.beq_refl, Nat.beq_refl]
    rfl
abbrev e_P : Type := e_G × e_F × e_W × e_Q × e_K
abbrev e_Y : Type := e_P → e_A → List e_V → Bool
def e_un (u : e_Y) : e_O := fun g F ls st w c K => u (g, F, w, c, K) ls st
/-- goes on by the tables -/
noncomputable def u_at (nx : Nat) : e_Y := fun X ls st => Prod.rec (motive := fun _ => Bool) (fun g X => Prod.rec (motive := fun _ => Bool) (fun F X => Prod.rec (motive := fun _ => Bool) (fun w X => Prod.rec (motive := fun _ => Bool) (fun c K => g F nx ls st w c K) X) X) X) X
theorem u_atT {nx : Nat} : e_Sn M nx (e_un (u_at nx)) := fun g hg F al st w c K _ h => hg F nx al st w c K h
/-- an old one, by the tables; with its follower; with two -/
def u_tab (o : e_O) : e_Y := fun X ls st => o X.1 X.2.1 ls st X.2.2.1 X.2.2.2.1 X.2.2.2.2
theorem u_tabT {o : e_O} (ho : e_Sn M pc o) : e_Sn M pc (e_un (u_tab o)) := ho
def u_old (o : e_O) (nxt : e_Y) : e_Y := fun X ls st => o (e_k (e_un nxt) X.1) X.2.1 ls st X.2.2.1 X.2.2.2.1 X.2.2.2.2
def u_old2 (o : e_O) (tg : Nat) (nt nn : e_Y) : e_Y := fun X ls st => o (e_k2 tg (e_un nt) (e_un nn) X.1) X.2.1 ls st X.2.2.1 X.2.2.2.1 X.2.2.2.2
theorem u_oldT {nx : Nat} {o : e_O} {nxt : e_Y} (ho : e_Sn M pc o) (hn : e_Sn M nx (e_un nxt)) (hc : ∀ (g1 g2 : e_G) (F : e_F) (ls : e_A) (st : List e_V) (w : e_W) (c : e_Q) (K : e_K), g1 F nx = g2 F nx → o g1 F ls st w c K = o g2 F ls st w c K) : e_Sn M pc (e_un (u_old o nxt)) := e_thr ho hn hc (fun _ _ _ _ _ _ _ => rfl)
def u_push (v : e_V) (nxt : e_Y) : e_Y := fun X ls st => nxt X ls (v :: st)
theorem u_pushT {v : e_V} {nx : Nat} {nxt : e_Y} (ho : e_Sn M pc (o_push v nx)) (hn : e_Sn M nx (e_un nxt)) : e_Sn M pc (e_un (u_push v nxt)) := e_thr ho hn (fun g1 g2 F ls st w c K h => by unfold o_push; rw [h]) (fun g F ls st w c K => rfl)
theorem u_gotoT {nx : Nat} {nxt : e_Y} (ho : e_Sn M pc (o_goto nx)) (hn : e_Sn M nx (e_un nxt)) : e_Sn M pc (e_un nxt) := e_thr ho hn (fun g1 g2 F ls st w c K h => by unfold o_goto; rw [h]) (fun g F ls st w c K => rfl)
theorem e_congr_load {ok : e_V → Bool} {n nx : Nat} (g1 g2 : e_G) (F : e_F) (ls : e_A) (st : List e_V) (w : e_W) (c : e_Q) (K : e_K) (h : g1 F nx = g2 F nx) : o_load ok n nx g1 F ls st w c K = o_load ok n nx g2 F ls st w c K := by unfold o_load; rw [h]
theorem e_congr_store {ok : e_V → Bool} {n nx : Nat} (g1 g2 : e_G) (F : e_F) (ls : e_A) (st : List e_V) (w : e_W) (c : e_Q) (K : e_K) (h : g1 F nx = g2 F nx) : o_store ok n nx g1 F ls st w c K = o_store ok n nx g2 F ls st w c K := by unfold o_store; rw [h]
theorem e_congr_iinc {n d nx : Nat} (g1 g2 : e_G) (F : e_F) (ls : e_A) (st : List e_V) (w : e_W) (c : e_Q) (K : e_K) (h : g1 F nx = g2 F nx) : o_iinc n d nx g1 F ls st w c K = o_iinc n d nx g2 F ls st w c K := by unfold o_iinc; rw [h]
noncomputable def f_fo (n : Nat) (k : Nat → Bool) : Bool := Nat.rec (motive := fun _ => Bool) (k 0) (fun m _ => k (Nat.succ m)) n
theorem f_fo_eq {n : Nat} {k : Nat → Bool} : f_fo n k = e_fo n k := by cases n <;> rfl
theorem e_fo_eq {n : Nat} {k : Nat → Bool} : e_fo n k = k n := by cases n <;> rfl
/-- a word, or two -/
noncomputable def f_w1 (v : e_V) (k1 k2 : Bool) : Bool := Sum.rec (motive := fun _ => Bool) (fun _ => k1) (fun v1 => Sum.rec (motive := fun _ => Bool) (fun _ => k1) (fun v2 => Sum.rec (motive := fun _ => Bool) (fun _ => k2) (fun v3 => Sum.rec (motive := fun _ => Bool) (fun _ => k1) (fun v4 => Sum.rec (motive := fun _ => Bool) (fun _ => k2) (fun _ => k1) v4) v3) v2) v1) v
theorem f_w1_eq {v : e_V} {k1 k2 : Bool} : f_w1 v k1 k2 = bif e_is1 v then k1 else k2 := by
  rcases v with m | r | m | q | q | q <;> rfl
/-- a word kept, half of a long dropped -/
noncomputable def f_c1 (a : Option e_V) (k : Option e_V → Bool) : Bool := Option.rec (motive := fun _ => Bool) (k none) (fun v => f_w1 v (k (some v)) (k none)) a
theorem f_c1_eq {a : Option e_V} {k : Option e_V → Bool} : f_c1 a k = k (e_c1 a) := by
  rcases a with _ | (m | r | m | q | q | q) <;> rfl
/-- the local n: f_l0 .. -/
theorem f_nv_load {β : Type} {f : Option e_V} {l : e_A} {n : Nat} (hf : some f = e_nth l n ∨ f = none ∧ e_nth l n = none) (d : β) (k : e_V → β) : (match f with
  | some v => k v
  | none => d) = (match e_nth l n with
  | some (some v) => k v
  | _ => d) := by
  rcases hf with h | ⟨h1, h2⟩
  · rw [← h]
    cases f <;> rfl
  · rw [h1, h2]
noncomputable def f_l0 (l : e_A) : Option e_V := List.rec (motive := fun _ => Option e_V) none (fun a t0 _ => a) l
theorem f_l0_eq (l : e_A) : some (f_l0 l) = e_nth l 0 ∨ f_l0 l = none ∧ e_nth l 0 = none := by
  rcases l with _ | ⟨a0, l⟩ <;> first | exact Or.inl rfl | exact Or.inr ⟨rfl, rfl⟩
noncomputable def f_l1 (l : e_A) : Option e_V := List.rec (motive := fun _ => Option e_V) none (fun _ t0 _ => List.rec (motive := fun _ => Option e_V) none (fun a t1 _ => a) t0) l
theorem f_l1_eq (l : e_A) : some (f_l1 l) = e_nth l 1 ∨ f_l1 l = none ∧ e_nth l 1 = none := by
  rcases l with _ | ⟨a0, (_ | ⟨a1, l⟩)⟩ <;> first | exact Or.inl rfl | exact Or.inr ⟨rfl, rfl⟩
noncomputable def f_l2 (l : e_A) : Option e_V := List.rec (motive := fun _ => Option e_V) none (fun _ t0 _ => List.rec (motive := fun _ => Option e_V) none (fun _ t1 _ => List.rec (motive := fun _ => Option e_V) none (fun a t2 _ => a) t1) t0) l
theorem f_l2_eq (l : e_A) : some (f_l2 l) = e_nth l 2 ∨ f_l2 l = none ∧ e_nth l 2 = none := by
  rcases l with _ | ⟨a0, (_ | ⟨a1, (_ | ⟨a2, l⟩)⟩)⟩ <;> first | exact Or.inl rfl | exact Or.inr ⟨rfl, rfl⟩
noncomputable def f_l3 (l : e_A) : Option e_V := List.rec (motive := fun _ => Option e_V) none (fun _ t0 _ => List.rec (motive := fun _ => Option e_V) none (fun _ t1 _ => List.rec (motive := fun _ => Option e_V) none (fun _ t2 _ => List.rec (motive := fun _ => Option e_V) none (fun a t3 _ => a) t2) t1) t0) l
theorem f_l3_eq (l : e_A) : some (f_l3 l) = e_nth l 3 ∨ f_l3 l = none ∧ e_nth l 3 = none := by
  rcases l with _ | ⟨a0, (_ | ⟨a1, (_ | ⟨a2, (_ | ⟨a3, l⟩)⟩)⟩)⟩ <;> first | exact Or.inl rfl | exact Or.inr ⟨rfl, rfl⟩
noncomputable def f_l4 (l : e_A) : Option e_V := List.rec (motive := fun _ => Option e_V) none (fun _ t0 _ => List.rec (motive := fun _ => Option e_V) none (fun _ t1 _ => List.rec (motive := fun _ => Option e_V) none (fun _ t2 _ => List.rec (motive := fun _ => Option e_V) none (fun _ t3 _ => List.rec (motive := fun _ => Option e_V) none (fun a t4 _ => a) t3) t2) t1) t0) l
theorem f_l4_eq (l : e_A) : some (f_l4 l) = e_nth l 4 ∨ f_l4 l = none ∧ e_nth l 4 = none := by
  rcases l with _ | ⟨a0, (_ | ⟨a1, (_ | ⟨a2, (_ | ⟨a3, (_ | ⟨a4, l⟩)⟩)⟩)⟩)⟩ <;> first | exact Or.inl rfl | exact Or.inr ⟨rfl, rfl⟩
noncomputable def f_l5 (l : e_A) : Option e_V := List.rec (motive := fun _ => Option e_V) none (fun _ t0 _ => List.rec (motive := fun _ => Option e_V) none (fun _ t1 _ => List.rec (motive := fun _ => Option e_V) none (fun _ t2 _ => List.rec (motive := fun _ => Option e_V) none (fun _ t3 _ => List.rec (motive := fun _ => Option e_V) none (fun _ t4 _ => List.rec (motive := fun _ => Option e_V) none (fun a t5 _ => a) t4) t3) t2) t1) t0) l
theorem f_l5_eq (l : e_A) : some (f_l5 l) = e_nth l 5 ∨ f_l5 l = none ∧ e_nth l 5 = none := by
  rcases l with _ | ⟨a0, (_ | ⟨a1, (_ | ⟨a2, (_ | ⟨a3, (_ | ⟨a4, (_ | ⟨a5, l⟩)⟩)⟩)⟩)⟩)⟩ <;> first | exact Or.inl rfl | exact Or.inr ⟨rfl, rfl⟩
noncomputable def f_l6 (l : e_A) : Option e_V := List.rec (motive := fun _ => Option e_V) none (fun _ t0 _ => List.rec (motive := fun _ => Option e_V) none (fun _ t1 _ => List.rec (motive := fun _ => Option e_V) none (fun _ t2 _ => List.rec (motive := fun _ => Option e_V) none (fun _ t3 _ => List.rec (motive := fun _ => Option e_V) none (fun _ t4 _ => List.rec (motive := fun _ => Option e_V) none (fun _ t5 _ => List.rec (motive := fun _ => Option e_V) none (fun a t6 _ => a) t5) t4) t3) t2) t1) t0) l
theorem f_l6_eq (l : e_A) : some (f_l6 l) = e_nth l 6 ∨ f_l6 l = none ∧ e_nth l 6 = none := by
  rcases l with _ | ⟨a0, (_ | ⟨a1, (_ | ⟨a2, (_ | ⟨a3, (_ | ⟨a4, (_ | ⟨a5, (_ | ⟨a6, l⟩)⟩)⟩)⟩)⟩)⟩)⟩ <;> first | exact Or.inl rfl | exact Or.inr ⟨rfl, rfl⟩
noncomputable def f_l7 (l : e_A) : Option e_V := List.rec (motive := fun _ => Option e_V) none (fun _ t0 _ => List.rec (motive := fun _ => Option e_V) none (fun _ t1 _ => List.rec (motive := fun _ => Option e_V) none (fun _ t2 _ => List.rec (motive := fun _ => Option e_V) none (fun _ t3 _ => List.rec (motive := fun _ => Option e_V) none (fun _ t4 _ => List.rec (motive := fun _ => Option e_V) none (fun _ t5 _ => List.rec (motive := fun _ => Option e_V) none (fun _ t6 _ => List.rec (motive := fun _ => Option e_V) none (fun a t7 _ => a) t6) t5) t4) t3) t2) t1) t0) l
theorem f_l7_eq (l : e_A) : some (f_l7 l) = e_nth l 7 ∨ f_l7 l = none ∧ e_nth l 7 = none := by
  rcases l with _ | ⟨a0, (_ | ⟨a1, (_ | ⟨a2, (_ | ⟨a3, (_ | ⟨a4, (_ | ⟨a5, (_ | ⟨a6, (_ | ⟨a7, l⟩)⟩)⟩)⟩)⟩)⟩)⟩)⟩ <;> first | exact Or.inl rfl | exact Or.inr ⟨rfl, rfl⟩
noncomputable def f_l8 (l : e_A) : Option e_V := List.rec (motive := fun _ => Option e_V) none (fun _ t0 _ => List.rec (motive := fun _ => Option e_V) none (fun _ t1 _ => List.rec (motive := fun _ => Option e_V) none (fun _ t2 _ => List.rec (motive := fun _ => Option e_V) none (fun _ t3 _ => List.rec (motive := fun _ => Option e_V) none (fun _ t4 _ => List.rec (motive := fun _ => Option e_V) none (fun _ t5 _ => List.rec (motive := fun _ => Option e_V) none (fun _ t6 _ => List.rec (motive := fun _ => Option e_V) none (fun _ t7 _ => List.rec (motive := fun _ => Option e_V) none (fun a t8 _ => a) t7) t6) t5) t4) t3) t2) t1) t0) l
theorem f_l8_eq (l : e_A) : some (f_l8 l) = e_nth l 8 ∨ f_l8 l = none ∧ e_nth l 8 = none := by
  rcases l with _ | ⟨a0, (_ | ⟨a1, (_ | ⟨a2, (_ | ⟨a3, (_ | ⟨a4, (_ | ⟨a5, (_ | ⟨a6, (_ | ⟨a7, (_ | ⟨a8, l⟩)⟩)⟩)⟩)⟩)⟩)⟩)⟩)⟩ <;> first | exact Or.inl rfl | exact Or.inr ⟨rfl, rfl⟩
noncomputable def f_l9 (l : e_A) : Option e_V := List.rec (motive := fun _ => Option e_V) none (fun _ t0 _ => List.rec (motive := fun _ => Option e_V) none (fun _ t1 _ => List.rec (motive := fun _ => Option e_V) none (fun _ t2 _ => List.rec (motive := fun _ => Option e_V) none (fun _ t3 _ => List.rec (motive := fun _ => Option e_V) none (fun _ t4 _ => List.rec (motive := fun _ => Option e_V) none (fun _ t5 _ => List.rec (motive := fun _ => Option e_V) none (fun _ t6 _ => List.rec (motive := fun _ => Option e_V) none (fun _ t7 _ => List.rec (motive := fun _ => Option e_V) none (fun _ t8 _ => List.rec (motive := fun _ => Option e_V) none (fun a t9 _ => a) t8) t7) t6) t5) t4) t3) t2) t1) t0) l
theorem f_l9_eq (l : e_A) : some (f_l9 l) = e_nth l 9 ∨ f_l9 l = none ∧ e_nth l 9 = none := by
  rcases l with _ | ⟨a0, (_ | ⟨a1, (_ | ⟨a2, (_ | ⟨a3, (_ | ⟨a4, (_ | ⟨a5, (_ | ⟨a6, (_ | ⟨a7, (_ | ⟨a8, (_ | ⟨a9, l⟩)⟩)⟩)⟩)⟩)⟩)⟩)⟩)⟩)⟩ <;> first | exact Or.inl rfl | exact Or.inr ⟨rfl, rfl⟩
noncomputable def f_l10 (l : e_A) : Option e_V := List.rec (motive := fun _ => Option e_V) none (fun _ t0 _ => List.rec (motive := fun _ => Option e_V) none (fun _ t1 _ => List.rec (motive := fun _ => Option e_V) none (fun _ t2 _ => List.rec (motive := fun _ => Option e_V) none (fun _ t3 _ => List.rec (motive := fun _ => Option e_V) none (fun _ t4 _ => List.rec (motive := fun _ => Option e_V) none (fun _ t5 _ => List.rec (motive := fun _ => Option e_V) none (fun _ t6 _ => List.rec (motive := fun _ => Option e_V) none (fun _ t7 _ => List.rec (motive := fun _ => Option e_V) none (fun _ t8 _ => List.rec (motive := fun _ => Option e_V) none (fun _ t9 _ => List.rec (motive := fun _ => Option e_V) none (fun a t10 _ => a) t9) t8) t7) t6) t5) t4) t3) t2) t1) t0) l
theorem f_l10_eq (l : e_A) : some (f_l10 l) = e_nth l 10 ∨ f_l10 l = none ∧ e_nth l 10 = none := by
  rcases l with _ | ⟨a0, (_ | ⟨a1, (_ | ⟨a2, (_ | ⟨a3, (_ | ⟨a4, (_ | ⟨a5, (_ | ⟨a6, (_ | ⟨a7, (_ | ⟨a8, (_ | ⟨a9, (_ | ⟨a10, l⟩)⟩)⟩)⟩)⟩)⟩)⟩)⟩)⟩)⟩)⟩ <;> first | exact Or.inl rfl | exact Or.inr ⟨rfl, rfl⟩
noncomputable def f_l11 (l : e_A) : Option e_V := List.rec (motive := fun _ => Option e_V) none (fun _ t0 _ => List.rec (motive := fun _ => Option e_V) none (fun _ t1 _ => List.rec (motive := fun _ => Option e_V) none (fun _ t2 _ => List.rec (motive := fun _ => Option e_V) none (fun _ t3 _ => List.rec (motive := fun _ => Option e_V) none (fun _ t4 _ => List.rec (motive := fun _ => Option e_V) none (fun _ t5 _ => List.rec (motive := fun _ => Option e_V) none (fun _ t6 _ => List.rec (motive := fun _ => Option e_V) none (fun _ t7 _ => List.rec (motive := fun _ => Option e_V) none (fun _ t8 _ => List.rec (motive := fun _ => Option e_V) none (fun _ t9 _ => List.rec (motive := fun _ => Option e_V) none (fun _ t10 _ => List.rec (motive := fun _ => Option e_V) none (fun a t11 _ => a) t10) t9) t8) t7) t6) t5) t4) t3) t2) t1) t0) l
theorem f_l11_eq (l : e_A) : some (f_l11 l) = e_nth l 11 ∨ f_l11 l = none ∧ e_nth l 11 = none := by
  rcases l with _ | ⟨a0, (_ | ⟨a1, (_ | ⟨a2, (_ | ⟨a3, (_ | ⟨a4, (_ | ⟨a5, (_ | ⟨a6, (_ | ⟨a7, (_ | ⟨a8, (_ | ⟨a9, (_ | ⟨a10, (_ | ⟨a11, l⟩)⟩)⟩)⟩)⟩)⟩)⟩)⟩)⟩)⟩)⟩)⟩ <;> first | exact Or.inl rfl | exact Or.inr ⟨rfl, rfl⟩
noncomputable def f_l12 (l : e_A) : Option e_V := List.rec (motive := fun _ => Option e_V) none (fun _ t0 _ => List.rec (motive := fun _ => Option e_V) none (fun _ t1 _ => List.rec (motive := fun _ => Option e_V) none (fun _ t2 _ => List.rec (motive := fun _ => Option e_V) none (fun _ t3 _ => List.rec (motive := fun _ => Option e_V) none (fun _ t4 _ => List.rec (motive := fun _ => Option e_V) none (fun _ t5 _ => List.rec (motive := fun _ => Option e_V) none (fun _ t6 _ => List.rec (motive := fun _ => Option e_V) none (fun _ t7 _ => List.rec (motive := fun _ => Option e_V) none (fun _ t8 _ => List.rec (motive := fun _ => Option e_V) none (fun _ t9 _ => List.rec (motive := fun _ => Option e_V) none (fun _ t10 _ => List.rec (motive := fun _ => Option e_V) none (fun _ t11 _ => List.rec (motive := fun _ => Option e_V) none (fun a t12 _ => a) t11) t10) t9) t8) t7) t6) t5) t4) t3) t2) t1) t0) l
theorem f_l12_eq (l : e_A) : some (f_l12 l) = e_nth l 12 ∨ f_l12 l = none ∧ e_nth l 12 = none := by
  rcases l with _ | ⟨a0, (_ | ⟨a1, (_ | ⟨a2, (_ | ⟨a3, (_ | ⟨a4, (_ | ⟨a5, (_ | ⟨a6, (_ | ⟨a7, (_ | ⟨a8, (_ | ⟨a9, (_ | ⟨a10, (_ | ⟨a11, (_ | ⟨a12, l⟩)⟩)⟩)⟩)⟩)⟩)⟩)⟩)⟩)⟩)⟩)⟩)⟩ <;> first | exact Or.inl rfl | exact Or.inr ⟨rfl, rfl⟩
noncomputable def f_l13 (l : e_A) : Option e_V := List.rec (motive := fun _ => Option e_V) none (fun _ t0 _ => List.rec (motive := fun _ => Option e_V) none (fun _ t1 _ => List.rec (motive := fun _ => Option e_V) none (fun _ t2 _ => List.rec (motive := fun _ => Option e_V) none (fun _ t3 _ => List.rec (motive := fun _ => Option e_V) none (fun _ t4 _ => List.rec (motive := fun _ => Option e_V) none (fun _ t5 _ => List.rec (motive := fun _ => Option e_V) none (fun _ t6 _ => List.rec (motive := fun _ => Option e_V) none (fun _ t7 _ => List.rec (motive := fun _ => Option e_V) none (fun _ t8 _ => List.rec (motive := fun _ => Option e_V) none (fun _ t9 _ => List.rec (motive := fun _ => Option e_V) none (fun _ t10 _ => List.rec (motive := fun _ => Option e_V) none (fun _ t11 _ => List.rec (motive := fun _ => Option e_V) none (fun _ t12 _ => List.rec (motive := fun _ => Option e_V) none (fun a t13 _ => a) t12) t11) t10) t9) t8) t7) t6) t5) t4) t3) t2) t1) t0) l
theorem f_l13_eq (l : e_A) : some (f_l13 l) = e_nth l 13 ∨ f_l13 l = none ∧ e_nth l 13 = none := by
  rcases l with _ | ⟨a0, (_ | ⟨a1, (_ | ⟨a2, (_ | ⟨a3, (_ | ⟨a4, (_ | ⟨a5, (_ | ⟨a6, (_ | ⟨a7, (_ | ⟨a8, (_ | ⟨a9, (_ | ⟨a10, (_ | ⟨a11, (_ | ⟨a12, (_ | ⟨a13, l⟩)⟩)⟩)⟩)⟩)⟩)⟩)⟩)⟩)⟩)⟩)⟩)⟩)⟩ <;> first | exact Or.inl rfl | exact Or.inr ⟨rfl, rfl⟩
noncomputable def f_l14 (l : e_A) : Option e_V := List.rec (motive := fun _ => Option e_V) none (fun _ t0 _ => List.rec (motive := fun _ => Option e_V) none (fun _ t1 _ => List.rec (motive := fun _ => Option e_V) none (fun _ t2 _ => List.rec (motive := fun _ => Option e_V) none (fun _ t3 _ => List.rec (motive := fun _ => Option e_V) none (fun _ t4 _ => List.rec (motive := fun _ => Option e_V) none (fun _ t5 _ => List.rec (motive := fun _ => Option e_V) none (fun _ t6 _ => List.rec (motive := fun _ => Option e_V) none (fun _ t7 _ => List.rec (motive := fun _ => Option e_V) none (fun _ t8 _ => List.rec (motive := fun _ => Option e_V) none (fun _ t9 _ => List.rec (motive := fun _ => Option e_V) none (fun _ t10 _ => List.rec (motive := fun _ => Option e_V) none (fun _ t11 _ => List.rec (motive := fun _ => Option e_V) none (fun _ t12 _ => List.rec (motive := fun _ => Option e_V) none (fun _ t13 _ => List.rec (motive := fun _ => Option e_V) none (fun a t14 _ => a) t13) t12) t11) t10) t9) t8) t7) t6) t5) t4) t3) t2) t1) t0) l
theorem f_l14_eq (l : e_A) : some (f_l14 l) = e_nth l 14 ∨ f_l14 l = none ∧ e_nth l 14 = none := by
  rcases l with _ | ⟨a0, (_ | ⟨a1, (_ | ⟨a2, (_ | ⟨a3, (_ | ⟨a4, (_ | ⟨a5, (_ | ⟨a6, (_ | ⟨a7, (_ | ⟨a8, (_ | ⟨a9, (_ | ⟨a10, (_ | ⟨a11, (_ | ⟨a12, (_ | ⟨a13, (_ | ⟨a14, l⟩)⟩)⟩)⟩)⟩)⟩)⟩)⟩)⟩)⟩)⟩)⟩)⟩)⟩)⟩ <;> first | exact Or.inl rfl | exact Or.inr ⟨rfl, rfl⟩
noncomputable def f_l15 (l : e_A) : Option e_V := List.rec (motive := fun _ => Option e_V) none (fun _ t0 _ => List.rec (motive := fun _ => Option e_V) none (fun _ t1 _ => List.rec (motive := fun _ => Option e_V) none (fun _ t2 _ => List.rec (motive := fun _ => Option e_V) none (fun _ t3 _ => List.rec (motive := fun _ => Option e_V) none (fun _ t4 _ => List.rec (motive := fun _ => Option e_V) none (fun _ t5 _ => List.rec (motive := fun _ => Option e_V) none (fun _ t6 _ => List.rec (motive := fun _ => Option e_V) none (fun _ t7 _ => List.rec (motive := fun _ => Option e_V) none (fun _ t8 _ => List.rec (motive := fun _ => Option e_V) none (fun _ t9 _ => List.rec (motive := fun _ => Option e_V) none (fun _ t10 _ => List.rec (motive := fun _ => Option e_V) none (fun _ t11 _ => List.rec (motive := fun _ => Option e_V) none (fun _ t12 _ => List.rec (motive := fun _ => Option e_V) none (fun _ t13 _ => List.rec (motive := fun _ => Option e_V) none (fun _ t14 _ => List.rec (motive := fun _ => Option e_V) none (fun a t15 _ => a) t14) t13) t12) t11) t10) t9) t8) t7) t6) t5) t4) t3) t2) t1) t0) l
theorem f_l15_eq (l : e_A) : some (f_l15 l) = e_nth l 15 ∨ f_l15 l = none ∧ e_nth l 15 = none := by
  rcases l with _ | ⟨a0, (_ | ⟨a1, (_ | ⟨a2, (_ | ⟨a3, (_ | ⟨a4, (_ | ⟨a5, (_ | ⟨a6, (_ | ⟨a7, (_ | ⟨a8, (_ | ⟨a9, (_ | ⟨a10, (_ | ⟨a11, (_ | ⟨a12, (_ | ⟨a13, (_ | ⟨a14, (_ | ⟨a15, l⟩)⟩)⟩)⟩)⟩)⟩)⟩)⟩)⟩)⟩)⟩)⟩)⟩)⟩)⟩)⟩ <;> first | exact Or.inl rfl | exact Or.inr ⟨rfl, rfl⟩
noncomputable def f_l16 (l : e_A) : Option e_V := List.rec (motive := fun _ => Option e_V) none (fun _ t0 _ => List.rec (motive := fun _ => Option e_V) none (fun _ t1 _ => List.rec (motive := fun _ => Option e_V) none (fun _ t2 _ => List.rec (motive := fun _ => Option e_V) none (fun _ t3 _ => List.rec (motive := fun _ => Option e_V) none (fun _ t4 _ => List.rec (motive := fun _ => Option e_V) none (fun _ t5 _ => List.rec (motive := fun _ => Option e_V) none (fun _ t6 _ => List.rec (motive := fun _ => Option e_V) none (fun _ t7 _ => List.rec (motive := fun _ => Option e_V) none (fun _ t8 _ => List.rec (motive := fun _ => Option e_V) none (fun _ t9 _ => List.rec (motive := fun _ => Option e_V) none (fun _ t10 _ => List.rec (motive := fun _ => Option e_V) none (fun _ t11 _ => List.rec (motive := fun _ => Option e_V) none (fun _ t12 _ => List.rec (motive := fun _ => Option e_V) none (fun _ t13 _ => List.rec (motive := fun _ => Option e_V) none (fun _ t14 _ => List.rec (motive := fun _ => Option e_V) none (fun _ t15 _ => List.rec (motive := fun _ => Option e_V) none (fun a t16 _ => a) t15) t14) t13) t12) t11) t10) t9) t8) t7) t6) t5) t4) t3) t2) t1) t0) l
theorem f_l16_eq (l : e_A) : some (f_l16 l) = e_nth l 16 ∨ f_l16 l = none ∧ e_nth l 16 = none := by
  rcases l with _ | ⟨a0, (_ | ⟨a1, (_ | ⟨a2, (_ | ⟨a3, (_ | ⟨a4, (_ | ⟨a5, (_ | ⟨a6, (_ | ⟨a7, (_ | ⟨a8, (_ | ⟨a9, (_ | ⟨a10, (_ | ⟨a11, (_ | ⟨a12, (_ | ⟨a13, (_ | ⟨a14, (_ | ⟨a15, (_ | ⟨a16, l⟩)⟩)⟩)⟩)⟩)⟩)⟩)⟩)⟩)⟩)⟩)⟩)⟩)⟩)⟩)⟩)⟩ <;> first | exact Or.inl rfl | exact Or.inr ⟨rfl, rfl⟩
noncomputable def f_l17 (l : e_A) : Option e_V := List.rec (motive := fun _ => Option e_V) none (fun _ t0 _ => List.rec (motive := fun _ => Option e_V) none (fun _ t1 _ => List.rec (motive := fun _ => Option e_V) none (fun _ t2 _ => List.rec (motive := fun _ => Option e_V) none (fun _ t3 _ => List.rec (motive := fun _ => Option e_V) none (fun _ t4 _ => List.rec (motive := fun _ => Option e_V) none (fun _ t5 _ => List.rec (motive := fun _ => Option e_V) none (fun _ t6 _ => List.rec (motive := fun _ => Option e_V) none (fun _ t7 _ => List.rec (motive := fun _ => Option e_V) none (fun _ t8 _ => List.rec (motive := fun _ => Option e_V) none (fun _ t9 _ => List.rec (motive := fun _ => Option e_V) none (fun _ t10 _ => List.rec (motive := fun _ => Option e_V) none (fun _ t11 _ => List.rec (motive := fun _ => Option e_V) none (fun _ t12 _ => List.rec (motive := fun _ => Option e_V) none (fun _ t13 _ => List.rec (motive := fun _ => Option e_V) none (fun _ t14 _ => List.rec (motive := fun _ => Option e_V) none (fun _ t15 _ => List.rec (motive := fun _ => Option e_V) none (fun _ t16 _ => List.rec (motive := fun _ => Option e_V) none (fun a t17 _ => a) t16) t15) t14) t13) t12) t11) t10) t9) t8) t7) t6) t5) t4) t3) t2) t1) t0) l
theorem f_l17_eq (l : e_A) : some (f_l17 l) = e_nth l 17 ∨ f_l17 l = none ∧ e_nth l 17 = none := by
  rcases l with _ | ⟨a0, (_ | ⟨a1, (_ | ⟨a2, (_ | ⟨a3, (_ | ⟨a4, (_ | ⟨a5, (_ | ⟨a6, (_ | ⟨a7, (_ | ⟨a8, (_ | ⟨a9, (_ | ⟨a10, (_ | ⟨a11, (_ | ⟨a12, (_ | ⟨a13, (_ | ⟨a14, (_ | ⟨a15, (_ | ⟨a16, (_ | ⟨a17, l⟩)⟩)⟩)⟩)⟩)⟩)⟩)⟩)⟩)⟩)⟩)⟩)⟩)⟩)⟩)⟩)⟩)⟩ <;> first | exact Or.inl rfl | exact Or.inr ⟨rfl, rfl⟩
noncomputable def f_l18 (l : e_A) : Option e_V := List.rec (motive := fun _ => Option e_V) none (fun _ t0 _ => List.rec (motive := fun _ => Option e_V) none (fun _ t1 _ => List.rec (motive := fun _ => Option e_V) none (fun _ t2 _ => List.rec (motive := fun _ => Option e_V) none (fun _ t3 _ => List.rec (motive := fun _ => Option e_V) none (fun _ t4 _ => List.rec (motive := fun _ => Option e_V) none (fun _ t5 _ => List.rec (motive := fun _ => Option e_V) none (fun _ t6 _ => List.rec (motive := fun _ => Option e_V) none (fun _ t7 _ => List.rec (motive := fun _ => Option e_V) none (fun _ t8 _ => List.rec (motive := fun _ => Option e_V) none (fun _ t9 _ => List.rec (motive := fun _ => Option e_V) none (fun _ t10 _ => List.rec (motive := fun _ => Option e_V) none (fun _ t11 _ => List.rec (motive := fun _ => Option e_V) none (fun _ t12 _ => List.rec (motive := fun _ => Option e_V) none (fun _ t13 _ => List.rec (motive := fun _ => Option e_V) none (fun _ t14 _ => List.rec (motive := fun _ => Option e_V) none (fun _ t15 _ => List.rec (motive := fun _ => Option e_V) none (fun _ t16 _ => List.rec (motive := fun _ => Option e_V) none (fun _ t17 _ => List.rec (motive := fun _ => Option e_V) none (fun a t18 _ => a) t17) t16) t15) t14) t13) t12) t11) t10) t9) t8) t7) t6) t5) t4) t3) t2) t1) t0) l
theorem f_l18_eq (l : e_A) : some (f_l18 l) = e_nth l 18 ∨ f_l18 l = none ∧ e_nth l 18 = none := by
  rcases l with _ | ⟨a0, (_ | ⟨a1, (_ | ⟨a2, (_ | ⟨a3, (_ | ⟨a4, (_ | ⟨a5, (_ | ⟨a6, (_ | ⟨a7, (_ | ⟨a8, (_ | ⟨a9, (_ | ⟨a10, (_ | ⟨a11, (_ | ⟨a12, (_ | ⟨a13, (_ | ⟨a14, (_ | ⟨a15, (_ | ⟨a16, (_ | ⟨a17, (_ | ⟨a18, l⟩)⟩)⟩)⟩)⟩)⟩)⟩)⟩)⟩)⟩)⟩)⟩)⟩)⟩)⟩)⟩)⟩)⟩)⟩ <;> first | exact Or.inl rfl | exact Or.inr ⟨rfl, rfl⟩
noncomputable def f_l19 (l : e_A) : Option e_V := List.rec (motive := fun _ => Option e_V) none (fun _ t0 _ => List.rec (motive := fun _ => Option e_V) none (fun _ t1 _ => List.rec (motive := fun _ => Option e_V) none (fun _ t2 _ => List.rec (motive := fun _ => Option e_V) none (fun _ t3 _ => List.rec (motive := fun _ => Option e_V) none (fun _ t4 _ => List.rec (motive := fun _ => Option e_V) none (fun _ t5 _ => List.rec (motive := fun _ => Option e_V) none (fun _ t6 _ => List.rec (motive := fun _ => Option e_V) none (fun _ t7 _ => List.rec (motive := fun _ => Option e_V) none (fun _ t8 _ => List.rec (motive := fun _ => Option e_V) none (fun _ t9 _ => List.rec (motive := fun _ => Option e_V) none (fun _ t10 _ => List.rec (motive := fun _ => Option e_V) none (fun _ t11 _ => List.rec (motive := fun _ => Option e_V) none (fun _ t12 _ => List.rec (motive := fun _ => Option e_V) none (fun _ t13 _ => List.rec (motive := fun _ => Option e_V) none (fun _ t14 _ => List.rec (motive := fun _ => Option e_V) none (fun _ t15 _ => List.rec (motive := fun _ => Option e_V) none (fun _ t16 _ => List.rec (motive := fun _ => Option e_V) none (fun _ t17 _ => List.rec (motive := fun _ => Option e_V) none (fun _ t18 _ => List.rec (motive := fun _ => Option e_V) none (fun a t19 _ => a) t18) t17) t16) t15) t14) t13) t12) t11) t10) t9) t8) t7) t6) t5) t4) t3) t2) t1) t0) l
theorem f_l19_eq (l : e_A) : some (f_l19 l) = e_nth l 19 ∨ f_l19 l = none ∧ e_nth l 19 = none := by
  rcases l with _ | ⟨a0, (_ | ⟨a1, (_ | ⟨a2, (_ | ⟨a3, (_ | ⟨a4, (_ | ⟨a5, (_ | ⟨a6, (_ | ⟨a7, (_ | ⟨a8, (_ | ⟨a9, (_ | ⟨a10, (_ | ⟨a11, (_ | ⟨a12, (_ | ⟨a13, (_ | ⟨a14, (_ | ⟨a15, (_ | ⟨a16, (_ | ⟨a17, (_ | ⟨a18, (_ | ⟨a19, l⟩)⟩)⟩)⟩)⟩)⟩)⟩)⟩)⟩)⟩)⟩)⟩)⟩)⟩)⟩)⟩)⟩)⟩)⟩)⟩ <;> first | exact Or.inl rfl | exact Or.inr ⟨rfl, rfl⟩
noncomputable def f_l20 (l : e_A) : Option e_V := List.rec (motive := fun _ => Option e_V) none (fun _ t0 _ => List.rec (motive := fun _ => Option e_V) none (fun _ t1 _ => List.rec (motive := fun _ => Option e_V) none (fun _ t2 _ => List.rec (motive := fun _ => Option e_V) none (fun _ t3 _ => List.rec (motive := fun _ => Option e_V) none (fun _ t4 _ => List.rec (motive := fun _ => Option e_V) none (fun _ t5 _ => List.rec (motive := fun _ => Option e_V) none (fun _ t6 _ => List.rec (motive := fun _ => Option e_V) none (fun _ t7 _ => List.rec (motive := fun _ => Option e_V) none (fun _ t8 _ => List.rec (motive := fun _ => Option e_V) none (fun _ t9 _ => List.rec (motive := fun _ => Option e_V) none (fun _ t10 _ => List.rec (motive := fun _ => Option e_V) none (fun _ t11 _ => List.rec (motive := fun _ => Option e_V) none (fun _ t12 _ => List.rec (motive := fun _ => Option e_V) none (fun _ t13 _ => List.rec (motive := fun _ => Option e_V) none (fun _ t14 _ => List.rec (motive := fun _ => Option e_V) none (fun _ t15 _ => List.rec (motive := fun _ => Option e_V) none (fun _ t16 _ => List.rec (motive := fun _ => Option e_V) none (fun _ t17 _ => List.rec (motive := fun _ => Option e_V) none (fun _ t18 _ => List.rec (motive := fun _ => Option e_V) none (fun _ t19 _ => List.rec (motive := fun _ => Option e_V) none (fun a t20 _ => a) t19) t18) t17) t16) t15) t14) t13) t12) t11) t10) t9) t8) t7) t6) t5) t4) t3) t2) t1) t0) l
theorem f_l20_eq (l : e_A) : some (f_l20 l) = e_nth l 20 ∨ f_l20 l = none ∧ e_nth l 20 = none := by
  rcases l with _ | ⟨a0, (_ | ⟨a1, (_ | ⟨a2, (_ | ⟨a3, (_ | ⟨a4, (_ | ⟨a5, (_ | ⟨a6, (_ | ⟨a7, (_ | ⟨a8, (_ | ⟨a9, (_ | ⟨a10, (_ | ⟨a11, (_ | ⟨a12, (_ | ⟨a13, (_ | ⟨a14, (_ | ⟨a15, (_ | ⟨a16, (_ | ⟨a17, (_ | ⟨a18, (_ | ⟨a19, (_ | ⟨a20, l⟩)⟩)⟩)⟩)⟩)⟩)⟩)⟩)⟩)⟩)⟩)⟩)⟩)⟩)⟩)⟩)⟩)⟩)⟩)⟩)⟩ <;> first | exact Or.inl rfl | exact Or.inr ⟨rfl, rfl⟩
noncomputable def f_l21 (l : e_A) : Option e_V := List.rec (motive := fun _ => Option e_V) none (fun _ t0 _ => List.rec (motive := fun _ => Option e_V) none (fun _ t1 _ => List.rec (motive := fun _ => Option e_V) none (fun _ t2 _ => List.rec (motive := fun _ => Option e_V) none (fun _ t3 _ => List.rec (motive := fun _ => Option e_V) none (fun _ t4 _ => List.rec (motive := fun _ => Option e_V) none (fun _ t5 _ => List.rec (motive := fun _ => Option e_V) none (fun _ t6 _ => List.rec (motive := fun _ => Option e_V) none (fun _ t7 _ => List.rec (motive := fun _ => Option e_V) none (fun _ t8 _ => List.rec (motive := fun _ => Option e_V) none (fun _ t9 _ => List.rec (motive := fun _ => Option e_V) none (fun _ t10 _ => List.rec (motive := fun _ => Option e_V) none (fun _ t11 _ => List.rec (motive := fun _ => Option e_V) none (fun _ t12 _ => List.rec (motive := fun _ => Option e_V) none (fun _ t13 _ => List.rec (motive := fun _ => Option e_V) none (fun _ t14 _ => List.rec (motive := fun _ => Option e_V) none (fun _ t15 _ => List.rec (motive := fun _ => Option e_V) none (fun _ t16 _ => List.rec (motive := fun _ => Option e_V) none (fun _ t17 _ => List.rec (motive := fun _ => Option e_V) none (fun _ t18 _ => List.rec (motive := fun _ => Option e_V) none (fun _ t19 _ => List.rec (motive := fun _ => Option e_V) none (fun _ t20 _ => List.rec (motive := fun _ => Option e_V) none (fun a t21 _ => a) t20) t19) t18) t17) t16) t15) t14) t13) t12) t11) t10) t9) t8) t7) t6) t5) t4) t3) t2) t1) t0) l
theorem f_l21_eq (l : e_A) : some (f_l21 l) = e_nth l 21 ∨ f_l21 l = none ∧ e_nth l 21 = none := by
  rcases l with _ | ⟨a0, (_ | ⟨a1, (_ | ⟨a2, (_ | ⟨a3, (_ | ⟨a4, (_ | ⟨a5, (_ | ⟨a6, (_ | ⟨a7, (_ | ⟨a8, (_ | ⟨a9, (_ | ⟨a10, (_ | ⟨a11, (_ | ⟨a12, (_ | ⟨a13, (_ | ⟨a14, (_ | ⟨a15, (_ | ⟨a16, (_ | ⟨a17, (_ | ⟨a18, (_ | ⟨a19, (_ | ⟨a20, (_ | ⟨a21, l⟩)⟩)⟩)⟩)⟩)⟩)⟩)⟩)⟩)⟩)⟩)⟩)⟩)⟩)⟩)⟩)⟩)⟩)⟩)⟩)⟩)⟩ <;> first | exact Or.inl rfl | exact Or.inr ⟨rfl, rfl⟩
noncomputable def f_l22 (l : e_A) : Option e_V := List.rec (motive := fun _ => Option e_V) none (fun _ t0 _ => List.rec (motive := fun _ => Option e_V) none (fun _ t1 _ => List.rec (motive := fun _ => Option e_V) none (fun _ t2 _ => List.rec (motive := fun _ => Option e_V) none (fun _ t3 _ => List.rec (motive := fun _ => Option e_V) none (fun _ t4 _ => List.rec (motive := fun _ => Option e_V) none (fun _ t5 _ => List.rec (motive := fun _ => Option e_V) none (fun _ t6 _ => List.rec (motive := fun _ => Option e_V) none (fun _ t7 _ => List.rec (motive := fun _ => Option e_V) none (fun _ t8 _ => List.rec (motive := fun _ => Option e_V) none (fun _ t9 _ => List.rec (motive := fun _ => Option e_V) none (fun _ t10 _ => List.rec (motive := fun _ => Option e_V) none (fun _ t11 _ => List.rec (motive := fun _ => Option e_V) none (fun _ t12 _ => List.rec (motive := fun _ => Option e_V) none (fun _ t13 _ => List.rec (motive := fun _ => Option e_V) none (fun _ t14 _ => List.rec (motive := fun _ => Option e_V) none (fun _ t15 _ => List.rec (motive := fun _ => Option e_V) none (fun _ t16 _ => List.rec (motive := fun _ => Option e_V) none (fun _ t17 _ => List.rec (motive := fun _ => Option e_V) none (fun _ t18 _ => List.rec (motive := fun _ => Option e_V) none (fun _ t19 _ => List.rec (motive := fun _ => Option e_V) none (fun _ t20 _ => List.rec (motive := fun _ => Option e_V) none (fun _ t21 _ => List.rec (motive := fun _ => Option e_V) none (fun a t22 _ => a) t21) t20) t19) t18) t17) t16) t15) t14) t13) t12) t11) t10) t9) t8) t7) t6) t5) t4) t3) t2) t1) t0) l
theorem f_l22_eq (l : e_A) : some (f_l22 l) = e_nth l 22 ∨ f_l22 l = none ∧ e_nth l 22 = none := by
  rcases l with _ | ⟨a0, (_ | ⟨a1, (_ | ⟨a2, (_ | ⟨a3, (_ | ⟨a4, (_ | ⟨a5, (_ | ⟨a6, (_ | ⟨a7, (_ | ⟨a8, (_ | ⟨a9, (_ | ⟨a10, (_ | ⟨a11, (_ | ⟨a12, (_ | ⟨a13, (_ | ⟨a14, (_ | ⟨a15, (_ | ⟨a16, (_ | ⟨a17, (_ | ⟨a18, (_ | ⟨a19, (_ | ⟨a20, (_ | ⟨a21, (_ | ⟨a22, l⟩)⟩)⟩)⟩)⟩)⟩)⟩)⟩)⟩)⟩)⟩)⟩)⟩)⟩)⟩)⟩)⟩)⟩)⟩)⟩)⟩)⟩)⟩ <;> first | exact Or.inl rfl | exact Or.inr ⟨rfl, rfl⟩
noncomputable def f_l23 (l : e_A) : Option e_V := List.rec (motive := fun _ => Option e_V) none (fun _ t0 _ => List.rec (motive := fun _ => Option e_V) none (fun _ t1 _ => List.rec (motive := fun _ => Option e_V) none (fun _ t2 _ => List.rec (motive := fun _ => Option e_V) none (fun _ t3 _ => List.rec (motive := fun _ => Option e_V) none (fun _ t4 _ => List.rec (motive := fun _ => Option e_V) none (fun _ t5 _ => List.rec (motive := fun _ => Option e_V) none (fun _ t6 _ => List.rec (motive := fun _ => Option e_V) none (fun _ t7 _ => List.rec (motive := fun _ => Option e_V) none (fun _ t8 _ => List.rec (motive := fun _ => Option e_V) none (fun _ t9 _ => List.rec (motive := fun _ => Option e_V) none (fun _ t10 _ => List.rec (motive := fun _ => Option e_V) none (fun _ t11 _ => List.rec (motive := fun _ => Option e_V) none (fun _ t12 _ => List.rec (motive := fun _ => Option e_V) none (fun _ t13 _ => List.rec (motive := fun _ => Option e_V) none (fun _ t14 _ => List.rec (motive := fun _ => Option e_V) none (fun _ t15 _ => List.rec (motive := fun _ => Option e_V) none (fun _ t16 _ => List.rec (motive := fun _ => Option e_V) none (fun _ t17 _ => List.rec (motive := fun _ => Option e_V) none (fun _ t18 _ => List.rec (motive := fun _ => Option e_V) none (fun _ t19 _ => List.rec (motive := fun _ => Option e_V) none (fun _ t20 _ => List.rec (motive := fun _ => Option e_V) none (fun _ t21 _ => List.rec (motive := fun _ => Option e_V) none (fun _ t22 _ => List.rec (motive := fun _ => Option e_V) none (fun a t23 _ => a) t22) t21) t20) t19) t18) t17) t16) t15) t14) t13) t12) t11) t10) t9) t8) t7) t6) t5) t4) t3) t2) t1) t0) l
theorem f_l23_eq (l : e_A) : some (f_l23 l) = e_nth l 23 ∨ f_l23 l = none ∧ e_nth l 23 = none := by
  rcases l with _ | ⟨a0, (_ | ⟨a1, (_ | ⟨a2, (_ | ⟨a3, (_ | ⟨a4, (_ | ⟨a5, (_ | ⟨a6, (_ | ⟨a7, (_ | ⟨a8, (_ | ⟨a9, (_ | ⟨a10, (_ | ⟨a11, (_ | ⟨a12, (_ | ⟨a13, (_ | ⟨a14, (_ | ⟨a15, (_ | ⟨a16, (_ | ⟨a17, (_ | ⟨a18, (_ | ⟨a19, (_ | ⟨a20, (_ | ⟨a21, (_ | ⟨a22, (_ | ⟨a23, l⟩)⟩)⟩)⟩)⟩)⟩)⟩)⟩)⟩)⟩)⟩)⟩)⟩)⟩)⟩)⟩)⟩)⟩)⟩)⟩)⟩)⟩)⟩)⟩ <;> first | exact Or.inl rfl | exact Or.inr ⟨rfl, rfl⟩
noncomputable def f_okI (v : e_V) : Bool := Sum.rec (motive := fun _ => Bool) (fun _ => true) (fun z => e_okI (.inr z)) v
theorem f_okI_eq {v : e_V} : f_okI v = e_okI v := by rcases v with m | v <;> rfl
noncomputable def f_okA (v : e_V) : Bool := Sum.rec (motive := fun _ => Bool) (fun _ => false) (fun z => Sum.rec (motive := fun _ => Bool) (fun _ => true) (fun z2 => e_okR (.inr (.inr z2))) z) v
theorem f_okA_eq {v : e_V} : f_okA v = e_okR v := by rcases v with m | r | v <;> rfl
noncomputable def u_ld (ok : e_V → Bool) (f : e_A → Option e_V) (nxt : e_Y) : e_Y := fun X ls st => Option.rec (motive := fun _ => Bool) false (fun v => Bool.rec (motive := fun _ => Bool) false (nxt X ls (v :: st)) (ok v)) (f ls)
theorem u_ld_eq {ok ok2 : e_V → Bool} (hok : ∀ v, ok v = ok2 v) {f : e_A → Option e_V} {n nx : Nat} (hf : ∀ l, some (f l) = e_nth l n ∨ f l = none ∧ e_nth l n = none) {nxt : e_Y} (g : e_G) (F : e_F) (ls : e_A) (st : List e_V) (w : e_W) (c : e_Q) (K : e_K) : e_un (u_ld ok f nxt) g F ls st w c K = o_load ok2 n nx (e_k (e_un nxt) g) F ls st w c K := by
  unfold o_load
  refine Eq.trans ?_ (f_nv_load (hf ls) false (fun v => bif ok2 v then e_k (e_un nxt) g F nx ls (v :: st) w c K else false))
  unfold e_un u_ld
  cases f ls with
  | none => rfl
  | some v =>
    dsimp only
    rw [hok]
    cases ok2 v <;> rfl
theorem u_ldIT {f : e_A → Option e_V} {n nx : Nat} {nxt : e_Y} (hf : ∀ l, some (f l) = e_nth l n ∨ f l = none ∧ e_nth l n = none) (ho : e_Sn M pc (o_load e_okI n nx)) (hn : e_Sn M nx (e_un nxt)) : e_Sn M pc (e_un (u_ld f_okI f nxt)) := e_thr ho hn e_congr_load (u_ld_eq (fun _ => f_okI_eq) hf)
theorem u_ldAT {f : e_A → Option e_V} {n nx : Nat} {nxt : e_Y} (hf : ∀ l, some (f l) = e_nth l n ∨ f l = none ∧ e_nth l n = none) (ho : e_Sn M pc (o_load e_okR n nx)) (hn : e_Sn M nx (e_un nxt)) : e_Sn M pc (e_un (u_ld f_okA f nxt)) := e_thr ho hn e_congr_load (u_ld_eq (fun _ => f_okA_eq) hf)
/-- stores, by the place: f_s0, f_s1 .. -/
noncomputable def f_s0 (x : Option e_V) (l : e_A) (k : e_A → Bool) : Bool := List.rec (motive := fun _ => Bool) false (fun _ t _ => k (x :: t)) l
noncomputable def f_s1 (x : Option e_V) (l : e_A) (k : e_A → Bool) : Bool := List.rec (motive := fun _ => Bool) false (fun a t _ => f_c1 a (fun b => f_s0 x t (fun t2 => k (b :: t2)))) l
theorem f_s0_eq {x : Option e_V} {l : e_A} {k : e_A → Bool} : f_s0 x l k = e_lst x l 0 k := by cases l <;> rfl
theorem f_s1_eq {x : Option e_V} {l : e_A} {k : e_A → Bool} : f_s1 x l k = e_lst x l 1 k := by
  rcases l with _ | ⟨a, l⟩
  · rfl
  · show f_c1 a (fun b => f_s0 x l (fun t2 => k (b :: t2))) = e_lst x l 0 (fun t2 => k (e_c1 a :: t2))
    rw [f_c1_eq, f_s0_eq]
noncomputable def f_s2 (x : Option e_V) (l : e_A) (k : e_A → Bool) : Bool := List.rec (motive := fun _ => Bool) false (fun a0 t0 _ => List.rec (motive := fun _ => Bool) false (fun a1 t1 _ => List.rec (motive := fun _ => Bool) false (fun _ t2 _ => f_c1 a1 (fun b => k (a0 :: b :: x :: t2))) t1) t0) l
theorem f_s2_eq {x : Option e_V} {l : e_A} {k : e_A → Bool} : f_s2 x l k = e_lst x l 2 k := by
  rcases l with _ | ⟨a0, (_ | ⟨a1, (_ | ⟨a2, l⟩)⟩)⟩ <;> first | rfl | exact f_c1_eq (a := a1) (k := fun b => k (a0 :: b :: x :: l))
noncomputable def f_s3 (x : Option e_V) (l : e_A) (k : e_A → Bool) : Bool := List.rec (motive := fun _ => Bool) false (fun a0 t0 _ => List.rec (motive := fun _ => Bool) false (fun a1 t1 _ => List.rec (motive := fun _ => Bool) false (fun a2 t2 _ => List.rec (motive := fun _ => Bool) false (fun _ t3 _ => f_c1 a2 (fun b => k (a0 :: a1 :: b :: x :: t3))) t2) t1) t0) l
theorem f_s3_eq {x : Option e_V} {l : e_A} {k : e_A → Bool} : f_s3 x l k = e_lst x l 3 k := by
  rcases l with _ | ⟨a0, (_ | ⟨a1, (_ | ⟨a2, (_ | ⟨a3, l⟩)⟩)⟩)⟩ <;> first | rfl | exact f_c1_eq (a := a2) (k := fun b => k (a0 :: a1 :: b :: x :: l))
noncomputable def f_s4 (x : Option e_V) (l : e_A) (k : e_A → Bool) : Bool := List.rec (motive := fun _ => Bool) false (fun a0 t0 _ => List.rec (motive := fun _ => Bool) false (fun a1 t1 _ => List.rec (motive := fun _ => Bool) false (fun a2 t2 _ => List.rec (motive := fun _ => Bool) false (fun a3 t3 _ => List.rec (motive := fun _ => Bool) false (fun _ t4 _ => f_c1 a3 (fun b => k (a0 :: a1 :: a2 :: b :: x :: t4))) t3) t2) t1) t0) l
theorem f_s4_eq {x : Option e_V} {l : e_A} {k : e_A → Bool} : f_s4 x l k = e_lst x l 4 k := by
  rcases l with _ | ⟨a0, (_ | ⟨a1, (_ | ⟨a2, (_ | ⟨a3, (_ | ⟨a4, l⟩)⟩)⟩)⟩)⟩ <;> first | rfl | exact f_c1_eq (a := a3) (k := fun b => k (a0 :: a1 :: a2 :: b :: x :: l))
noncomputable def f_s5 (x : Option e_V) (l : e_A) (k : e_A → Bool) : Bool := List.rec (motive := fun _ => Bool) false (fun a0 t0 _ => List.rec (motive := fun _ => Bool) false (fun a1 t1 _ => List.rec (motive := fun _ => Bool) false (fun a2 t2 _ => List.rec (motive := fun _ => Bool) false (fun a3 t3 _ => List.rec (motive := fun _ => Bool) false (fun a4 t4 _ => List.rec (motive := fun _ => Bool) false (fun _ t5 _ => f_c1 a4 (fun b => k (a0 :: a1 :: a2 :: a3 :: b :: x :: t5))) t4) t3) t2) t1) t0) l
theorem f_s5_eq {x : Option e_V} {l : e_A} {k : e_A → Bool} : f_s5 x l k = e_lst x l 5 k := by
  rcases l with _ | ⟨a0, (_ | ⟨a1, (_ | ⟨a2, (_ | ⟨a3, (_ | ⟨a4, (_ | ⟨a5, l⟩)⟩)⟩)⟩)⟩)⟩ <;> first | rfl | exact f_c1_eq (a := a4) (k := fun b => k (a0 :: a1 :: a2 :: a3 :: b :: x :: l))
noncomputable def f_s6 (x : Option e_V) (l : e_A) (k : e_A → Bool) : Bool := List.rec (motive := fun _ => Bool) false (fun a0 t0 _ => List.rec (motive := fun _ => Bool) false (fun a1 t1 _ => List.rec (motive := fun _ => Bool) false (fun a2 t2 _ => List.rec (motive := fun _ => Bool) false (fun a3 t3 _ => List.rec (motive := fun _ => Bool) false (fun a4 t4 _ => List.rec (motive := fun _ => Bool) false (fun a5 t5 _ => List.rec (motive := fun _ => Bool) false (fun _ t6 _ => f_c1 a5 (fun b => k (a0 :: a1 :: a2 :: a3 :: a4 :: b :: x :: t6))) t5) t4) t3) t2) t1) t0) l
theorem f_s6_eq {x : Option e_V} {l : e_A} {k : e_A → Bool} : f_s6 x l k = e_lst x l 6 k := by
  rcases l with _ | ⟨a0, (_ | ⟨a1, (_ | ⟨a2, (_ | ⟨a3, (_ | ⟨a4, (_ | ⟨a5, (_ | ⟨a6, l⟩)⟩)⟩)⟩)⟩)⟩)⟩ <;> first | rfl | exact f_c1_eq (a := a5) (k := fun b => k (a0 :: a1 :: a2 :: a3 :: a4 :: b :: x :: l))
noncomputable def f_s7 (x : Option e_V) (l : e_A) (k : e_A → Bool) : Bool := List.rec (motive := fun _ => Bool) false (fun a0 t0 _ => List.rec (motive := fun _ => Bool) false (fun a1 t1 _ => List.rec (motive := fun _ => Bool) false (fun a2 t2 _ => List.rec (motive := fun _ => Bool) false (fun a3 t3 _ => List.rec (motive := fun _ => Bool) false (fun a4 t4 _ => List.rec (motive := fun _ => Bool) false (fun a5 t5 _ => List.rec (motive := fun _ => Bool) false (fun a6 t6 _ => List.rec (motive := fun _ => Bool) false (fun _ t7 _ => f_c1 a6 (fun b => k (a0 :: a1 :: a2 :: a3 :: a4 :: a5 :: b :: x :: t7))) t6) t5) t4) t3) t2) t1) t0) l
theorem f_s7_eq {x : Option e_V} {l : e_A} {k : e_A → Bool} : f_s7 x l k = e_lst x l 7 k := by
  rcases l with _ | ⟨a0, (_ | ⟨a1, (_ | ⟨a2, (_ | ⟨a3, (_ | ⟨a4, (_ | ⟨a5, (_ | ⟨a6, (_ | ⟨a7, l⟩)⟩)⟩)⟩)⟩)⟩)⟩)⟩ <;> first | rfl | exact f_c1_eq (a := a6) (k := fun b => k (a0 :: a1 :: a2 :: a3 :: a4 :: a5 :: b :: x :: l))
noncomputable def f_s8 (x : Option e_V) (l : e_A) (k : e_A → Bool) : Bool := List.rec (motive := fun _ => Bool) false (fun a0 t0 _ => List.rec (motive := fun _ => Bool) false (fun a1 t1 _ => List.rec (motive := fun _ => Bool) false (fun a2 t2 _ => List.rec (motive := fun _ => Bool) false (fun a3 t3 _ => List.rec (motive := fun _ => Bool) false (fun a4 t4 _ => List.rec (motive := fun _ => Bool) false (fun a5 t5 _ => List.rec (motive := fun _ => Bool) false (fun a6 t6 _ => List.rec (motive := fun _ => Bool) false (fun a7 t7 _ => List.rec (motive := fun _ => Bool) false (fun _ t8 _ => f_c1 a7 (fun b => k (a0 :: a1 :: a2 :: a3 :: a4 :: a5 :: a6 :: b :: x :: t8))) t7) t6) t5) t4) t3) t2) t1) t0) l
theorem f_s8_eq {x : Option e_V} {l : e_A} {k : e_A → Bool} : f_s8 x l k = e_lst x l 8 k := by
  rcases l with _ | ⟨a0, (_ | ⟨a1, (_ | ⟨a2, (_ | ⟨a3, (_ | ⟨a4, (_ | ⟨a5, (_ | ⟨a6, (_ | ⟨a7, (_ | ⟨a8, l⟩)⟩)⟩)⟩)⟩)⟩)⟩)⟩)⟩ <;> first | rfl | exact f_c1_eq (a := a7) (k := fun b => k (a0 :: a1 :: a2 :: a3 :: a4 :: a5 :: a6 :: b :: x :: l))
noncomputable def f_s9 (x : Option e_V) (l : e_A) (k : e_A → Bool) : Bool := List.rec (motive := fun _ => Bool) false (fun a0 t0 _ => List.rec (motive := fun _ => Bool) false (fun a1 t1 _ => List.rec (motive := fun _ => Bool) false (fun a2 t2 _ => List.rec (motive := fun _ => Bool) false (fun a3 t3 _ => List.rec (motive := fun _ => Bool) false (fun a4 t4 _ => List.rec (motive := fun _ => Bool) false (fun a5 t5 _ => List.rec (motive := fun _ => Bool) false (fun a6 t6 _ => List.rec (motive := fun _ => Bool) false (fun a7 t7 _ => List.rec (motive := fun _ => Bool) false (fun a8 t8 _ => List.rec (motive := fun _ => Bool) false (fun _ t9 _ => f_c1 a8 (fun b => k (a0 :: a1 :: a2 :: a3 :: a4 :: a5 :: a6 :: a7 :: b :: x :: t9))) t8) t7) t6) t5) t4) t3) t2) t1) t0) l
theorem f_s9_eq {x : Option e_V} {l : e_A} {k : e_A → Bool} : f_s9 x l k = e_lst x l 9 k := by
  rcases l with _ | ⟨a0, (_ | ⟨a1, (_ | ⟨a2, (_ | ⟨a3, (_ | ⟨a4, (_ | ⟨a5, (_ | ⟨a6, (_ | ⟨a7, (_ | ⟨a8, (_ | ⟨a9, l⟩)⟩)⟩)⟩)⟩)⟩)⟩)⟩)⟩)⟩ <;> first | rfl | exact f_c1_eq (a := a8) (k := fun b => k (a0 :: a1 :: a2 :: a3 :: a4 :: a5 :: a6 :: a7 :: b :: x :: l))
noncomputable def f_s10 (x : Option e_V) (l : e_A) (k : e_A → Bool) : Bool := List.rec (motive := fun _ => Bool) false (fun a0 t0 _ => List.rec (motive := fun _ => Bool) false (fun a1 t1 _ => List.rec (motive := fun _ => Bool) false (fun a2 t2 _ => List.rec (motive := fun _ => Bool) false (fun a3 t3 _ => List.rec (motive := fun _ => Bool) false (fun a4 t4 _ => List.rec (motive := fun _ => Bool) false (fun a5 t5 _ => List.rec (motive := fun _ => Bool) false (fun a6 t6 _ => List.rec (motive := fun _ => Bool) false (fun a7 t7 _ => List.rec (motive := fun _ => Bool) false (fun a8 t8 _ => List.rec (motive := fun _ => Bool) false (fun a9 t9 _ => List.rec (motive := fun _ => Bool) false (fun _ t10 _ => f_c1 a9 (fun b => k (a0 :: a1 :: a2 :: a3 :: a4 :: a5 :: a6 :: a7 :: a8 :: b :: x :: t10))) t9) t8) t7) t6) t5) t4) t3) t2) t1) t0) l
theorem f_s10_eq {x : Option e_V} {l : e_A} {k : e_A → Bool} : f_s10 x l k = e_lst x l 10 k := by
  rcases l with _ | ⟨a0, (_ | ⟨a1, (_ | ⟨a2, (_ | ⟨a3, (_ | ⟨a4, (_ | ⟨a5, (_ | ⟨a6, (_ | ⟨a7, (_ | ⟨a8, (_ | ⟨a9, (_ | ⟨a10, l⟩)⟩)⟩)⟩)⟩)⟩)⟩)⟩)⟩)⟩)⟩ <;> first | rfl | exact f_c1_eq (a := a9) (k := fun b => k (a0 :: a1 :: a2 :: a3 :: a4 :: a5 :: a6 :: a7 :: a8 :: b :: x :: l))
noncomputable def f_s11 (x : Option e_V) (l : e_A) (k : e_A → Bool) : Bool := List.rec (motive := fun _ => Bool) false (fun a0 t0 _ => List.rec (motive := fun _ => Bool) false (fun a1 t1 _ => List.rec (motive := fun _ => Bool) false (fun a2 t2 _ => List.rec (motive := fun _ => Bool) false (fun a3 t3 _ => List.rec (motive := fun _ => Bool) false (fun a4 t4 _ => List.rec (motive := fun _ => Bool) false (fun a5 t5 _ => List.rec (motive := fun _ => Bool) false (fun a6 t6 _ => List.rec (motive := fun _ => Bool) false (fun a7 t7 _ => List.rec (motive := fun _ => Bool) false (fun a8 t8 _ => List.rec (motive := fun _ => Bool) false (fun a9 t9 _ => List.rec (motive := fun _ => Bool) false (fun a10 t10 _ => List.rec (motive := fun _ => Bool) false (fun _ t11 _ => f_c1 a10 (fun b => k (a0 :: a1 :: a2 :: a3 :: a4 :: a5 :: a6 :: a7 :: a8 :: a9 :: b :: x :: t11))) t10) t9) t8) t7) t6) t5) t4) t3) t2) t1) t0) l
theorem f_s11_eq {x : Option e_V} {l : e_A} {k : e_A → Bool} : f_s11 x l k = e_lst x l 11 k := by
  rcases l with _ | ⟨a0, (_ | ⟨a1, (_ | ⟨a2, (_ | ⟨a3, (_ | ⟨a4, (_ | ⟨a5, (_ | ⟨a6, (_ | ⟨a7, (_ | ⟨a8, (_ | ⟨a9, (_ | ⟨a10, (_ | ⟨a11, l⟩)⟩)⟩)⟩)⟩)⟩)⟩)⟩)⟩)⟩)⟩)⟩ <;> first | rfl | exact f_c1_eq (a := a10) (k := fun b => k (a0 :: a1 :: a2 :: a3 :: a4 :: a5 :: a6 :: a7 :: a8 :: a9 :: b :: x :: l))
noncomputable def f_s12 (x : Option e_V) (l : e_A) (k : e_A → Bool) : Bool := List.rec (motive := fun _ => Bool) false (fun a0 t0 _ => List.rec (motive := fun _ => Bool) false (fun a1 t1 _ => List.rec (motive := fun _ => Bool) false (fun a2 t2 _ => List.rec (motive := fun _ => Bool) false (fun a3 t3 _ => List.rec (motive := fun _ => Bool) false (fun a4 t4 _ => List.rec (motive := fun _ => Bool) false (fun a5 t5 _ => List.rec (motive := fun _ => Bool) false (fun a6 t6 _ => List.rec (motive := fun _ => Bool) false (fun a7 t7 _ => List.rec (motive := fun _ => Bool) false (fun a8 t8 _ => List.rec (motive := fun _ => Bool) false (fun a9 t9 _ => List.rec (motive := fun _ => Bool) false (fun a10 t10 _ => List.rec (motive := fun _ => Bool) false (fun a11 t11 _ => List.rec (motive := fun _ => Bool) false (fun _ t12 _ => f_c1 a11 (fun b => k (a0 :: a1 :: a2 :: a3 :: a4 :: a5 :: a6 :: a7 :: a8 :: a9 :: a10 :: b :: x :: t12))) t11) t10) t9) t8) t7) t6) t5) t4) t3) t2) t1) t0) l
theorem f_s12_eq {x : Option e_V} {l : e_A} {k : e_A → Bool} : f_s12 x l k = e_lst x l 12 k := by
  rcases l with _ | ⟨a0, (_ | ⟨a1, (_ | ⟨a2, (_ | ⟨a3, (_ | ⟨a4, (_ | ⟨a5, (_ | ⟨a6, (_ | ⟨a7, (_ | ⟨a8, (_ | ⟨a9, (_ | ⟨a10, (_ | ⟨a11, (_ | ⟨a12, l⟩)⟩)⟩)⟩)⟩)⟩)⟩)⟩)⟩)⟩)⟩)⟩)⟩ <;> first | rfl | exact f_c1_eq (a := a11) (k := fun b => k (a0 :: a1 :: a2 :: a3 :: a4 :: a5 :: a6 :: a7 :: a8 :: a9 :: a10 :: b :: x :: l))
noncomputable def f_s13 (x : Option e_V) (l : e_A) (k : e_A → Bool) : Bool := List.rec (motive := fun _ => Bool) false (fun a0 t0 _ => List.rec (motive := fun _ => Bool) false (fun a1 t1 _ => List.rec (motive := fun _ => Bool) false (fun a2 t2 _ => List.rec (motive := fun _ => Bool) false (fun a3 t3 _ => List.rec (motive := fun _ => Bool) false (fun a4 t4 _ => List.rec (motive := fun _ => Bool) false (fun a5 t5 _ => List.rec (motive := fun _ => Bool) false (fun a6 t6 _ => List.rec (motive := fun _ => Bool) false (fun a7 t7 _ => List.rec (motive := fun _ => Bool) false (fun a8 t8 _ => List.rec (motive := fun _ => Bool) false (fun a9 t9 _ => List.rec (motive := fun _ => Bool) false (fun a10 t10 _ => List.rec (motive := fun _ => Bool) false (fun a11 t11 _ => List.rec (motive := fun _ => Bool) false (fun a12 t12 _ => List.rec (motive := fun _ => Bool) false (fun _ t13 _ => f_c1 a12 (fun b => k (a0 :: a1 :: a2 :: a3 :: a4 :: a5 :: a6 :: a7 :: a8 :: a9 :: a10 :: a11 :: b :: x :: t13))) t12) t11) t10) t9) t8) t7) t6) t5) t4) t3) t2) t1) t0) l
theorem f_s13_eq {x : Option e_V} {l : e_A} {k : e_A → Bool} : f_s13 x l k = e_lst x l 13 k := by
  rcases l with _ | ⟨a0, (_ | ⟨a1, (_ | ⟨a2, (_ | ⟨a3, (_ | ⟨a4, (_ | ⟨a5, (_ | ⟨a6, (_ | ⟨a7, (_ | ⟨a8, (_ | ⟨a9, (_ | ⟨a10, (_ | ⟨a11, (_ | ⟨a12, (_ | ⟨a13, l⟩)⟩)⟩)⟩)⟩)⟩)⟩)⟩)⟩)⟩)⟩)⟩)⟩)⟩ <;> first | rfl | exact f_c1_eq (a := a12) (k := fun b => k (a0 :: a1 :: a2 :: a3 :: a4 :: a5 :: a6 :: a7 :: a8 :: a9 :: a10 :: a11 :: b :: x :: l))
noncomputable def f_s14 (x : Option e_V) (l : e_A) (k : e_A → Bool) : Bool := List.rec (motive := fun _ => Bool) false (fun a0 t0 _ => List.rec (motive := fun _ => Bool) false (fun a1 t1 _ => List.rec (motive := fun _ => Bool) false (fun a2 t2 _ => List.rec (motive := fun _ => Bool) false (fun a3 t3 _ => List.rec (motive := fun _ => Bool) false (fun a4 t4 _ => List.rec (motive := fun _ => Bool) false (fun a5 t5 _ => List.rec (motive := fun _ => Bool) false (fun a6 t6 _ => List.rec (motive := fun _ => Bool) false (fun a7 t7 _ => List.rec (motive := fun _ => Bool) false (fun a8 t8 _ => List.rec (motive := fun _ => Bool) false (fun a9 t9 _ => List.rec (motive := fun _ => Bool) false (fun a10 t10 _ => List.rec (motive := fun _ => Bool) false (fun a11 t11 _ => List.rec (motive := fun _ => Bool) false (fun a12 t12 _ => List.rec (motive := fun _ => Bool) false (fun a13 t13 _ => List.rec (motive := fun _ => Bool) false (fun _ t14 _ => f_c1 a13 (fun b => k (a0 :: a1 :: a2 :: a3 :: a4 :: a5 :: a6 :: a7 :: a8 :: a9 :: a10 :: a11 :: a12 :: b :: x :: t14))) t13) t12) t11) t10) t9) t8) t7) t6) t5) t4) t3) t2) t1) t0) l
theorem f_s14_eq {x : Option e_V} {l : e_A} {k : e_A → Bool} : f_s14 x l k = e_lst x l 14 k := by
  rcases l with _ | ⟨a0, (_ | ⟨a1, (_ | ⟨a2, (_ | ⟨a3, (_ | ⟨a4, (_ | ⟨a5, (_ | ⟨a6, (_ | ⟨a7, (_ | ⟨a8, (_ | ⟨a9, (_ | ⟨a10, (_ | ⟨a11, (_ | ⟨a12, (_ | ⟨a13, (_ | ⟨a14, l⟩)⟩)⟩)⟩)⟩)⟩)⟩)⟩)⟩)⟩)⟩)⟩)⟩)⟩)⟩ <;> first | rfl | exact f_c1_eq (a := a13) (k := fun b => k (a0 :: a1 :: a2 :: a3 :: a4 :: a5 :: a6 :: a7 :: a8 :: a9 :: a10 :: a11 :: a12 :: b :: x :: l))
noncomputable def f_s15 (x : Option e_V) (l : e_A) (k : e_A → Bool) : Bool := List.rec (motive := fun _ => Bool) false (fun a0 t0 _ => List.rec (motive := fun _ => Bool) false (fun a1 t1 _ => List.rec (motive := fun _ => Bool) false (fun a2 t2 _ => List.rec (motive := fun _ => Bool) false (fun a3 t3 _ => List.rec (motive := fun _ => Bool) false (fun a4 t4 _ => List.rec (motive := fun _ => Bool) false (fun a5 t5 _ => List.rec (motive := fun _ => Bool) false (fun a6 t6 _ => List.rec (motive := fun _ => Bool) false (fun a7 t7 _ => List.rec (motive := fun _ => Bool) false (fun a8 t8 _ => List.rec (motive := fun _ => Bool) false (fun a9 t9 _ => List.rec (motive := fun _ => Bool) false (fun a10 t10 _ => List.rec (motive := fun _ => Bool) false (fun a11 t11 _ => List.rec (motive := fun _ => Bool) false (fun a12 t12 _ => List.rec (motive := fun _ => Bool) false (fun a13 t13 _ => List.rec (motive := fun _ => Bool) false (fun a14 t14 _ => List.rec (motive := fun _ => Bool) false (fun _ t15 _ => f_c1 a14 (fun b => k (a0 :: a1 :: a2 :: a3 :: a4 :: a5 :: a6 :: a7 :: a8 :: a9 :: a10 :: a11 :: a12 :: a13 :: b :: x :: t15))) t14) t13) t12) t11) t10) t9) t8) t7) t6) t5) t4) t3) t2) t1) t0) l
theorem f_s15_eq {x : Option e_V} {l : e_A} {k : e_A → Bool} : f_s15 x l k = e_lst x l 15 k := by
  rcases l with _ | ⟨a0, (_ | ⟨a1, (_ | ⟨a2, (_ | ⟨a3, (_ | ⟨a4, (_ | ⟨a5, (_ | ⟨a6, (_ | ⟨a7, (_ | ⟨a8, (_ | ⟨a9, (_ | ⟨a10, (_ | ⟨a11, (_ | ⟨a12, (_ | ⟨a13, (_ | ⟨a14, (_ | ⟨a15, l⟩)⟩)⟩)⟩)⟩)⟩)⟩)⟩)⟩)⟩)⟩)⟩)⟩)⟩)⟩)⟩ <;> first | rfl | exact f_c1_eq (a := a14) (k := fun b => k (a0 :: a1 :: a2 :: a3 :: a4 :: a5 :: a6 :: a7 :: a8 :: a9 :: a10 :: a11 :: a12 :: a13 :: b :: x :: l))
noncomputable def f_s16 (x : Option e_V) (l : e_A) (k : e_A → Bool) : Bool := List.rec (motive := fun _ => Bool) false (fun a0 t0 _ => List.rec (motive := fun _ => Bool) false (fun a1 t1 _ => List.rec (motive := fun _ => Bool) false (fun a2 t2 _ => List.rec (motive := fun _ => Bool) false (fun a3 t3 _ => List.rec (motive := fun _ => Bool) false (fun a4 t4 _ => List.rec (motive := fun _ => Bool) false (fun a5 t5 _ => List.rec (motive := fun _ => Bool) false (fun a6 t6 _ => List.rec (motive := fun _ => Bool) false (fun a7 t7 _ => List.rec (motive := fun _ => Bool) false (fun a8 t8 _ => List.rec (motive := fun _ => Bool) false (fun a9 t9 _ => List.rec (motive := fun _ => Bool) false (fun a10 t10 _ => List.rec (motive := fun _ => Bool) false (fun a11 t11 _ => List.rec (motive := fun _ => Bool) false (fun a12 t12 _ => List.rec (motive := fun _ => Bool) false (fun a13 t13 _ => List.rec (motive := fun _ => Bool) false (fun a14 t14 _ => List.rec (motive := fun _ => Bool) false (fun a15 t15 _ => List.rec (motive := fun _ => Bool) false (fun _ t16 _ => f_c1 a15 (fun b => k (a0 :: a1 :: a2 :: a3 :: a4 :: a5 :: a6 :: a7 :: a8 :: a9 :: a10 :: a11 :: a12 :: a13 :: a14 :: b :: x :: t16))) t15) t14) t13) t12) t11) t10) t9) t8) t7) t6) t5) t4) t3) t2) t1) t0) l
theorem f_s16_eq {x : Option e_V} {l : e_A} {k : e_A → Bool} : f_s16 x l k = e_lst x l 16 k := by
  rcases l with _ | ⟨a0, (_ | ⟨a1, (_ | ⟨a2, (_ | ⟨a3, (_ | ⟨a4, (_ | ⟨a5, (_ | ⟨a6, (_ | ⟨a7, (_ | ⟨a8, (_ | ⟨a9, (_ | ⟨a10, (_ | ⟨a11, (_ | ⟨a12, (_ | ⟨a13, (_ | ⟨a14, (_ | ⟨a15, (_ | ⟨a16, l⟩)⟩)⟩)⟩)⟩)⟩)⟩)⟩)⟩)⟩)⟩)⟩)⟩)⟩)⟩)⟩)⟩ <;> first | rfl | exact f_c1_eq (a := a15) (k := fun b => k (a0 :: a1 :: a2 :: a3 :: a4 :: a5 :: a6 :: a7 :: a8 :: a9 :: a10 :: a11 :: a12 :: a13 :: a14 :: b :: x :: l))
noncomputable def f_s17 (x : Option e_V) (l : e_A) (k : e_A → Bool) : Bool := List.rec (motive := fun _ => Bool) false (fun a0 t0 _ => List.rec (motive := fun _ => Bool) false (fun a1 t1 _ => List.rec (motive := fun _ => Bool) false (fun a2 t2 _ => List.rec (motive := fun _ => Bool) false (fun a3 t3 _ => List.rec (motive := fun _ => Bool) false (fun a4 t4 _ => List.rec (motive := fun _ => Bool) false (fun a5 t5 _ => List.rec (motive := fun _ => Bool) false (fun a6 t6 _ => List.rec (motive := fun _ => Bool) false (fun a7 t7 _ => List.rec (motive := fun _ => Bool) false (fun a8 t8 _ => List.rec (motive := fun _ => Bool) false (fun a9 t9 _ => List.rec (motive := fun _ => Bool) false (fun a10 t10 _ => List.rec (motive := fun _ => Bool) false (fun a11 t11 _ => List.rec (motive := fun _ => Bool) false (fun a12 t12 _ => List.rec (motive := fun _ => Bool) false (fun a13 t13 _ => List.rec (motive := fun _ => Bool) false (fun a14 t14 _ => List.rec (motive := fun _ => Bool) false (fun a15 t15 _ => List.rec (motive := fun _ => Bool) false (fun a16 t16 _ => List.rec (motive := fun _ => Bool) false (fun _ t17 _ => f_c1 a16 (fun b => k (a0 :: a1 :: a2 :: a3 :: a4 :: a5 :: a6 :: a7 :: a8 :: a9 :: a10 :: a11 :: a12 :: a13 :: a14 :: a15 :: b :: x :: t17))) t16) t15) t14) t13) t12) t11) t10) t9) t8) t7) t6) t5) t4) t3) t2) t1) t0) l
theorem f_s17_eq {x : Option e_V} {l : e_A} {k : e_A → Bool} : f_s17 x l k = e_lst x l 17 k := by
  rcases l with _ | ⟨a0, (_ | ⟨a1, (_ | ⟨a2, (_ | ⟨a3, (_ | ⟨a4, (_ | ⟨a5, (_ | ⟨a6, (_ | ⟨a7, (_ | ⟨a8, (_ | ⟨a9, (_ | ⟨a10, (_ | ⟨a11, (_ | ⟨a12, (_ | ⟨a13, (_ | ⟨a14, (_ | ⟨a15, (_ | ⟨a16, (_ | ⟨a17, l⟩)⟩)⟩)⟩)⟩)⟩)⟩)⟩)⟩)⟩)⟩)⟩)⟩)⟩)⟩)⟩)⟩)⟩ <;> first | rfl | exact f_c1_eq (a := a16) (k := fun b => k (a0 :: a1 :: a2 :: a3 :: a4 :: a5 :: a6 :: a7 :: a8 :: a9 :: a10 :: a11 :: a12 :: a13 :: a14 :: a15 :: b :: x :: l))
noncomputable def f_s18 (x : Option e_V) (l : e_A) (k : e_A → Bool) : Bool := List.rec (motive := fun _ => Bool) false (fun a0 t0 _ => List.rec (motive := fun _ => Bool) false (fun a1 t1 _ => List.rec (motive := fun _ => Bool) false (fun a2 t2 _ => List.rec (motive := fun _ => Bool) false (fun a3 t3 _ => List.rec (motive := fun _ => Bool) false (fun a4 t4 _ => List.rec (motive := fun _ => Bool) false (fun a5 t5 _ => List.rec (motive := fun _ => Bool) false (fun a6 t6 _ => List.rec (motive := fun _ => Bool) false (fun a7 t7 _ => List.rec (motive := fun _ => Bool) false (fun a8 t8 _ => List.rec (motive := fun _ => Bool) false (fun a9 t9 _ => List.rec (motive := fun _ => Bool) false (fun a10 t10 _ => List.rec (motive := fun _ => Bool) false (fun a11 t11 _ => List.rec (motive := fun _ => Bool) false (fun a12 t12 _ => List.rec (motive := fun _ => Bool) false (fun a13 t13 _ => List.rec (motive := fun _ => Bool) false (fun a14 t14 _ => List.rec (motive := fun _ => Bool) false (fun a15 t15 _ => List.rec (motive := fun _ => Bool) false (fun a16 t16 _ => List.rec (motive := fun _ => Bool) false (fun a17 t17 _ => List.rec (motive := fun _ => Bool) false (fun _ t18 _ => f_c1 a17 (fun b => k (a0 :: a1 :: a2 :: a3 :: a4 :: a5 :: a6 :: a7 :: a8 :: a9 :: a10 :: a11 :: a12 :: a13 :: a14 :: a15 :: a16 :: b :: x :: t18))) t17) t16) t15) t14) t13) t12) t11) t10) t9) t8) t7) t6) t5) t4) t3) t2) t1) t0) l
theorem f_s18_eq {x : Option e_V} {l : e_A} {k : e_A → Bool} : f_s18 x l k = e_lst x l 18 k := by
  rcases l with _ | ⟨a0, (_ | ⟨a1, (_ | ⟨a2, (_ | ⟨a3, (_ | ⟨a4, (_ | ⟨a5, (_ | ⟨a6, (_ | ⟨a7, (_ | ⟨a8, (_ | ⟨a9, (_ | ⟨a10, (_ | ⟨a11, (_ | ⟨a12, (_ | ⟨a13, (_ | ⟨a14, (_ | ⟨a15, (_ | ⟨a16, (_ | ⟨a17, (_ | ⟨a18, l⟩)⟩)⟩)⟩)⟩)⟩)⟩)⟩)⟩)⟩)⟩)⟩)⟩)⟩)⟩)⟩)⟩)⟩)⟩ <;> first | rfl | exact f_c1_eq (a := a17) (k := fun b => k (a0 :: a1 :: a2 :: a3 :: a4 :: a5 :: a6 :: a7 :: a8 :: a9 :: a10 :: a11 :: a12 :: a13 :: a14 :: a15 :: a16 :: b :: x :: l))
noncomputable def f_s19 (x : Option e_V) (l : e_A) (k : e_A → Bool) : Bool := List.rec (motive := fun _ => Bool) false (fun a0 t0 _ => List.rec (motive := fun _ => Bool) false (fun a1 t1 _ => List.rec (motive := fun _ => Bool) false (fun a2 t2 _ => List.rec (motive := fun _ => Bool) false (fun a3 t3 _ => List.rec (motive := fun _ => Bool) false (fun a4 t4 _ => List.rec (motive := fun _ => Bool) false (fun a5 t5 _ => List.rec (motive := fun _ => Bool) false (fun a6 t6 _ => List.rec (motive := fun _ => Bool) false (fun a7 t7 _ => List.rec (motive := fun _ => Bool) false (fun a8 t8 _ => List.rec (motive := fun _ => Bool) false (fun a9 t9 _ => List.rec (motive := fun _ => Bool) false (fun a10 t10 _ => List.rec (motive := fun _ => Bool) false (fun a11 t11 _ => List.rec (motive := fun _ => Bool) false (fun a12 t12 _ => List.rec (motive := fun _ => Bool) false (fun a13 t13 _ => List.rec (motive := fun _ => Bool) false (fun a14 t14 _ => List.rec (motive := fun _ => Bool) false (fun a15 t15 _ => List.rec (motive := fun _ => Bool) false (fun a16 t16 _ => List.rec (motive := fun _ => Bool) false (fun a17 t17 _ => List.rec (motive := fun _ => Bool) false (fun a18 t18 _ => List.rec (motive := fun _ => Bool) false (fun _ t19 _ => f_c1 a18 (fun b => k (a0 :: a1 :: a2 :: a3 :: a4 :: a5 :: a6 :: a7 :: a8 :: a9 :: a10 :: a11 :: a12 :: a13 :: a14 :: a15 :: a16 :: a17 :: b :: x :: t19))) t18) t17) t16) t15) t14) t13) t12) t11) t10) t9) t8) t7) t6) t5) t4) t3) t2) t1) t0) l
theorem f_s19_eq {x : Option e_V} {l : e_A} {k : e_A → Bool} : f_s19 x l k = e_lst x l 19 k := by
  rcases l with _ | ⟨a0, (_ | ⟨a1, (_ | ⟨a2, (_ | ⟨a3, (_ | ⟨a4, (_ | ⟨a5, (_ | ⟨a6, (_ | ⟨a7, (_ | ⟨a8, (_ | ⟨a9, (_ | ⟨a10, (_ | ⟨a11, (_ | ⟨a12, (_ | ⟨a13, (_ | ⟨a14, (_ | ⟨a15, (_ | ⟨a16, (_ | ⟨a17, (_ | ⟨a18, (_ | ⟨a19, l⟩)⟩)⟩)⟩)⟩)⟩)⟩)⟩)⟩)⟩)⟩)⟩)⟩)⟩)⟩)⟩)⟩)⟩)⟩)⟩ <;> first | rfl | exact f_c1_eq (a := a18) (k := fun b => k (a0 :: a1 :: a2 :: a3 :: a4 :: a5 :: a6 :: a7 :: a8 :: a9 :: a10 :: a11 :: a12 :: a13 :: a14 :: a15 :: a16 :: a17 :: b :: x :: l))
noncomputable def f_s20 (x : Option e_V) (l : e_A) (k : e_A → Bool) : Bool := List.rec (motive := fun _ => Bool) false (fun a0 t0 _ => List.rec (motive := fun _ => Bool) false (fun a1 t1 _ => List.rec (motive := fun _ => Bool) false (fun a2 t2 _ => List.rec (motive := fun _ => Bool) false (fun a3 t3 _ => List.rec (motive := fun _ => Bool) false (fun a4 t4 _ => List.rec (motive := fun _ => Bool) false (fun a5 t5 _ => List.rec (motive := fun _ => Bool) false (fun a6 t6 _ => List.rec (motive := fun _ => Bool) false (fun a7 t7 _ => List.rec (motive := fun _ => Bool) false (fun a8 t8 _ => List.rec (motive := fun _ => Bool) false (fun a9 t9 _ => List.rec (motive := fun _ => Bool) false (fun a10 t10 _ => List.rec (motive := fun _ => Bool) false (fun a11 t11 _ => List.rec (motive := fun _ => Bool) false (fun a12 t12 _ => List.rec (motive := fun _ => Bool) false (fun a13 t13 _ => List.rec (motive := fun _ => Bool) false (fun a14 t14 _ => List.rec (motive := fun _ => Bool) false (fun a15 t15 _ => List.rec (motive := fun _ => Bool) false (fun a16 t16 _ => List.rec (motive := fun _ => Bool) false (fun a17 t17 _ => List.rec (motive := fun _ => Bool) false (fun a18 t18 _ => List.rec (motive := fun _ => Bool) false (fun a19 t19 _ => List.rec (motive := fun _ => Bool) false (fun _ t20 _ => f_c1 a19 (fun b => k (a0 :: a1 :: a2 :: a3 :: a4 :: a5 :: a6 :: a7 :: a8 :: a9 :: a10 :: a11 :: a12 :: a13 :: a14 :: a15 :: a16 :: a17 :: a18 :: b :: x :: t20))) t19) t18) t17) t16) t15) t14) t13) t12) t11) t10) t9) t8) t7) t6) t5) t4) t3) t2) t1) t0) l
theorem f_s20_eq {x : Option e_V} {l : e_A} {k : e_A → Bool} : f_s20 x l k = e_lst x l 20 k := by
  rcases l with _ | ⟨a0, (_ | ⟨a1, (_ | ⟨a2, (_ | ⟨a3, (_ | ⟨a4, (_ | ⟨a5, (_ | ⟨a6, (_ | ⟨a7, (_ | ⟨a8, (_ | ⟨a9, (_ | ⟨a10, (_ | ⟨a11, (_ | ⟨a12, (_ | ⟨a13, (_ | ⟨a14, (_ | ⟨a15, (_ | ⟨a16, (_ | ⟨a17, (_ | ⟨a18, (_ | ⟨a19, (_ | ⟨a20, l⟩)⟩)⟩)⟩)⟩)⟩)⟩)⟩)⟩)⟩)⟩)⟩)⟩)⟩)⟩)⟩)⟩)⟩)⟩)⟩)⟩ <;> first | rfl | exact f_c1_eq (a := a19) (k := fun b => k (a0 :: a1 :: a2 :: a3 :: a4 :: a5 :: a6 :: a7 :: a8 :: a9 :: a10 :: a11 :: a12 :: a13 :: a14 :: a15 :: a16 :: a17 :: a18 :: b :: x :: l))
noncomputable def f_s21 (x : Option e_V) (l : e_A) (k : e_A → Bool) : Bool := List.rec (motive := fun _ => Bool) false (fun a0 t0 _ => List.rec (motive := fun _ => Bool) false (fun a1 t1 _ => List.rec (motive := fun _ => Bool) false (fun a2 t2 _ => List.rec (motive := fun _ => Bool) false (fun a3 t3 _ => List.rec (motive := fun _ => Bool) false (fun a4 t4 _ => List.rec (motive := fun _ => Bool) false (fun a5 t5 _ => List.rec (motive := fun _ => Bool) false (fun a6 t6 _ => List.rec (motive := fun _ => Bool) false (fun a7 t7 _ => List.rec (motive := fun _ => Bool) false (fun a8 t8 _ => List.rec (motive := fun _ => Bool) false (fun a9 t9 _ => List.rec (motive := fun _ => Bool) false (fun a10 t10 _ => List.rec (motive := fun _ => Bool) false (fun a11 t11 _ => List.rec (motive := fun _ => Bool) false (fun a12 t12 _ => List.rec (motive := fun _ => Bool) false (fun a13 t13 _ => List.rec (motive := fun _ => Bool) false (fun a14 t14 _ => List.rec (motive := fun _ => Bool) false (fun a15 t15 _ => List.rec (motive := fun _ => Bool) false (fun a16 t16 _ => List.rec (motive := fun _ => Bool) false (fun a17 t17 _ => List.rec (motive := fun _ => Bool) false (fun a18 t18 _ => List.rec (motive := fun _ => Bool) false (fun a19 t19 _ => List.rec (motive := fun _ => Bool) false (fun a20 t20 _ => List.rec (motive := fun _ => Bool) false (fun _ t21 _ => f_c1 a20 (fun b => k (a0 :: a1 :: a2 :: a3 :: a4 :: a5 :: a6 :: a7 :: a8 :: a9 :: a10 :: a11 :: a12 :: a13 :: a14 :: a15 :: a16 :: a17 :: a18 :: a19 :: b :: x :: t21))) t20) t19) t18) t17) t16) t15) t14) t13) t12) t11) t10) t9) t8) t7) t6) t5) t4) t3) t2) t1) t0) l
theorem f_s21_eq {x : Option e_V} {l : e_A} {k : e_A → Bool} : f_s21 x l k = e_lst x l 21 k := by
  rcases l with _ | ⟨a0, (_ | ⟨a1, (_ | ⟨a2, (_ | ⟨a3, (_ | ⟨a4, (_ | ⟨a5, (_ | ⟨a6, (_ | ⟨a7, (_ | ⟨a8, (_ | ⟨a9, (_ | ⟨a10, (_ | ⟨a11, (_ | ⟨a12, (_ | ⟨a13, (_ | ⟨a14, (_ | ⟨a15, (_ | ⟨a16, (_ | ⟨a17, (_ | ⟨a18, (_ | ⟨a19, (_ | ⟨a20, (_ | ⟨a21, l⟩)⟩)⟩)⟩)⟩)⟩)⟩)⟩)⟩)⟩)⟩)⟩)⟩)⟩)⟩)⟩)⟩)⟩)⟩)⟩)⟩)⟩ <;> first | rfl | exact f_c1_eq (a := a20) (k := fun b => k (a0 :: a1 :: a2 :: a3 :: a4 :: a5 :: a6 :: a7 :: a8 :: a9 :: a10 :: a11 :: a12 :: a13 :: a14 :: a15 :: a16 :: a17 :: a18 :: a19 :: b :: x :: l))
noncomputable def f_s22 (x : Option e_V) (l : e_A) (k : e_A → Bool) : Bool := List.rec (motive := fun _ => Bool) false (fun a0 t0 _ => List.rec (motive := fun _ => Bool) false (fun a1 t1 _ => List.rec (motive := fun _ => Bool) false (fun a2 t2 _ => List.rec (motive := fun _ => Bool) false (fun a3 t3 _ => List.rec (motive := fun _ => Bool) false (fun a4 t4 _ => List.rec (motive := fun _ => Bool) false (fun a5 t5 _ => List.rec (motive := fun _ => Bool) false (fun a6 t6 _ => List.rec (motive := fun _ => Bool) false (fun a7 t7 _ => List.rec (motive := fun _ => Bool) false (fun a8 t8 _ => List.rec (motive := fun _ => Bool) false (fun a9 t9 _ => List.rec (motive := fun _ => Bool) false (fun a10 t10 _ => List.rec (motive := fun _ => Bool) false (fun a11 t11 _ => List.rec (motive := fun _ => Bool) false (fun a12 t12 _ => List.rec (motive := fun _ => Bool) false (fun a13 t13 _ => List.rec (motive := fun _ => Bool) false (fun a14 t14 _ => List.rec (motive := fun _ => Bool) false (fun a15 t15 _ => List.rec (motive := fun _ => Bool) false (fun a16 t16 _ => List.rec (motive := fun _ => Bool) false (fun a17 t17 _ => List.rec (motive := fun _ => Bool) false (fun a18 t18 _ => List.rec (motive := fun _ => Bool) false (fun a19 t19 _ => List.rec (motive := fun _ => Bool) false (fun a20 t20 _ => List.rec (motive := fun _ => Bool) false (fun a21 t21 _ => List.rec (motive := fun _ => Bool) false (fun _ t22 _ => f_c1 a21 (fun b => k (a0 :: a1 :: a2 :: a3 :: a4 :: a5 :: a6 :: a7 :: a8 :: a9 :: a10 :: a11 :: a12 :: a13 :: a14 :: a15 :: a16 :: a17 :: a18 :: a19 :: a20 :: b :: x :: t22))) t21) t20) t19) t18) t17) t16) t15) t14) t13) t12) t11) t10) t9) t8) t7) t6) t5) t4) t3) t2) t1) t0) l
theorem f_s22_eq {x : Option e_V} {l : e_A} {k : e_A → Bool} : f_s22 x l k = e_lst x l 22 k := by
  rcases l with _ | ⟨a0, (_ | ⟨a1, (_ | ⟨a2, (_ | ⟨a3, (_ | ⟨a4, (_ | ⟨a5, (_ | ⟨a6, (_ | ⟨a7, (_ | ⟨a8, (_ | ⟨a9, (_ | ⟨a10, (_ | ⟨a11, (_ | ⟨a12, (_ | ⟨a13, (_ | ⟨a14, (_ | ⟨a15, (_ | ⟨a16, (_ | ⟨a17, (_ | ⟨a18, (_ | ⟨a19, (_ | ⟨a20, (_ | ⟨a21, (_ | ⟨a22, l⟩)⟩)⟩)⟩)⟩)⟩)⟩)⟩)⟩)⟩)⟩)⟩)⟩)⟩)⟩)⟩)⟩)⟩)⟩)⟩)⟩)⟩)⟩ <;> first | rfl | exact f_c1_eq (a := a21) (k := fun b => k (a0 :: a1 :: a2 :: a3 :: a4 :: a5 :: a6 :: a7 :: a8 :: a9 :: a10 :: a11 :: a12 :: a13 :: a14 :: a15 :: a16 :: a17 :: a18 :: a19 :: a20 :: b :: x :: l))
noncomputable def f_s23 (x : Option e_V) (l : e_A) (k : e_A → Bool) : Bool := List.rec (motive := fun _ => Bool) false (fun a0 t0 _ => List.rec (motive := fun _ => Bool) false (fun a1 t1 _ => List.rec (motive := fun _ => Bool) false (fun a2 t2 _ => List.rec (motive := fun _ => Bool) false (fun a3 t3 _ => List.rec (motive := fun _ => Bool) false (fun a4 t4 _ => List.rec (motive := fun _ => Bool) false (fun a5 t5 _ => List.rec (motive := fun _ => Bool) false (fun a6 t6 _ => List.rec (motive := fun _ => Bool) false (fun a7 t7 _ => List.rec (motive := fun _ => Bool) false (fun a8 t8 _ => List.rec (motive := fun _ => Bool) false (fun a9 t9 _ => List.rec (motive := fun _ => Bool) false (fun a10 t10 _ => List.rec (motive := fun _ => Bool) false (fun a11 t11 _ => List.rec (motive := fun _ => Bool) false (fun a12 t12 _ => List.rec (motive := fun _ => Bool) false (fun a13 t13 _ => List.rec (motive := fun _ => Bool) false (fun a14 t14 _ => List.rec (motive := fun _ => Bool) false (fun a15 t15 _ => List.rec (motive := fun _ => Bool) false (fun a16 t16 _ => List.rec (motive := fun _ => Bool) false (fun a17 t17 _ => List.rec (motive := fun _ => Bool) false (fun a18 t18 _ => List.rec (motive := fun _ => Bool) false (fun a19 t19 _ => List.rec (motive := fun _ => Bool) false (fun a20 t20 _ => List.rec (motive := fun _ => Bool) false (fun a21 t21 _ => List.rec (motive := fun _ => Bool) false (fun a22 t22 _ => List.rec (motive := fun _ => Bool) false (fun _ t23 _ => f_c1 a22 (fun b => k (a0 :: a1 :: a2 :: a3 :: a4 :: a5 :: a6 :: a7 :: a8 :: a9 :: a10 :: a11 :: a12 :: a13 :: a14 :: a15 :: a16 :: a17 :: a18 :: a19 :: a20 :: a21 :: b :: x :: t23))) t22) t21) t20) t19) t18) t17) t16) t15) t14) t13) t12) t11) t10) t9) t8) t7) t6) t5) t4) t3) t2) t1) t0) l
theorem f_s23_eq {x : Option e_V} {l : e_A} {k : e_A → Bool} : f_s23 x l k = e_lst x l 23 k := by
  rcases l with _ | ⟨a0, (_ | ⟨a1, (_ | ⟨a2, (_ | ⟨a3, (_ | ⟨a4, (_ | ⟨a5, (_ | ⟨a6, (_ | ⟨a7, (_ | ⟨a8, (_ | ⟨a9, (_ | ⟨a10, (_ | ⟨a11, (_ | ⟨a12, (_ | ⟨a13, (_ | ⟨a14, (_ | ⟨a15, (_ | ⟨a16, (_ | ⟨a17, (_ | ⟨a18, (_ | ⟨a19, (_ | ⟨a20, (_ | ⟨a21, (_ | ⟨a22, (_ | ⟨a23, l⟩)⟩)⟩)⟩)⟩)⟩)⟩)⟩)⟩)⟩)⟩)⟩)⟩)⟩)⟩)⟩)⟩)⟩)⟩)⟩)⟩)⟩)⟩)⟩ <;> first | rfl | exact f_c1_eq (a := a22) (k := fun b => k (a0 :: a1 :: a2 :: a3 :: a4 :: a5 :: a6 :: a7 :: a8 :: a9 :: a10 :: a11 :: a12 :: a13 :: a14 :: a15 :: a16 :: a17 :: a18 :: a19 :: a20 :: a21 :: b :: x :: l))
noncomputable def u_st (ok : e_V → Bool) (S : Option e_V → e_A → (e_A → Bool) → Bool) (nxt : e_Y) : e_Y := fun X ls st => List.rec (motive := fun _ => Bool) false (fun v r _ => Bool.rec (motive := fun _ => Bool) false (S (some v) ls (fun l2 => nxt X l2 r)) (ok v)) st
theorem u_st_eq {ok ok2 : e_V → Bool} (hok : ∀ v, ok v = ok2 v) {S : Option e_V → e_A → (e_A → Bool) → Bool} {n nx : Nat} (hS : ∀ x l k, S x l k = e_lst x l n k) {nxt : e_Y} (g : e_G) (F : e_F) (ls : e_A) (st : List e_V) (w : e_W) (c : e_Q) (K : e_K) : e_un (u_st ok S nxt) g F ls st w c K = o_store ok2 n nx (e_k (e_un nxt) g) F ls st w c K := by
  unfold o_store e_un u_st
  rcases st with _ | ⟨v, r⟩
  · rfl
  · dsimp only
    rw [hok, hS]
    cases ok2 v <;> rfl
theorem u_stIT {S : Option e_V → e_A → (e_A → Bool) → Bool} {n nx : Nat} {nxt : e_Y} (hS : ∀ x l k, S x l k = e_lst x l n k) (ho : e_Sn M pc (o_store e_okI n nx)) (hn : e_Sn M nx (e_un nxt)) : e_Sn M pc (e_un (u_st f_okI S nxt)) := e_thr ho hn e_congr_store (u_st_eq (fun _ => f_okI_eq) hS)
theorem u_stAT {S : Option e_V → e_A → (e_A → Bool) → Bool} {n nx : Nat} {nxt : e_Y} (hS : ∀ x l k, S x l k = e_lst x l n k) (ho : e_Sn M pc (o_store e_okR n nx)) (hn : e_Sn M nx (e_un nxt)) : e_Sn M pc (e_un (u_st f_okA S nxt)) := e_thr ho hn e_congr_store (u_st_eq (fun _ => f_okA_eq) hS)
noncomputable def u_in1 (S : Option e_V → e_A → (e_A → Bool) → Bool) (d : Nat) (nxt : e_Y) (X : e_P) (ls : e_A) (st : List e_V) (v : e_V) : Bool := Sum.rec (motive := fun _ => Bool) (fun m => f_fo (Nat.mod (Nat.add m d) 4294967296) (fun z => S (some (.inl z)) ls (fun l2 => nxt X l2 st))) (fun _ => false) v
noncomputable def u_inc (f : e_A → Option e_V) (S : Option e_V → e_A → (e_A → Bool) → Bool) (d : Nat) (nxt : e_Y) : e_Y := fun X ls st => Option.rec (motive := fun _ => Bool) false (fun v => u_in1 S d nxt X ls st v) (f ls)
theorem u_incT {f : e_A → Option e_V} {S : Option e_V → e_A → (e_A → Bool) → Bool} {n d nx : Nat} {nxt : e_Y} (hf : ∀ l, some (f l) = e_nth l n ∨ f l = none ∧ e_nth l n = none) (hS : ∀ x l k, S x l k = e_lst x l n k) (ho : e_Sn M pc (o_iinc n d nx)) (hn : e_Sn M nx (e_un nxt)) : e_Sn M pc (e_un (u_inc f S d nxt)) := e_thr ho hn e_congr_iinc (fun g F ls st w c K => by
  have e1 : o_iinc n d nx (e_k (e_un nxt) g) F ls st w c K = (match e_nth ls n with
    | some (some v) => (match v with
      | .inl m => e_fo ((m + d) % 4294967296) (fun z => e_lst (some (.inl z)) ls n (fun l2 => nxt (g, F, w, c, K) l2 st))
      | _ => false)
    | _ => false) := by
    unfold o_iinc
    rcases e_nth ls n with _ | _ | v
    · rfl
    · rfl
    · rcases v with m | v <;> rfl
  rw [e1, ← f_nv_load (hf ls) false (fun v => match v with
    | .inl m => e_fo ((m + d) % 4294967296) (fun z => e_lst (some (.inl z)) ls n (fun l2 => nxt (g, F, w, c, K) l2 st))
    | _ => false)]
  unfold e_un u_inc
  cases f ls with
  | none => rfl
  | some v =>
    rcases v with m | v
    · dsimp only [u_in1]
      rw [f_fo_eq]
      congr 1
      funext z
      rw [hS]
    · rfl)
noncomputable def u_b1 (op : Nat → Nat → Nat) (slow : e_Y) (nxt : e_Y) (X : e_P) (ls : e_A) (st r : List e_V) (a b : e_V) : Bool := Sum.rec (motive := fun _ => Bool) (fun n => Sum.rec (motive := fun _ => Bool) (fun m => f_fo (op m n) (fun z => nxt X ls (.inl z :: r))) (fun _ => slow X ls st) a) (fun _ => slow X ls st) b
noncomputable def u_bin (op : Nat → Nat → Nat) (slow : e_Y) (nxt : e_Y) : e_Y := fun X ls st => List.rec (motive := fun _ => Bool) (slow X ls st) (fun b r1 _ => List.rec (motive := fun _ => Bool) (slow X ls st) (fun a r _ => u_b1 op slow nxt X ls st r a b) r1) st
theorem u_bin_eq {op : Nat → Nat → Nat} {o : e_O} {nxt : e_Y} (h : ∀ (g : e_G) (F : e_F) (ls : e_A) (r : List e_V) (w : e_W) (c : e_Q) (K : e_K) (m n : Nat), o (e_k (e_un nxt) g) F ls (.inl n :: .inl m :: r) w c K = e_fo (op m n) (fun z => nxt (g, F, w, c, K) ls (.inl z :: r))) (g : e_G) (F : e_F) (ls : e_A) (st : List e_V) (w : e_W) (c : e_Q) (K : e_K) : e_un (u_bin op (u_old o nxt) nxt) g F ls st w c K = o (e_k (e_un nxt) g) F ls st w c K := by
  rcases st with _ | ⟨b, r1⟩
  · rfl
  · rcases r1 with _ | ⟨a, r⟩
    · rfl
    · rcases b with n | b
      · rcases a with m | a
        · rw [h]; exact f_fo_eq (n := op m n) (k := fun z => nxt (g, F, w, c, K) ls (.inl z :: r))
        · rfl
      · rfl
theorem e_congr_iadd {nx : Nat} (g1 g2 : e_G) (F : e_F) (ls : e_A) (st : List e_V) (w : e_W) (c : e_Q) (K : e_K) (h : g1 F nx = g2 F nx) : o_iadd nx g1 F ls st w c K = o_iadd nx g2 F ls st w c K := by unfold o_iadd; simp only [h]
noncomputable def a_iadd (m n : Nat) : Nat := Nat.mod (Nat.add (Nat.add m n) 2147483648) 4294967296
theorem u_iaddT {nx : Nat} {nxt : e_Y} (ho : e_Sn M pc (o_iadd nx)) (hn : e_Sn M nx (e_un nxt)) : e_Sn M pc (e_un (u_bin a_iadd (u_old (o_iadd nx) nxt) nxt)) := e_thr ho hn e_congr_iadd (u_bin_eq (fun g F ls r w c K m n => by
  unfold o_iadd a_iadd
  rfl))
theorem e_congr_isub {nx : Nat} (g1 g2 : e_G) (F : e_F) (ls : e_A) (st : List e_V) (w : e_W) (c : e_Q) (K : e_K) (h : g1 F nx = g2 F nx) : o_isub nx g1 F ls st w c K = o_isub nx g2 F ls st w c K := by unfold o_isub; simp only [h]
noncomputable def a_isub (m n : Nat) : Nat := Nat.mod (Nat.sub (Nat.add m 6442450944) n) 4294967296
theorem u_isubT {nx : Nat} {nxt : e_Y} (ho : e_Sn M pc (o_isub nx)) (hn : e_Sn M nx (e_un nxt)) : e_Sn M pc (e_un (u_bin a_isub (u_old (o_isub nx) nxt) nxt)) := e_thr ho hn e_congr_isub (u_bin_eq (fun g F ls r w c K m n => by
  unfold o_isub a_isub
  rfl))
theorem e_congr_imul {nx : Nat} (g1 g2 : e_G) (F : e_F) (ls : e_A) (st : List e_V) (w : e_W) (c : e_Q) (K : e_K) (h : g1 F nx = g2 F nx) : o_imul nx g1 F ls st w c K = o_imul nx g2 F ls st w c K := by unfold o_imul; simp only [h]
noncomputable def a_imul (m n : Nat) : Nat := e_u (Nat.mod (Nat.mul (e_u m) (e_u n)) 4294967296)
theorem u_imulT {nx : Nat} {nxt : e_Y} (ho : e_Sn M pc (o_imul nx)) (hn : e_Sn M nx (e_un nxt)) : e_Sn M pc (e_un (u_bin a_imul (u_old (o_imul nx) nxt) nxt)) := e_thr ho hn e_congr_imul (u_bin_eq (fun g F ls r w c K m n => by
  unfold o_imul a_imul
  rfl))
theorem e_congr_iushr {nx : Nat} (g1 g2 : e_G) (F : e_F) (ls : e_A) (st : List e_V) (w : e_W) (c : e_Q) (K : e_K) (h : g1 F nx = g2 F nx) : o_iushr nx g1 F ls st w c K = o_iushr nx g2 F ls st w c K := by unfold o_iushr; simp only [h]
noncomputable def a_iushr (m n : Nat) : Nat := e_u (Nat.div (e_u m) (Nat.pow 2 (Nat.mod (e_u n) 32)))
theorem u_iushrT {nx : Nat} {nxt : e_Y} (ho : e_Sn M pc (o_iushr nx)) (hn : e_Sn M nx (e_un nxt)) : e_Sn M pc (e_un (u_bin a_iushr (u_old (o_iushr nx) nxt) nxt)) := e_thr ho hn e_congr_iushr (u_bin_eq (fun g F ls r w c K m n => by
  unfold o_iushr a_iushr
  rfl))
theorem e_congr_ishl {nx : Nat} (g1 g2 : e_G) (F : e_F) (ls : e_A) (st : List e_V) (w : e_W) (c : e_Q) (K : e_K) (h : g1 F nx = g2 F nx) : o_ishl nx g1 F ls st w c K = o_ishl nx g2 F ls st w c K := by unfold o_ishl; simp only [h]
noncomputable def a_ishl (m n : Nat) : Nat := e_u (Nat.mod (Nat.mul (e_u m) (Nat.pow 2 (Nat.mod (e_u n) 32))) 4294967296)
theorem u_ishlT {nx : Nat} {nxt : e_Y} (ho : e_Sn M pc (o_ishl nx)) (hn : e_Sn M nx (e_un nxt)) : e_Sn M pc (e_un (u_bin a_ishl (u_old (o_ishl nx) nxt) nxt)) := e_thr ho hn e_congr_ishl (u_bin_eq (fun g F ls r w c K m n => by
  unfold o_ishl a_ishl
  rfl))
theorem e_congr_bin {op : Nat → Nat → Nat} {nx : Nat} (g1 g2 : e_G) (F : e_F) (ls : e_A) (st : List e_V) (w : e_W) (c : e_Q) (K : e_K) (h : g1 F nx = g2 F nx) : o_bin op nx g1 F ls st w c K = o_bin op nx g2 F ls st w c K := by unfold o_bin; simp only [h]
noncomputable def a_iand (m n : Nat) : Nat := e_u (Nat.mod (Nat.land (e_u m) (e_u n)) 4294967296)
theorem u_iandT {nx : Nat} {nxt : e_Y} (ho : e_Sn M pc (o_bin Nat.land nx)) (hn : e_Sn M nx (e_un nxt)) : e_Sn M pc (e_un (u_bin a_iand (u_old (o_bin Nat.land nx) nxt) nxt)) := e_thr ho hn e_congr_bin (u_bin_eq (fun g F ls r w c K m n => by
  unfold o_bin a_iand
  rfl))
noncomputable def a_ior (m n : Nat) : Nat := e_u (Nat.mod (Nat.lor (e_u m) (e_u n)) 4294967296)
theorem u_iorT {nx : Nat} {nxt : e_Y} (ho : e_Sn M pc (o_bin Nat.lor nx)) (hn : e_Sn M nx (e_un nxt)) : e_Sn M pc (e_un (u_bin a_ior (u_old (o_bin Nat.lor nx) nxt) nxt)) := e_thr ho hn e_congr_bin (u_bin_eq (fun g F ls r w c K m n => by
  unfold o_bin a_ior
  rfl))
noncomputable def a_ixor (m n : Nat) : Nat := e_u (Nat.mod (Nat.xor (e_u m) (e_u n)) 4294967296)
theorem u_ixorT {nx : Nat} {nxt : e_Y} (ho : e_Sn M pc (o_bin Nat.xor nx)) (hn : e_Sn M nx (e_un nxt)) : e_Sn M pc (e_un (u_bin a_ixor (u_old (o_bin Nat.xor nx) nxt) nxt)) := e_thr ho hn e_congr_bin (u_bin_eq (fun g F ls r w c K m n => by
  unfold o_bin a_ixor
  rfl))
theorem e_k2_t {tg : Nat} {nt nn : e_O} {g : e_G} {F : e_F} : e_k2 tg nt nn g F tg = nt g F := by unfold e_k2; rw [Nat.beq_refl]; rfl
theorem e_k2_n {tg nx : Nat} {nt nn : e_O} {g : e_G} {F : e_F} (h : Nat.beq nx tg = false) : e_k2 tg nt nn g F nx = nn g F := by unfold e_k2; rw [h]; rfl
/-- less, by ble the other way round -/
theorem e_lt_I {m n : Nat} {t f : Bool} : e_lt (some (m, m)) (some (n, n)) t f = Bool.rec (motive := fun _ => Bool) t f (Nat.ble n m) := by
  unfold e_lt
  dsimp only
  cases hc : Nat.ble n m with
  | true =>
    have h3 := Nat.le_of_ble_eq_true hc
    have h1 : Nat.blt m n = false := by
      cases hb : Nat.blt m n with
      | false => rfl
      | true =>
        have h2 : m < n := Nat.le_of_ble_eq_true hb
        omega
    rw [h1]
    rfl
  | false =>
    have h1 : Nat.blt m n = true := by
      apply Nat.ble_eq_true_of_le
      have h3 : ¬ n ≤ m := fun h => by rw [Nat.ble_eq_true_of_le h] at hc; cases hc
      omega
    rw [h1]
    rfl
theorem e_eq_I {m n : Nat} {t f : Bool} : e_eq (some (m, m)) (some (n, n)) t f = Bool.rec (motive := fun _ => Bool) f t (Nat.beq m n) := by
  unfold e_eq
  dsimp only
  cases hb : Nat.beq m n with
  | true =>
    obtain rfl := Nat.eq_of_beq_eq_true hb
    have h1 : Nat.blt m m = false := by
      cases hc : Nat.blt m m with
      | false => rfl
      | true => exact absurd (show m < m from Nat.le_of_ble_eq_true hc) (Nat.lt_irrefl m)
    rw [h1, Nat.beq_refl]
    rfl
  | false =>
    have hne : m ≠ n := fun h => by rw [h, Nat.beq_refl] at hb; cases hb
    have h1 : (Nat.blt m n || Nat.blt n m) = true := by
      rcases Nat.lt_or_gt_of_ne hne with h | h
      · rw [show Nat.blt m n = true from Nat.ble_eq_true_of_le h]; rfl
      · rw [show Nat.blt n m = true from Nat.ble_eq_true_of_le h, Bool.or_true]
    rw [h1]
    rfl
noncomputable def u_j1 (t : Nat → Nat → Bool) (slow : e_Y) (nt nn : e_Y) (X : e_P) (ls : e_A) (st r : List e_V) (a b : e_V) : Bool := Sum.rec (motive := fun _ => Bool) (fun n => Sum.rec (motive := fun _ => Bool) (fun m => Bool.rec (motive := fun _ => Bool) (nt X ls r) (nn X ls r) (t m n)) (fun _ => slow X ls st) a) (fun _ => slow X ls st) b
/-- to nt where t says false -/
noncomputable def u_jmp (t : Nat → Nat → Bool) (slow : e_Y) (nt nn : e_Y) : e_Y := fun X ls st => List.rec (motive := fun _ => Bool) (slow X ls st) (fun b r1 _ => List.rec (motive := fun _ => Bool) (slow X ls st) (fun a r _ => u_j1 t slow nt nn X ls st r a b) r1) st
theorem u_jmp_eq {t : Nat → Nat → Bool} {o : e_O} {tg : Nat} {nt nn : e_Y} (h : ∀ (g : e_G) (F : e_F) (ls : e_A) (r : List e_V) (w : e_W) (c : e_Q) (K : e_K) (m n : Nat), o (e_k2 tg (e_un nt) (e_un nn) g) F ls (.inl n :: .inl m :: r) w c K = Bool.rec (motive := fun _ => Bool) (nt (g, F, w, c, K) ls r) (nn (g, F, w, c, K) ls r) (t m n)) (g : e_G) (F : e_F) (ls : e_A) (st : List e_V) (w : e_W) (c : e_Q) (K : e_K) : e_un (u_jmp t (u_old2 o tg nt nn) nt nn) g F ls st w c K = o (e_k2 tg (e_un nt) (e_un nn) g) F ls st w c K := by
  rcases st with _ | ⟨b, r1⟩
  · rfl
  · rcases r1 with _ | ⟨a, r⟩
    · rfl
    · rcases b with n | b
      · rcases a with m | a
        · rw [h]; rfl
        · rfl
      · rfl
noncomputable def u_j0 (t : Nat → Bool) (slow : e_Y) (nt nn : e_Y) (X : e_P) (ls : e_A) (st r : List e_V) (a : e_V) : Bool := Sum.rec (motive := fun _ => Bool) (fun m => Bool.rec (motive := fun _ => Bool) (nt X ls r) (nn X ls r) (t m)) (fun _ => slow X ls st) a
noncomputable def u_if (t : Nat → Bool) (slow : e_Y) (nt nn : e_Y) : e_Y := fun X ls st => List.rec (motive := fun _ => Bool) (slow X ls st) (fun a r _ => u_j0 t slow nt nn X ls st r a) st
theorem u_if_eq {t : Nat → Bool} {o : e_O} {tg : Nat} {nt nn : e_Y} (h : ∀ (g : e_G) (F : e_F) (ls : e_A) (r : List e_V) (w : e_W) (c : e_Q) (K : e_K) (m : Nat), o (e_k2 tg (e_un nt) (e_un nn) g) F ls (.inl m :: r) w c K = Bool.rec (motive := fun _ => Bool) (nt (g, F, w, c, K) ls r) (nn (g, F, w, c, K) ls r) (t m)) (g : e_G) (F : e_F) (ls : e_A) (st : List e_V) (w : e_W) (c : e_Q) (K : e_K) : e_un (u_if t (u_old2 o tg nt nn) nt nn) g F ls st w c K = o (e_k2 tg (e_un nt) (e_un nn) g) F ls st w c K := by
  rcases st with _ | ⟨a, r⟩
  · rfl
  · rcases a with m | a
    · rw [h]; rfl
    · rfl
def y_ge (m n : Nat) : Bool := Nat.ble n m
def y_le (m n : Nat) : Bool := Nat.ble m n
noncomputable def y_ne (m n : Nat) : Bool := Bool.rec (motive := fun _ => Bool) true false (Nat.beq m n)
def y_ge0 (m : Nat) : Bool := Nat.ble 2147483648 m
def y_le0 (m : Nat) : Bool := Nat.ble m 2147483648
noncomputable def y_ne0 (m : Nat) : Bool := Bool.rec (motive := fun _ => Bool) true false (Nat.beq m 2147483648)
theorem e_flip {b x y : Bool} : Bool.rec (motive := fun _ => Bool) x y b = Bool.rec (motive := fun _ => Bool) y x (Bool.rec (motive := fun _ => Bool) true false b) := by cases b <;> rfl
theorem e_congr_clt {tg nx : Nat} (g1 g2 : e_G) (F : e_F) (ls : e_A) (st : List e_V) (w : e_W) (c : e_Q) (K : e_K) (h1 : g1 F tg = g2 F tg) (h2 : g1 F nx = g2 F nx) : o_clt tg nx g1 F ls st w c K = o_clt tg nx g2 F ls st w c K := by unfold o_clt; simp only [h1, h2]
theorem u_cltT {tg nx : Nat} {nt nn : e_Y} (hne : Nat.beq nx tg = false) (ho : e_Sn M pc (o_clt tg nx)) (ht : e_Sn M tg (e_un nt)) (hn : e_Sn M nx (e_un nn)) : e_Sn M pc (e_un (u_jmp y_ge (u_old2 (o_clt tg nx) tg nt nn) nt nn)) := e_thr2 hne ho ht hn e_congr_clt (u_jmp_eq (fun g F ls r w c K m n => by
  unfold o_clt
  dsimp only
  rw [e_k2_t, e_k2_n hne]
  exact e_lt_I.trans rfl))
theorem e_congr_cgt {tg nx : Nat} (g1 g2 : e_G) (F : e_F) (ls : e_A) (st : List e_V) (w : e_W) (c : e_Q) (K : e_K) (h1 : g1 F tg = g2 F tg) (h2 : g1 F nx = g2 F nx) : o_cgt tg nx g1 F ls st w c K = o_cgt tg nx g2 F ls st w c K := by unfold o_cgt; simp only [h1, h2]
theorem u_cgtT {tg nx : Nat} {nt nn : e_Y} (hne : Nat.beq nx tg = false) (ho : e_Sn M pc (o_cgt tg nx)) (ht : e_Sn M tg (e_un nt)) (hn : e_Sn M nx (e_un nn)) : e_Sn M pc (e_un (u_jmp y_le (u_old2 (o_cgt tg nx) tg nt nn) nt nn)) := e_thr2 hne ho ht hn e_congr_cgt (u_jmp_eq (fun g F ls r w c K m n => by
  unfold o_cgt
  dsimp only
  rw [e_k2_t, e_k2_n hne]
  exact e_lt_I.trans rfl))
theorem e_congr_ceq {tg nx : Nat} (g1 g2 : e_G) (F : e_F) (ls : e_A) (st : List e_V) (w : e_W) (c : e_Q) (K : e_K) (h1 : g1 F tg = g2 F tg) (h2 : g1 F nx = g2 F nx) : o_ceq tg nx g1 F ls st w c K = o_ceq tg nx g2 F ls st w c K := by unfold o_ceq; simp only [h1, h2]
theorem u_ceqT {tg nx : Nat} {nt nn : e_Y} (hne : Nat.beq nx tg = false) (ho : e_Sn M pc (o_ceq tg nx)) (ht : e_Sn M tg (e_un nt)) (hn : e_Sn M nx (e_un nn)) : e_Sn M pc (e_un (u_jmp y_ne (u_old2 (o_ceq tg nx) tg nt nn) nt nn)) := e_thr2 hne ho ht hn e_congr_ceq (u_jmp_eq (fun g F ls r w c K m n => by
  unfold o_ceq
  dsimp only
  rw [e_k2_t, e_k2_n hne]
  exact e_eq_I.trans e_flip))
theorem e_congr_iflt {tg nx : Nat} (g1 g2 : e_G) (F : e_F) (ls : e_A) (st : List e_V) (w : e_W) (c : e_Q) (K : e_K) (h1 : g1 F tg = g2 F tg) (h2 : g1 F nx = g2 F nx) : o_iflt tg nx g1 F ls st w c K = o_iflt tg nx g2 F ls st w c K := by unfold o_iflt; simp only [h1, h2]
theorem u_ifltT {tg nx : Nat} {nt nn : e_Y} (hne : Nat.beq nx tg = false) (ho : e_Sn M pc (o_iflt tg nx)) (ht : e_Sn M tg (e_un nt)) (hn : e_Sn M nx (e_un nn)) : e_Sn M pc (e_un (u_if y_ge0 (u_old2 (o_iflt tg nx) tg nt nn) nt nn)) := e_thr2 hne ho ht hn e_congr_iflt (u_if_eq (fun g F ls r w c K m => by
  unfold o_iflt
  dsimp only
  rw [e_k2_t, e_k2_n hne]
  exact e_lt_I.trans rfl))
theorem e_congr_ifgt {tg nx : Nat} (g1 g2 : e_G) (F : e_F) (ls : e_A) (st : List e_V) (w : e_W) (c : e_Q) (K : e_K) (h1 : g1 F tg = g2 F tg) (h2 : g1 F nx = g2 F nx) : o_ifgt tg nx g1 F ls st w c K = o_ifgt tg nx g2 F ls st w c K := by unfold o_ifgt; simp only [h1, h2]
theorem u_ifgtT {tg nx : Nat} {nt nn : e_Y} (hne : Nat.beq nx tg = false) (ho : e_Sn M pc (o_ifgt tg nx)) (ht : e_Sn M tg (e_un nt)) (hn : e_Sn M nx (e_un nn)) : e_Sn M pc (e_un (u_if y_le0 (u_old2 (o_ifgt tg nx) tg nt nn) nt nn)) := e_thr2 hne ho ht hn e_congr_ifgt (u_if_eq (fun g F ls r w c K m => by
  unfold o_ifgt
  dsimp only
  rw [e_k2_t, e_k2_n hne]
  exact e_lt_I.trans rfl))
theorem e_congr_ifeq {tg nx : Nat} (g1 g2 : e_G) (F : e_F) (ls : e_A) (st : List e_V) (w : e_W) (c : e_Q) (K : e_K) (h1 : g1 F tg = g2 F tg) (h2 : g1 F nx = g2 F nx) : o_ifeq tg nx g1 F ls st w c K = o_ifeq tg nx g2 F ls st w c K := by unfold o_ifeq; simp only [h1, h2]
theorem u_ifeqT {tg nx : Nat} {nt nn : e_Y} (hne : Nat.beq nx tg = false) (ho : e_Sn M pc (o_ifeq tg nx)) (ht : e_Sn M tg (e_un nt)) (hn : e_Sn M nx (e_un nn)) : e_Sn M pc (e_un (u_if y_ne0 (u_old2 (o_ifeq tg nx) tg nt nn) nt nn)) := e_thr2 hne ho ht hn e_congr_ifeq (u_if_eq (fun g F ls r w c K m => by
  unfold o_ifeq
  dsimp only
  rw [e_k2_t, e_k2_n hne]
  exact e_eq_I.trans e_flip))
theorem e_congr_i2l {nx : Nat} (g1 g2 : e_G) (F : e_F) (ls : e_A) (st : List e_V) (w : e_W) (c : e_Q) (K : e_K) (h : g1 F nx = g2 F nx) : o_i2l nx g1 F ls st w c K = o_i2l nx g2 F ls st w c K := by unfold o_i2l; simp only [h]
theorem e_congr_pop {nx : Nat} (g1 g2 : e_G) (F : e_F) (ls : e_A) (st : List e_V) (w : e_W) (c : e_Q) (K : e_K) (h : g1 F nx = g2 F nx) : o_pop nx g1 F ls st w c K = o_pop nx g2 F ls st w c K := by unfold o_pop; simp only [h]
noncomputable def u_pop (nxt : e_Y) : e_Y := fun X ls st => List.rec (motive := fun _ => Bool) false (fun v r _ => f_w1 v (nxt X ls r) false) st
theorem u_popT {nx : Nat} {nxt : e_Y} (ho : e_Sn M pc (o_pop nx)) (hn : e_Sn M nx (e_un nxt)) : e_Sn M pc (e_un (u_pop nxt)) := e_thr ho hn e_congr_pop (fun g F ls st w c K => by
  rcases st with _ | ⟨b, r⟩
  · rfl
  · exact f_w1_eq)
noncomputable def f_tg0 (w : e_T 0) (_ : Nat) : e_C := w
noncomputable def f_tp0 (x : e_C) (_ : e_T 0) (_ : Nat) (k : e_T 0 → Bool) : Bool := k x
theorem f_tg0_eq (w : e_T 0) (j : Nat) : f_tg0 w j = e_tget 0 w (j % 1) := rfl
theorem f_tp0_eq (x : e_C) (w : e_T 0) (j : Nat) (k : e_T 0 → Bool) : f_tp0 x w j k = e_tput x 0 w (j % 1) k := rfl
noncomputable def f_tg1 (w : e_T 1) (i : Nat) : e_C := Prod.rec (motive := fun _ => e_C) (fun a b => Nat.rec (motive := fun _ => e_C) (f_tg0 a i) (fun _ _ => f_tg0 b i) (Nat.mod (Nat.div i 1) 2)) (show e_T 0 × e_T 0 from w)
set_option maxRecDepth 20000 in
theorem f_tg1_eq (w : e_T 1) (j : Nat) : f_tg1 w j = e_tget 1 w (j % 2) := by
  obtain ⟨a, b⟩ := (show e_T 0 × e_T 0 from w)
  show (Nat.rec (motive := fun _ => e_C) (f_tg0 a j) (fun _ _ => f_tg0 b j) ((j / 1) % 2) : e_C) = bif Nat.blt (j % 2) (2 ^ 0) then e_tget 0 a (j % 2) else e_tget 0 b (j % 2 - 2 ^ 0)
  rw [f_tg0_eq, f_tg0_eq, show 2 ^ 0 = 1 from rfl]
  rcases Nat.mod_two_eq_zero_or_one (j / 1) with h | h
  · have h1 : j % 2 < 1 ∧ j % 2 = j % 1 := by omega
    rw [h, show Nat.blt (j % 2) 1 = true from Nat.ble_eq_true_of_le h1.1, cond_true, ← h1.2]
    rfl
  · have h1 : ¬ j % 2 < 1 ∧ j % 2 - 1 = j % 1 := by omega
    have h2 : Nat.blt (j % 2) 1 = false := by
      cases hb : Nat.blt (j % 2) 1 with
      | false => rfl
      | true => exact absurd (Nat.le_of_ble_eq_true hb) h1.1
    rw [h, h2, cond_false, ← h1.2]
    rfl
noncomputable def f_tp1 (x : e_C) (w : e_T 1) (i : Nat) (k : e_T 1 → Bool) : Bool := Prod.rec (motive := fun _ => Bool) (fun a b => Nat.rec (motive := fun _ => Bool) (f_tp0 x a i (fun a2 => k (show e_T 1 from ((a2, b) : e_T 0 × e_T 0)))) (fun _ _ => f_tp0 x b i (fun b2 => k (show e_T 1 from ((a, b2) : e_T 0 × e_T 0)))) (Nat.mod (Nat.div i 1) 2)) (show e_T 0 × e_T 0 from w)
set_option maxRecDepth 20000 in
theorem f_tp1_eq (x : e_C) (w : e_T 1) (j : Nat) (k : e_T 1 → Bool) : f_tp1 x w j k = e_tput x 1 w (j % 2) k := by
  obtain ⟨a, b⟩ := (show e_T 0 × e_T 0 from w)
  show (Nat.rec (motive := fun _ => Bool) (f_tp0 x a j (fun a2 => k (show e_T 1 from ((a2, b) : e_T 0 × e_T 0)))) (fun _ _ => f_tp0 x b j (fun b2 => k (show e_T 1 from ((a, b2) : e_T 0 × e_T 0)))) ((j / 1) % 2) : Bool) = bif Nat.blt (j % 2) (2 ^ 0) then e_tput x 0 a (j % 2) (fun a2 => k (show e_T 1 from ((a2, b) : e_T 0 × e_T 0))) else e_tput x 0 b (j % 2 - 2 ^ 0) (fun b2 => k (show e_T 1 from ((a, b2) : e_T 0 × e_T 0)))
  rw [f_tp0_eq, f_tp0_eq, show 2 ^ 0 = 1 from rfl]
  rcases Nat.mod_two_eq_zero_or_one (j / 1) with h | h
  · have h1 : j % 2 < 1 ∧ j % 2 = j % 1 := by omega
    rw [h, show Nat.blt (j % 2) 1 = true from Nat.ble_eq_true_of_le h1.1, cond_true, ← h1.2]
    rfl
  · have h1 : ¬ j % 2 < 1 ∧ j % 2 - 1 = j % 1 := by omega
    have h2 : Nat.blt (j % 2) 1 = false := by
      cases hb : Nat.blt (j % 2) 1 with
      | false => rfl
      | true => exact absurd (Nat.le_of_ble_eq_true hb) h1.1
    rw [h, h2, cond_false, ← h1.2]
    rfl
noncomputable def f_tg2 (w : e_T 2) (i : Nat) : e_C := Prod.rec (motive := fun _ => e_C) (fun a b => Nat.rec (motive := fun _ => e_C) (f_tg1 a i) (fun _ _ => f_tg1 b i) (Nat.mod (Nat.div i 2) 2)) (show e_T 1 × e_T 1 from w)
set_option maxRecDepth 20000 in
theorem f_tg2_eq (w : e_T 2) (j : Nat) : f_tg2 w j = e_tget 2 w (j % 4) := by
  obtain ⟨a, b⟩ := (show e_T 1 × e_T 1 from w)
  show (Nat.rec (motive := fun _ => e_C) (f_tg1 a j) (fun _ _ => f_tg1 b j) ((j / 2) % 2) : e_C) = bif Nat.blt (j % 4) (2 ^ 1) then e_tget 1 a (j % 4) else e_tget 1 b (j % 4 - 2 ^ 1)
  rw [f_tg1_eq, f_tg1_eq, show 2 ^ 1 = 2 from rfl]
  rcases Nat.mod_two_eq_zero_or_one (j / 2) with h | h
  · have h1 : j % 4 < 2 ∧ j % 4 = j % 2 := by omega
    rw [h, show Nat.blt (j % 4) 2 = true from Nat.ble_eq_true_of_le h1.1, cond_true, ← h1.2]
    rfl
  · have h1 : ¬ j % 4 < 2 ∧ j % 4 - 2 = j % 2 := by omega
    have h2 : Nat.blt (j % 4) 2 = false := by
      cases hb : Nat.blt (j % 4) 2 with
      | false => rfl
      | true => exact absurd (Nat.le_of_ble_eq_true hb) h1.1
    rw [h, h2, cond_false, ← h1.2]
    rfl
noncomputable def f_tp2 (x : e_C) (w : e_T 2) (i : Nat) (k : e_T 2 → Bool) : Bool := Prod.rec (motive := fun _ => Bool) (fun a b => Nat.rec (motive := fun _ => Bool) (f_tp1 x a i (fun a2 => k (show e_T 2 from ((a2, b) : e_T 1 × e_T 1)))) (fun _ _ => f_tp1 x b i (fun b2 => k (show e_T 2 from ((a, b2) : e_T 1 × e_T 1)))) (Nat.mod (Nat.div i 2) 2)) (show e_T 1 × e_T 1 from w)
set_option maxRecDepth 20000 in
theorem f_tp2_eq (x : e_C) (w : e_T 2) (j : Nat) (k : e_T 2 → Bool) : f_tp2 x w j k = e_tput x 2 w (j % 4) k := by
  obtain ⟨a, b⟩ := (show e_T 1 × e_T 1 from w)
  show (Nat.rec (motive := fun _ => Bool) (f_tp1 x a j (fun a2 => k (show e_T 2 from ((a2, b) : e_T 1 × e_T 1)))) (fun _ _ => f_tp1 x b j (fun b2 => k (show e_T 2 from ((a, b2) : e_T 1 × e_T 1)))) ((j / 2) % 2) : Bool) = bif Nat.blt (j % 4) (2 ^ 1) then e_tput x 1 a (j % 4) (fun a2 => k (show e_T 2 from ((a2, b) : e_T 1 × e_T 1))) else e_tput x 1 b (j % 4 - 2 ^ 1) (fun b2 => k (show e_T 2 from ((a, b2) : e_T 1 × e_T 1)))
  rw [f_tp1_eq, f_tp1_eq, show 2 ^ 1 = 2 from rfl]
  rcases Nat.mod_two_eq_zero_or_one (j / 2) with h | h
  · have h1 : j % 4 < 2 ∧ j % 4 = j % 2 := by omega
    rw [h, show Nat.blt (j % 4) 2 = true from Nat.ble_eq_true_of_le h1.1, cond_true, ← h1.2]
    rfl
  · have h1 : ¬ j % 4 < 2 ∧ j % 4 - 2 = j % 2 := by omega
    have h2 : Nat.blt (j % 4) 2 = false := by
      cases hb : Nat.blt (j % 4) 2 with
      | false => rfl
      | true => exact absurd (Nat.le_of_ble_eq_true hb) h1.1
    rw [h, h2, cond_false, ← h1.2]
    rfl
noncomputable def f_tg3 (w : e_T 3) (i : Nat) : e_C := Prod.rec (motive := fun _ => e_C) (fun a b => Nat.rec (motive := fun _ => e_C) (f_tg2 a i) (fun _ _ => f_tg2 b i) (Nat.mod (Nat.div i 4) 2)) (show e_T 2 × e_T 2 from w)
set_option maxRecDepth 20000 in
theorem f_tg3_eq (w : e_T 3) (j : Nat) : f_tg3 w j = e_tget 3 w (j % 8) := by
  obtain ⟨a, b⟩ := (show e_T 2 × e_T 2 from w)
  show (Nat.rec (motive := fun _ => e_C) (f_tg2 a j) (fun _ _ => f_tg2 b j) ((j / 4) % 2) : e_C) = bif Nat.blt (j % 8) (2 ^ 2) then e_tget 2 a (j % 8) else e_tget 2 b (j % 8 - 2 ^ 2)
  rw [f_tg2_eq, f_tg2_eq, show 2 ^ 2 = 4 from rfl]
  rcases Nat.mod_two_eq_zero_or_one (j / 4) with h | h
  · have h1 : j % 8 < 4 ∧ j % 8 = j % 4 := by omega
    rw [h, show Nat.blt (j % 8) 4 = true from Nat.ble_eq_true_of_le h1.1, cond_true, ← h1.2]
    rfl
  · have h1 : ¬ j % 8 < 4 ∧ j % 8 - 4 = j % 4 := by omega
    have h2 : Nat.blt (j % 8) 4 = false := by
      cases hb : Nat.blt (j % 8) 4 with
      | false => rfl
      | true => exact absurd (Nat.le_of_ble_eq_true hb) h1.1
    rw [h, h2, cond_false, ← h1.2]
    rfl
noncomputable def f_tp3 (x : e_C) (w : e_T 3) (i : Nat) (k : e_T 3 → Bool) : Bool := Prod.rec (motive := fun _ => Bool) (fun a b => Nat.rec (motive := fun _ => Bool) (f_tp2 x a i (fun a2 => k (show e_T 3 from ((a2, b) : e_T 2 × e_T 2)))) (fun _ _ => f_tp2 x b i (fun b2 => k (show e_T 3 from ((a, b2) : e_T 2 × e_T 2)))) (Nat.mod (Nat.div i 4) 2)) (show e_T 2 × e_T 2 from w)
set_option maxRecDepth 20000 in
theorem f_tp3_eq (x : e_C) (w : e_T 3) (j : Nat) (k : e_T 3 → Bool) : f_tp3 x w j k = e_tput x 3 w (j % 8) k := by
  obtain ⟨a, b⟩ := (show e_T 2 × e_T 2 from w)
  show (Nat.rec (motive := fun _ => Bool) (f_tp2 x a j (fun a2 => k (show e_T 3 from ((a2, b) : e_T 2 × e_T 2)))) (fun _ _ => f_tp2 x b j (fun b2 => k (show e_T 3 from ((a, b2) : e_T 2 × e_T 2)))) ((j / 4) % 2) : Bool) = bif Nat.blt (j % 8) (2 ^ 2) then e_tput x 2 a (j % 8) (fun a2 => k (show e_T 3 from ((a2, b) : e_T 2 × e_T 2))) else e_tput x 2 b (j % 8 - 2 ^ 2) (fun b2 => k (show e_T 3 from ((a, b2) : e_T 2 × e_T 2)))
  rw [f_tp2_eq, f_tp2_eq, show 2 ^ 2 = 4 from rfl]
  rcases Nat.mod_two_eq_zero_or_one (j / 4) with h | h
  · have h1 : j % 8 < 4 ∧ j % 8 = j % 4 := by omega
    rw [h, show Nat.blt (j % 8) 4 = true from Nat.ble_eq_true_of_le h1.1, cond_true, ← h1.2]
    rfl
  · have h1 : ¬ j % 8 < 4 ∧ j % 8 - 4 = j % 4 := by omega
    have h2 : Nat.blt (j % 8) 4 = false := by
      cases hb : Nat.blt (j % 8) 4 with
      | false => rfl
      | true => exact absurd (Nat.le_of_ble_eq_true hb) h1.1
    rw [h, h2, cond_false, ← h1.2]
    rfl
noncomputable def f_tg4 (w : e_T 4) (i : Nat) : e_C := Prod.rec (motive := fun _ => e_C) (fun a b => Nat.rec (motive := fun _ => e_C) (f_tg3 a i) (fun _ _ => f_tg3 b i) (Nat.mod (Nat.div i 8) 2)) (show e_T 3 × e_T 3 from w)
set_option maxRecDepth 20000 in
theorem f_tg4_eq (w : e_T 4) (j : Nat) : f_tg4 w j = e_tget 4 w (j % 16) := by
  obtain ⟨a, b⟩ := (show e_T 3 × e_T 3 from w)
  show (Nat.rec (motive := fun _ => e_C) (f_tg3 a j) (fun _ _ => f_tg3 b j) ((j / 8) % 2) : e_C) = bif Nat.blt (j % 16) (2 ^ 3) then e_tget 3 a (j % 16) else e_tget 3 b (j % 16 - 2 ^ 3)
  rw [f_tg3_eq, f_tg3_eq, show 2 ^ 3 = 8 from rfl]
  rcases Nat.mod_two_eq_zero_or_one (j / 8) with h | h
  · have h1 : j % 16 < 8 ∧ j % 16 = j % 8 := by omega
    rw [h, show Nat.blt (j % 16) 8 = true from Nat.ble_eq_true_of_le h1.1, cond_true, ← h1.2]
    rfl
  · have h1 : ¬ j % 16 < 8 ∧ j % 16 - 8 = j % 8 := by omega
    have h2 : Nat.blt (j % 16) 8 = false := by
      cases hb : Nat.blt (j % 16) 8 with
      | false => rfl
      | true => exact absurd (Nat.le_of_ble_eq_true hb) h1.1
    rw [h, h2, cond_false, ← h1.2]
    rfl
noncomputable def f_tp4 (x : e_C) (w : e_T 4) (i : Nat) (k : e_T 4 → Bool) : Bool := Prod.rec (motive := fun _ => Bool) (fun a b => Nat.rec (motive := fun _ => Bool) (f_tp3 x a i (fun a2 => k (show e_T 4 from ((a2, b) : e_T 3 × e_T 3)))) (fun _ _ => f_tp3 x b i (fun b2 => k (show e_T 4 from ((a, b2) : e_T 3 × e_T 3)))) (Nat.mod (Nat.div i 8) 2)) (show e_T 3 × e_T 3 from w)
set_option maxRecDepth 20000 in
theorem f_tp4_eq (x : e_C) (w : e_T 4) (j : Nat) (k : e_T 4 → Bool) : f_tp4 x w j k = e_tput x 4 w (j % 16) k := by
  obtain ⟨a, b⟩ := (show e_T 3 × e_T 3 from w)
  show (Nat.rec (motive := fun _ => Bool) (f_tp3 x a j (fun a2 => k (show e_T 4 from ((a2, b) : e_T 3 × e_T 3)))) (fun _ _ => f_tp3 x b j (fun b2 => k (show e_T 4 from ((a, b2) : e_T 3 × e_T 3)))) ((j / 8) % 2) : Bool) = bif Nat.blt (j % 16) (2 ^ 3) then e_tput x 3 a (j % 16) (fun a2 => k (show e_T 4 from ((a2, b) : e_T 3 × e_T 3))) else e_tput x 3 b (j % 16 - 2 ^ 3) (fun b2 => k (show e_T 4 from ((a, b2) : e_T 3 × e_T 3)))
  rw [f_tp3_eq, f_tp3_eq, show 2 ^ 3 = 8 from rfl]
  rcases Nat.mod_two_eq_zero_or_one (j / 8) with h | h
  · have h1 : j % 16 < 8 ∧ j % 16 = j % 8 := by omega
    rw [h, show Nat.blt (j % 16) 8 = true from Nat.ble_eq_true_of_le h1.1, cond_true, ← h1.2]
    rfl
  · have h1 : ¬ j % 16 < 8 ∧ j % 16 - 8 = j % 8 := by omega
    have h2 : Nat.blt (j % 16) 8 = false := by
      cases hb : Nat.blt (j % 16) 8 with
      | false => rfl
      | true => exact absurd (Nat.le_of_ble_eq_true hb) h1.1
    rw [h, h2, cond_false, ← h1.2]
    rfl
noncomputable def f_tg5 (w : e_T 5) (i : Nat) : e_C := Prod.rec (motive := fun _ => e_C) (fun a b => Nat.rec (motive := fun _ => e_C) (f_tg4 a i) (fun _ _ => f_tg4 b i) (Nat.mod (Nat.div i 16) 2)) (show e_T 4 × e_T 4 from w)
set_option maxRecDepth 20000 in
theorem f_tg5_eq (w : e_T 5) (j : Nat) : f_tg5 w j = e_tget 5 w (j % 32) := by
  obtain ⟨a, b⟩ := (show e_T 4 × e_T 4 from w)
  show (Nat.rec (motive := fun _ => e_C) (f_tg4 a j) (fun _ _ => f_tg4 b j) ((j / 16) % 2) : e_C) = bif Nat.blt (j % 32) (2 ^ 4) then e_tget 4 a (j % 32) else e_tget 4 b (j % 32 - 2 ^ 4)
  rw [f_tg4_eq, f_tg4_eq, show 2 ^ 4 = 16 from rfl]
  rcases Nat.mod_two_eq_zero_or_one (j / 16) with h | h
  · have h1 : j % 32 < 16 ∧ j % 32 = j % 16 := by omega
    rw [h, show Nat.blt (j % 32) 16 = true from Nat.ble_eq_true_of_le h1.1, cond_true, ← h1.2]
    rfl
  · have h1 : ¬ j % 32 < 16 ∧ j % 32 - 16 = j % 16 := by omega
    have h2 : Nat.blt (j % 32) 16 = false := by
      cases hb : Nat.blt (j % 32) 16 with
      | false => rfl
      | true => exact absurd (Nat.le_of_ble_eq_true hb) h1.1
    rw [h, h2, cond_false, ← h1.2]
    rfl
noncomputable def f_tp5 (x : e_C) (w : e_T 5) (i : Nat) (k : e_T 5 → Bool) : Bool := Prod.rec (motive := fun _ => Bool) (fun a b => Nat.rec (motive := fun _ => Bool) (f_tp4 x a i (fun a2 => k (show e_T 5 from ((a2, b) : e_T 4 × e_T 4)))) (fun _ _ => f_tp4 x b i (fun b2 => k (show e_T 5 from ((a, b2) : e_T 4 × e_T 4)))) (Nat.mod (Nat.div i 16) 2)) (show e_T 4 × e_T 4 from w)
set_option maxRecDepth 20000 in
theorem f_tp5_eq (x : e_C) (w : e_T 5) (j : Nat) (k : e_T 5 → Bool) : f_tp5 x w j k = e_tput x 5 w (j % 32) k := by
  obtain ⟨a, b⟩ := (show e_T 4 × e_T 4 from w)
  show (Nat.rec (motive := fun _ => Bool) (f_tp4 x a j (fun a2 => k (show e_T 5 from ((a2, b) : e_T 4 × e_T 4)))) (fun _ _ => f_tp4 x b j (fun b2 => k (show e_T 5 from ((a, b2) : e_T 4 × e_T 4)))) ((j / 16) % 2) : Bool) = bif Nat.blt (j % 32) (2 ^ 4) then e_tput x 4 a (j % 32) (fun a2 => k (show e_T 5 from ((a2, b) : e_T 4 × e_T 4))) else e_tput x 4 b (j % 32 - 2 ^ 4) (fun b2 => k (show e_T 5 from ((a, b2) : e_T 4 × e_T 4)))
  rw [f_tp4_eq, f_tp4_eq, show 2 ^ 4 = 16 from rfl]
  rcases Nat.mod_two_eq_zero_or_one (j / 16) with h | h
  · have h1 : j % 32 < 16 ∧ j % 32 = j % 16 := by omega
    rw [h, show Nat.blt (j % 32) 16 = true from Nat.ble_eq_true_of_le h1.1, cond_true, ← h1.2]
    rfl
  · have h1 : ¬ j % 32 < 16 ∧ j % 32 - 16 = j % 16 := by omega
    have h2 : Nat.blt (j % 32) 16 = false := by
      cases hb : Nat.blt (j % 32) 16 with
      | false => rfl
      | true => exact absurd (Nat.le_of_ble_eq_true hb) h1.1
    rw [h, h2, cond_false, ← h1.2]
    rfl
noncomputable def f_tg6 (w : e_T 6) (i : Nat) : e_C := Prod.rec (motive := fun _ => e_C) (fun a b => Nat.rec (motive := fun _ => e_C) (f_tg5 a i) (fun _ _ => f_tg5 b i) (Nat.mod (Nat.div i 32) 2)) (show e_T 5 × e_T 5 from w)
set_option maxRecDepth 20000 in
theorem f_tg6_eq (w : e_T 6) (j : Nat) : f_tg6 w j = e_tget 6 w (j % 64) := by
  obtain ⟨a, b⟩ := (show e_T 5 × e_T 5 from w)
  show (Nat.rec (motive := fun _ => e_C) (f_tg5 a j) (fun _ _ => f_tg5 b j) ((j / 32) % 2) : e_C) = bif Nat.blt (j % 64) (2 ^ 5) then e_tget 5 a (j % 64) else e_tget 5 b (j % 64 - 2 ^ 5)
  rw [f_tg5_eq, f_tg5_eq, show 2 ^ 5 = 32 from rfl]
  rcases Nat.mod_two_eq_zero_or_one (j / 32) with h | h
  · have h1 : j % 64 < 32 ∧ j % 64 = j % 32 := by omega
    rw [h, show Nat.blt (j % 64) 32 = true from Nat.ble_eq_true_of_le h1.1, cond_true, ← h1.2]
    rfl
  · have h1 : ¬ j % 64 < 32 ∧ j % 64 - 32 = j % 32 := by omega
    have h2 : Nat.blt (j % 64) 32 = false := by
      cases hb : Nat.blt (j % 64) 32 with
      | false => rfl
      | true => exact absurd (Nat.le_of_ble_eq_true hb) h1.1
    rw [h, h2, cond_false, ← h1.2]
    rfl
noncomputable def f_tp6 (x : e_C) (w : e_T 6) (i : Nat) (k : e_T 6 → Bool) : Bool := Prod.rec (motive := fun _ => Bool) (fun a b => Nat.rec (motive := fun _ => Bool) (f_tp5 x a i (fun a2 => k (show e_T 6 from ((a2, b) : e_T 5 × e_T 5)))) (fun _ _ => f_tp5 x b i (fun b2 => k (show e_T 6 from ((a, b2) : e_T 5 × e_T 5)))) (Nat.mod (Nat.div i 32) 2)) (show e_T 5 × e_T 5 from w)
set_option maxRecDepth 20000 in
theorem f_tp6_eq (x : e_C) (w : e_T 6) (j : Nat) (k : e_T 6 → Bool) : f_tp6 x w j k = e_tput x 6 w (j % 64) k := by
  obtain ⟨a, b⟩ := (show e_T 5 × e_T 5 from w)
  show (Nat.rec (motive := fun _ => Bool) (f_tp5 x a j (fun a2 => k (show e_T 6 from ((a2, b) : e_T 5 × e_T 5)))) (fun _ _ => f_tp5 x b j (fun b2 => k (show e_T 6 from ((a, b2) : e_T 5 × e_T 5)))) ((j / 32) % 2) : Bool) = bif Nat.blt (j % 64) (2 ^ 5) then e_tput x 5 a (j % 64) (fun a2 => k (show e_T 6 from ((a2, b) : e_T 5 × e_T 5))) else e_tput x 5 b (j % 64 - 2 ^ 5) (fun b2 => k (show e_T 6 from ((a, b2) : e_T 5 × e_T 5)))
  rw [f_tp5_eq, f_tp5_eq, show 2 ^ 5 = 32 from rfl]
  rcases Nat.mod_two_eq_zero_or_one (j / 32) with h | h
  · have h1 : j % 64 < 32 ∧ j % 64 = j % 32 := by omega
    rw [h, show Nat.blt (j % 64) 32 = true from Nat.ble_eq_true_of_le h1.1, cond_true, ← h1.2]
    rfl
  · have h1 : ¬ j % 64 < 32 ∧ j % 64 - 32 = j % 32 := by omega
    have h2 : Nat.blt (j % 64) 32 = false := by
      cases hb : Nat.blt (j % 64) 32 with
      | false => rfl
      | true => exact absurd (Nat.le_of_ble_eq_true hb) h1.1
    rw [h, h2, cond_false, ← h1.2]
    rfl
noncomputable def f_tg7 (w : e_T 7) (i : Nat) : e_C := Prod.rec (motive := fun _ => e_C) (fun a b => Nat.rec (motive := fun _ => e_C) (f_tg6 a i) (fun _ _ => f_tg6 b i) (Nat.mod (Nat.div i 64) 2)) (show e_T 6 × e_T 6 from w)
set_option maxRecDepth 20000 in
theorem f_tg7_eq (w : e_T 7) (j : Nat) : f_tg7 w j = e_tget 7 w (j % 128) := by
  obtain ⟨a, b⟩ := (show e_T 6 × e_T 6 from w)
  show (Nat.rec (motive := fun _ => e_C) (f_tg6 a j) (fun _ _ => f_tg6 b j) ((j / 64) % 2) : e_C) = bif Nat.blt (j % 128) (2 ^ 6) then e_tget 6 a (j % 128) else e_tget 6 b (j % 128 - 2 ^ 6)
  rw [f_tg6_eq, f_tg6_eq, show 2 ^ 6 = 64 from rfl]
  rcases Nat.mod_two_eq_zero_or_one (j / 64) with h | h
  · have h1 : j % 128 < 64 ∧ j % 128 = j % 64 := by omega
    rw [h, show Nat.blt (j % 128) 64 = true from Nat.ble_eq_true_of_le h1.1, cond_true, ← h1.2]
    rfl
  · have h1 : ¬ j % 128 < 64 ∧ j % 128 - 64 = j % 64 := by omega
    have h2 : Nat.blt (j % 128) 64 = false := by
      cases hb : Nat.blt (j % 128) 64 with
      | false => rfl
      | true => exact absurd (Nat.le_of_ble_eq_true hb) h1.1
    rw [h, h2, cond_false, ← h1.2]
    rfl
noncomputable def f_tp7 (x : e_C) (w : e_T 7) (i : Nat) (k : e_T 7 → Bool) : Bool := Prod.rec (motive := fun _ => Bool) (fun a b => Nat.rec (motive := fun _ => Bool) (f_tp6 x a i (fun a2 => k (show e_T 7 from ((a2, b) : e_T 6 × e_T 6)))) (fun _ _ => f_tp6 x b i (fun b2 => k (show e_T 7 from ((a, b2) : e_T 6 × e_T 6)))) (Nat.mod (Nat.div i 64) 2)) (show e_T 6 × e_T 6 from w)
set_option maxRecDepth 20000 in
theorem f_tp7_eq (x : e_C) (w : e_T 7) (j : Nat) (k : e_T 7 → Bool) : f_tp7 x w j k = e_tput x 7 w (j % 128) k := by
  obtain ⟨a, b⟩ := (show e_T 6 × e_T 6 from w)
  show (Nat.rec (motive := fun _ => Bool) (f_tp6 x a j (fun a2 => k (show e_T 7 from ((a2, b) : e_T 6 × e_T 6)))) (fun _ _ => f_tp6 x b j (fun b2 => k (show e_T 7 from ((a, b2) : e_T 6 × e_T 6)))) ((j / 64) % 2) : Bool) = bif Nat.blt (j % 128) (2 ^ 6) then e_tput x 6 a (j % 128) (fun a2 => k (show e_T 7 from ((a2, b) : e_T 6 × e_T 6))) else e_tput x 6 b (j % 128 - 2 ^ 6) (fun b2 => k (show e_T 7 from ((a, b2) : e_T 6 × e_T 6)))
  rw [f_tp6_eq, f_tp6_eq, show 2 ^ 6 = 64 from rfl]
  rcases Nat.mod_two_eq_zero_or_one (j / 64) with h | h
  · have h1 : j % 128 < 64 ∧ j % 128 = j % 64 := by omega
    rw [h, show Nat.blt (j % 128) 64 = true from Nat.ble_eq_true_of_le h1.1, cond_true, ← h1.2]
    rfl
  · have h1 : ¬ j % 128 < 64 ∧ j % 128 - 64 = j % 64 := by omega
    have h2 : Nat.blt (j % 128) 64 = false := by
      cases hb : Nat.blt (j % 128) 64 with
      | false => rfl
      | true => exact absurd (Nat.le_of_ble_eq_true hb) h1.1
    rw [h, h2, cond_false, ← h1.2]
    rfl
noncomputable def f_tg8 (w : e_T 8) (i : Nat) : e_C := Prod.rec (motive := fun _ => e_C) (fun a b => Nat.rec (motive := fun _ => e_C) (f_tg7 a i) (fun _ _ => f_tg7 b i) (Nat.mod (Nat.div i 128) 2)) (show e_T 7 × e_T 7 from w)
set_option maxRecDepth 20000 in
theorem f_tg8_eq (w : e_T 8) (j : Nat) : f_tg8 w j = e_tget 8 w (j % 256) := by
  obtain ⟨a, b⟩ := (show e_T 7 × e_T 7 from w)
  show (Nat.rec (motive := fun _ => e_C) (f_tg7 a j) (fun _ _ => f_tg7 b j) ((j / 128) % 2) : e_C) = bif Nat.blt (j % 256) (2 ^ 7) then e_tget 7 a (j % 256) else e_tget 7 b (j % 256 - 2 ^ 7)
  rw [f_tg7_eq, f_tg7_eq, show 2 ^ 7 = 128 from rfl]
  rcases Nat.mod_two_eq_zero_or_one (j / 128) with h | h
  · have h1 : j % 256 < 128 ∧ j % 256 = j % 128 := by omega
    rw [h, show Nat.blt (j % 256) 128 = true from Nat.ble_eq_true_of_le h1.1, cond_true, ← h1.2]
    rfl
  · have h1 : ¬ j % 256 < 128 ∧ j % 256 - 128 = j % 128 := by omega
    have h2 : Nat.blt (j % 256) 128 = false := by
      cases hb : Nat.blt (j % 256) 128 with
      | false => rfl
      | true => exact absurd (Nat.le_of_ble_eq_true hb) h1.1
    rw [h, h2, cond_false, ← h1.2]
    rfl
noncomputable def f_tp8 (x : e_C) (w : e_T 8) (i : Nat) (k : e_T 8 → Bool) : Bool := Prod.rec (motive := fun _ => Bool) (fun a b => Nat.rec (motive := fun _ => Bool) (f_tp7 x a i (fun a2 => k (show e_T 8 from ((a2, b) : e_T 7 × e_T 7)))) (fun _ _ => f_tp7 x b i (fun b2 => k (show e_T 8 from ((a, b2) : e_T 7 × e_T 7)))) (Nat.mod (Nat.div i 128) 2)) (show e_T 7 × e_T 7 from w)
set_option maxRecDepth 20000 in
theorem f_tp8_eq (x : e_C) (w : e_T 8) (j : Nat) (k : e_T 8 → Bool) : f_tp8 x w j k = e_tput x 8 w (j % 256) k := by
  obtain ⟨a, b⟩ := (show e_T 7 × e_T 7 from w)
  show (Nat.rec (motive := fun _ => Bool) (f_tp7 x a j (fun a2 => k (show e_T 8 from ((a2, b) : e_T 7 × e_T 7)))) (fun _ _ => f_tp7 x b j (fun b2 => k (show e_T 8 from ((a, b2) : e_T 7 × e_T 7)))) ((j / 128) % 2) : Bool) = bif Nat.blt (j % 256) (2 ^ 7) then e_tput x 7 a (j % 256) (fun a2 => k (show e_T 8 from ((a2, b) : e_T 7 × e_T 7))) else e_tput x 7 b (j % 256 - 2 ^ 7) (fun b2 => k (show e_T 8 from ((a, b2) : e_T 7 × e_T 7)))
  rw [f_tp7_eq, f_tp7_eq, show 2 ^ 7 = 128 from rfl]
  rcases Nat.mod_two_eq_zero_or_one (j / 128) with h | h
  · have h1 : j % 256 < 128 ∧ j % 256 = j % 128 := by omega
    rw [h, show Nat.blt (j % 256) 128 = true from Nat.ble_eq_true_of_le h1.1, cond_true, ← h1.2]
    rfl
  · have h1 : ¬ j % 256 < 128 ∧ j % 256 - 128 = j % 128 := by omega
    have h2 : Nat.blt (j % 256) 128 = false := by
      cases hb : Nat.blt (j % 256) 128 with
      | false => rfl
      | true => exact absurd (Nat.le_of_ble_eq_true hb) h1.1
    rw [h, h2, cond_false, ← h1.2]
    rfl
noncomputable def f_tg9 (w : e_T 9) (i : Nat) : e_C := Prod.rec (motive := fun _ => e_C) (fun a b => Nat.rec (motive := fun _ => e_C) (f_tg8 a i) (fun _ _ => f_tg8 b i) (Nat.mod (Nat.div i 256) 2)) (show e_T 8 × e_T 8 from w)
set_option maxRecDepth 20000 in
theorem f_tg9_eq (w : e_T 9) (j : Nat) : f_tg9 w j = e_tget 9 w (j % 512) := by
  obtain ⟨a, b⟩ := (show e_T 8 × e_T 8 from w)
  show (Nat.rec (motive := fun _ => e_C) (f_tg8 a j) (fun _ _ => f_tg8 b j) ((j / 256) % 2) : e_C) = bif Nat.blt (j % 512) (2 ^ 8) then e_tget 8 a (j % 512) else e_tget 8 b (j % 512 - 2 ^ 8)
  rw [f_tg8_eq, f_tg8_eq, show 2 ^ 8 = 256 from rfl]
  rcases Nat.mod_two_eq_zero_or_one (j / 256) with h | h
  · have h1 : j % 512 < 256 ∧ j % 512 = j % 256 := by omega
    rw [h, show Nat.blt (j % 512) 256 = true from Nat.ble_eq_true_of_le h1.1, cond_true, ← h1.2]
    rfl
  · have h1 : ¬ j % 512 < 256 ∧ j % 512 - 256 = j % 256 := by omega
    have h2 : Nat.blt (j % 512) 256 = false := by
      cases hb : Nat.blt (j % 512) 256 with
      | false => rfl
      | true => exact absurd (Nat.le_of_ble_eq_true hb) h1.1
    rw [h, h2, cond_false, ← h1.2]
    rfl
noncomputable def f_tp9 (x : e_C) (w : e_T 9) (i : Nat) (k : e_T 9 → Bool) : Bool := Prod.rec (motive := fun _ => Bool) (fun a b => Nat.rec (motive := fun _ => Bool) (f_tp8 x a i (fun a2 => k (show e_T 9 from ((a2, b) : e_T 8 × e_T 8)))) (fun _ _ => f_tp8 x b i (fun b2 => k (show e_T 9 from ((a, b2) : e_T 8 × e_T 8)))) (Nat.mod (Nat.div i 256) 2)) (show e_T 8 × e_T 8 from w)
set_option maxRecDepth 20000 in
theorem f_tp9_eq (x : e_C) (w : e_T 9) (j : Nat) (k : e_T 9 → Bool) : f_tp9 x w j k = e_tput x 9 w (j % 512) k := by
  obtain ⟨a, b⟩ := (show e_T 8 × e_T 8 from w)
  show (Nat.rec (motive := fun _ => Bool) (f_tp8 x a j (fun a2 => k (show e_T 9 from ((a2, b) : e_T 8 × e_T 8)))) (fun _ _ => f_tp8 x b j (fun b2 => k (show e_T 9 from ((a, b2) : e_T 8 × e_T 8)))) ((j / 256) % 2) : Bool) = bif Nat.blt (j % 512) (2 ^ 8) then e_tput x 8 a (j % 512) (fun a2 => k (show e_T 9 from ((a2, b) : e_T 8 × e_T 8))) else e_tput x 8 b (j % 512 - 2 ^ 8) (fun b2 => k (show e_T 9 from ((a, b2) : e_T 8 × e_T 8)))
  rw [f_tp8_eq, f_tp8_eq, show 2 ^ 8 = 256 from rfl]
  rcases Nat.mod_two_eq_zero_or_one (j / 256) with h | h
  · have h1 : j % 512 < 256 ∧ j % 512 = j % 256 := by omega
    rw [h, show Nat.blt (j % 512) 256 = true from Nat.ble_eq_true_of_le h1.1, cond_true, ← h1.2]
    rfl
  · have h1 : ¬ j % 512 < 256 ∧ j % 512 - 256 = j % 256 := by omega
    have h2 : Nat.blt (j % 512) 256 = false := by
      cases hb : Nat.blt (j % 512) 256 with
      | false => rfl
      | true => exact absurd (Nat.le_of_ble_eq_true hb) h1.1
    rw [h, h2, cond_false, ← h1.2]
    rfl
theorem f_tget_eq {w : e_W} {q : Nat} (h : Nat.ble q 511 = true) : f_tg9 w q = e_tget 9 w q := by
  rw [f_tg9_eq, Nat.mod_eq_of_lt (show q < 512 from Nat.lt_succ_of_le (Nat.le_of_ble_eq_true h))]
theorem f_tput_eq {x : e_C} {w : e_W} {q : Nat} {k : e_W → Bool} (h : Nat.ble q 511 = true) : f_tp9 x w q k = e_tput x 9 w q k := by
  rw [f_tp9_eq, Nat.mod_eq_of_lt (show q < 512 from Nat.lt_succ_of_le (Nat.le_of_ble_eq_true h))]
noncomputable def f_nth {α : Type} (l : List α) : Nat → Option α := List.rec (motive := fun _ => Nat → Option α) (fun _ => none) (fun a _ ih n => Nat.rec (motive := fun _ => Option α) (some a) (fun m _ => ih m) n) l
theorem f_nth_eq {α : Type} : ∀ (l : List α) (n : Nat), f_nth l n = e_nth l n
  | [], n => by cases n <;> rfl
  | a :: l, 0 => rfl
  | a :: l, n + 1 => f_nth_eq l n
noncomputable def f_rg1 (l : List (Nat × e_V)) : Nat → Option e_V := List.rec (motive := fun _ => Nat → Option e_V) (fun _ => none) (fun p _ ih j => Prod.rec (motive := fun _ => Option e_V) (fun n v => Bool.rec (motive := fun _ => Option e_V) (some v) (ih (Nat.sub j n)) (Nat.ble n j)) p) l
theorem f_rg1_eq : ∀ (l : List (Nat × e_V)) (j : Nat), f_rg1 l j = e_rget l j j
  | [], j => rfl
  | (n, v) :: l, j => by
    show (Bool.rec (motive := fun _ => Option e_V) (some v) (f_rg1 l (j - n)) (Nat.ble n j) : Option e_V) = bif Nat.blt j n then (bif Nat.blt j n then some v else none) else e_rget l (j - n) (j - n)
    rw [f_rg1_eq l (j - n)]
    cases hb : Nat.ble n j with
    | true =>
      have h1 : Nat.blt j n = false := by
        cases hc : Nat.blt j n with
        | false => rfl
        | true =>
          have h2 : j < n := Nat.le_of_ble_eq_true hc
          have h3 := Nat.le_of_ble_eq_true hb
          omega
      rw [h1]; rfl
    | false =>
      have h1 : Nat.blt j n = true := by
        apply Nat.ble_eq_true_of_le
        have h3 : ¬ n ≤ j := fun h => by rw [Nat.ble_eq_true_of_le h] at hb; cases hb
        omega
      rw [h1]; rfl
theorem e_congr_getf {fi : Nat → Option Nat} {nx : Nat} (g1 g2 : e_G) (F : e_F) (ls : e_A) (st : List e_V) (w : e_W) (c : e_Q) (K : e_K) (h : g1 F nx = g2 F nx) : o_getf fi nx g1 F ls st w c K = o_getf fi nx g2 F ls st w c K := by unfold o_getf; simp only [h]
noncomputable def h_tg0 (w : e_T 0) (_ : Nat) : e_C := w
theorem h_tg0_eq (w : e_T 0) (q : Nat) : h_tg0 w q = f_tg0 w q := rfl
noncomputable def h_tg1 (w : e_T 1) (q : Nat) : e_C := Prod.rec (motive := fun _ => e_C) (fun (a b : e_T 0) => h_tg0 (Nat.rec (motive := fun _ => e_T 0) a (fun _ _ => b) (Nat.mod (Nat.div q 1) 2)) q) (w : e_T 0 × e_T 0)
theorem h_tg1_eq (w : e_T 1) (q : Nat) : h_tg1 w q = f_tg1 w q := by
  obtain ⟨a, b⟩ := (show e_T 0 × e_T 0 from w)
  show h_tg0 (Nat.rec (motive := fun _ => e_T 0) a (fun _ _ => b) (Nat.mod (Nat.div q 1) 2)) q = (Nat.rec (motive := fun _ => e_C) (f_tg0 a q) (fun _ _ => f_tg0 b q) (Nat.mod (Nat.div q 1) 2) : e_C)
  rw [h_tg0_eq]
  generalize Nat.mod (Nat.div q 1) 2 = n
  cases n <;> rfl
noncomputable def h_tg2 (w : e_T 2) (q : Nat) : e_C := Prod.rec (motive := fun _ => e_C) (fun (a b : e_T 1) => h_tg1 (Nat.rec (motive := fun _ => e_T 1) a (fun _ _ => b) (Nat.mod (Nat.div q 2) 2)) q) (w : e_T 1 × e_T 1)
theorem h_tg2_eq (w : e_T 2) (q : Nat) : h_tg2 w q = f_tg2 w q := by
  obtain ⟨a, b⟩ := (show e_T 1 × e_T 1 from w)
  show h_tg1 (Nat.rec (motive := fun _ => e_T 1) a (fun _ _ => b) (Nat.mod (Nat.div q 2) 2)) q = (Nat.rec (motive := fun _ => e_C) (f_tg1 a q) (fun _ _ => f_tg1 b q) (Nat.mod (Nat.div q 2) 2) : e_C)
  rw [h_tg1_eq]
  generalize Nat.mod (Nat.div q 2) 2 = n
  cases n <;> rfl
noncomputable def h_tg3 (w : e_T 3) (q : Nat) : e_C := Prod.rec (motive := fun _ => e_C) (fun (a b : e_T 2) => h_tg2 (Nat.rec (motive := fun _ => e_T 2) a (fun _ _ => b) (Nat.mod (Nat.div q 4) 2)) q) (w : e_T 2 × e_T 2)
theorem h_tg3_eq (w : e_T 3) (q : Nat) : h_tg3 w q = f_tg3 w q := by
  obtain ⟨a, b⟩ := (show e_T 2 × e_T 2 from w)
  show h_tg2 (Nat.rec (motive := fun _ => e_T 2) a (fun _ _ => b) (Nat.mod (Nat.div q 4) 2)) q = (Nat.rec (motive := fun _ => e_C) (f_tg2 a q) (fun _ _ => f_tg2 b q) (Nat.mod (Nat.div q 4) 2) : e_C)
  rw [h_tg2_eq]
  generalize Nat.mod (Nat.div q 4) 2 = n
  cases n <;> rfl
noncomputable def h_tg4 (w : e_T 4) (q : Nat) : e_C := Prod.rec (motive := fun _ => e_C) (fun (a b : e_T 3) => h_tg3 (Nat.rec (motive := fun _ => e_T 3) a (fun _ _ => b) (Nat.mod (Nat.div q 8) 2)) q) (w : e_T 3 × e_T 3)
theorem h_tg4_eq (w : e_T 4) (q : Nat) : h_tg4 w q = f_tg4 w q := by
  obtain ⟨a, b⟩ := (show e_T 3 × e_T 3 from w)
  show h_tg3 (Nat.rec (motive := fun _ => e_T 3) a (fun _ _ => b) (Nat.mod (Nat.div q 8) 2)) q = (Nat.rec (motive := fun _ => e_C) (f_tg3 a q) (fun _ _ => f_tg3 b q) (Nat.mod (Nat.div q 8) 2) : e_C)
  rw [h_tg3_eq]
  generalize Nat.mod (Nat.div q 8) 2 = n
  cases n <;> rfl
noncomputable def h_tg5 (w : e_T 5) (q : Nat) : e_C := Prod.rec (motive := fun _ => e_C) (fun (a b : e_T 4) => h_tg4 (Nat.rec (motive := fun _ => e_T 4) a (fun _ _ => b) (Nat.mod (Nat.div q 16) 2)) q) (w : e_T 4 × e_T 4)
theorem h_tg5_eq (w : e_T 5) (q : Nat) : h_tg5 w q = f_tg5 w q := by
  obtain ⟨a, b⟩ := (show e_T 4 × e_T 4 from w)
  show h_tg4 (Nat.rec (motive := fun _ => e_T 4) a (fun _ _ => b) (Nat.mod (Nat.div q 16) 2)) q = (Nat.rec (motive := fun _ => e_C) (f_tg4 a q) (fun _ _ => f_tg4 b q) (Nat.mod (Nat.div q 16) 2) : e_C)
  rw [h_tg4_eq]
  generalize Nat.mod (Nat.div q 16) 2 = n
  cases n <;> rfl
noncomputable def h_tg6 (w : e_T 6) (q : Nat) : e_C := Prod.rec (motive := fun _ => e_C) (fun (a b : e_T 5) => h_tg5 (Nat.rec (motive := fun _ => e_T 5) a (fun _ _ => b) (Nat.mod (Nat.div q 32) 2)) q) (w : e_T 5 × e_T 5)
theorem h_tg6_eq (w : e_T 6) (q : Nat) : h_tg6 w q = f_tg6 w q := by
  obtain ⟨a, b⟩ := (show e_T 5 × e_T 5 from w)
  show h_tg5 (Nat.rec (motive := fun _ => e_T 5) a (fun _ _ => b) (Nat.mod (Nat.div q 32) 2)) q = (Nat.rec (motive := fun _ => e_C) (f_tg5 a q) (fun _ _ => f_tg5 b q) (Nat.mod (Nat.div q 32) 2) : e_C)
  rw [h_tg5_eq]
  generalize Nat.mod (Nat.div q 32) 2 = n
  cases n <;> rfl
noncomputable def h_tg7 (w : e_T 7) (q : Nat) : e_C := Prod.rec (motive := fun _ => e_C) (fun (a b : e_T 6) => h_tg6 (Nat.rec (motive := fun _ => e_T 6) a (fun _ _ => b) (Nat.mod (Nat.div q 64) 2)) q) (w : e_T 6 × e_T 6)
theorem h_tg7_eq (w : e_T 7) (q : Nat) : h_tg7 w q = f_tg7 w q := by
  obtain ⟨a, b⟩ := (show e_T 6 × e_T 6 from w)
  show h_tg6 (Nat.rec (motive := fun _ => e_T 6) a (fun _ _ => b) (Nat.mod (Nat.div q 64) 2)) q = (Nat.rec (motive := fun _ => e_C) (f_tg6 a q) (fun _ _ => f_tg6 b q) (Nat.mod (Nat.div q 64) 2) : e_C)
  rw [h_tg6_eq]
  generalize Nat.mod (Nat.div q 64) 2 = n
  cases n <;> rfl
noncomputable def h_tg8 (w : e_T 8) (q : Nat) : e_C := Prod.rec (motive := fun _ => e_C) (fun (a b : e_T 7) => h_tg7 (Nat.rec (motive := fun _ => e_T 7) a (fun _ _ => b) (Nat.mod (Nat.div q 128) 2)) q) (w : e_T 7 × e_T 7)
theorem h_tg8_eq (w : e_T 8) (q : Nat) : h_tg8 w q = f_tg8 w q := by
  obtain ⟨a, b⟩ := (show e_T 7 × e_T 7 from w)
  show h_tg7 (Nat.rec (motive := fun _ => e_T 7) a (fun _ _ => b) (Nat.mod (Nat.div q 128) 2)) q = (Nat.rec (motive := fun _ => e_C) (f_tg7 a q) (fun _ _ => f_tg7 b q) (Nat.mod (Nat.div q 128) 2) : e_C)
  rw [h_tg7_eq]
  generalize Nat.mod (Nat.div q 128) 2 = n
  cases n <;> rfl
noncomputable def h_tg9 (w : e_T 9) (q : Nat) : e_C := Prod.rec (motive := fun _ => e_C) (fun (a b : e_T 8) => h_tg8 (Nat.rec (motive := fun _ => e_T 8) a (fun _ _ => b) (Nat.mod (Nat.div q 256) 2)) q) (w : e_T 8 × e_T 8)
theorem h_tg9_eq (w : e_T 9) (q : Nat) : h_tg9 w q = f_tg9 w q := by
  obtain ⟨a, b⟩ := (show e_T 8 × e_T 8 from w)
  show h_tg8 (Nat.rec (motive := fun _ => e_T 8) a (fun _ _ => b) (Nat.mod (Nat.div q 256) 2)) q = (Nat.rec (motive := fun _ => e_C) (f_tg8 a q) (fun _ _ => f_tg8 b q) (Nat.mod (Nat.div q 256) 2) : e_C)
  rw [h_tg8_eq]
  generalize Nat.mod (Nat.div q 256) 2 = n
  cases n <;> rfl
noncomputable def f_tg (w : e_W) (q : Nat) : e_C := Prod.rec (motive := fun _ => e_C) (fun (a b : e_T 8) => Prod.rec (motive := fun _ => e_C) (fun (a b : e_T 7) => Prod.rec (motive := fun _ => e_C) (fun (a b : e_T 6) => Prod.rec (motive := fun _ => e_C) (fun (a b : e_T 5) => Prod.rec (motive := fun _ => e_C) (fun (a b : e_T 4) => Prod.rec (motive := fun _ => e_C) (fun (a b : e_T 3) => Prod.rec (motive := fun _ => e_C) (fun (a b : e_T 2) => Prod.rec (motive := fun _ => e_C) (fun (a b : e_T 1) => Prod.rec (motive := fun _ => e_C) (fun (a b : e_T 0) => (Nat.rec (motive := fun _ => e_T 0) a (fun _ _ => b) (Nat.mod (Nat.div q 1) 2))) ((Nat.rec (motive := fun _ => e_T 1) a (fun _ _ => b) (Nat.mod (Nat.div q 2) 2)) : e_T 0 × e_T 0)) ((Nat.rec (motive := fun _ => e_T 2) a (fun _ _ => b) (Nat.mod (Nat.div q 4) 2)) : e_T 1 × e_T 1)) ((Nat.rec (motive := fun _ => e_T 3) a (fun _ _ => b) (Nat.mod (Nat.div q 8) 2)) : e_T 2 × e_T 2)) ((Nat.rec (motive := fun _ => e_T 4) a (fun _ _ => b) (Nat.mod (Nat.div q 16) 2)) : e_T 3 × e_T 3)) ((Nat.rec (motive := fun _ => e_T 5) a (fun _ _ => b) (Nat.mod (Nat.div q 32) 2)) : e_T 4 × e_T 4)) ((Nat.rec (motive := fun _ => e_T 6) a (fun _ _ => b) (Nat.mod (Nat.div q 64) 2)) : e_T 5 × e_T 5)) ((Nat.rec (motive := fun _ => e_T 7) a (fun _ _ => b) (Nat.mod (Nat.div q 128) 2)) : e_T 6 × e_T 6)) ((Nat.rec (motive := fun _ => e_T 8) a (fun _ _ => b) (Nat.mod (Nat.div q 256) 2)) : e_T 7 × e_T 7)) (w : e_T 8 × e_T 8)
theorem f_tg_eq {w : e_W} {q : Nat} (h : Nat.ble q 511 = true) : f_tg w q = e_tget 9 w q := (show f_tg w q = h_tg9 w q from rfl).trans ((h_tg9_eq w q).trans (f_tget_eq h))
noncomputable def u_g4 (nxt : e_Y) (X : e_P) (ls : e_A) (r : List e_V) (x : Option e_V) : Bool := Option.rec (motive := fun _ => Bool) false (fun v => nxt X ls (v :: r)) x
noncomputable def u_g3 (ci k : Nat) (nxt : e_Y) (X : e_P) (ls : e_A) (r : List e_V) (x : e_C) : Bool := Sum.rec (motive := fun _ => Bool) (fun p => Prod.rec (motive := fun _ => Bool) (fun cj fs => Bool.rec (motive := fun _ => Bool) false (u_g4 nxt X ls r (f_nth fs k)) (Nat.beq cj ci)) p) (fun _ => false) x
noncomputable def u_g2 (ci k : Nat) (slow nxt : e_Y) (X : e_P) (ls : e_A) (st r : List e_V) (q : Nat) : Bool := Bool.rec (motive := fun _ => Bool) (slow X ls st) (u_g3 ci k nxt X ls r (f_tg X.2.2.1 q)) (Nat.ble q 511)
noncomputable def u_g1 (ci k : Nat) (slow nxt : e_Y) (X : e_P) (ls : e_A) (st r : List e_V) (v : e_V) : Bool := Sum.rec (motive := fun _ => Bool) (fun _ => false) (fun z => Sum.rec (motive := fun _ => Bool) (fun o => Option.rec (motive := fun _ => Bool) false (fun q => u_g2 ci k slow nxt X ls st r q) o) (fun _ => false) z) v
noncomputable def u_getf (ci k : Nat) (slow nxt : e_Y) : e_Y := fun X ls st => List.rec (motive := fun _ => Bool) false (fun v r _ => u_g1 ci k slow nxt X ls st r v) st
theorem u_getfT {ci k nx : Nat} {nxt : e_Y} (ho : e_Sn M pc (o_getf (e_f1 ci k) nx)) (hn : e_Sn M nx (e_un nxt)) : e_Sn M pc (e_un (u_getf ci k (u_old (o_getf (e_f1 ci k) nx) nxt) nxt)) := e_thr ho hn e_congr_getf (fun g F ls st w c K => by
  rcases st with _ | ⟨v, r⟩
  · rfl
  · rcases v with m | (_ | q) | v
    · rfl
    · rfl
    · show u_g2 ci k (u_old (o_getf (e_f1 ci k) nx) nxt) nxt (g, F, w, c, K) ls (.inr (.inl (some q)) :: r) r q = _
      unfold u_g2
      cases hq : Nat.ble q 511 with
      | false => rfl
      | true =>
        dsimp only
        rw [f_tg_eq hq]
        unfold o_getf e_k e_f1
        dsimp only
        generalize e_tget 9 w q = x
        rcases x with ⟨cj, fs⟩ | ⟨t, rs⟩
        · unfold u_g3
          dsimp only
          cases Nat.beq cj ci
          · rfl
          · dsimp only [cond_true]
            rw [f_nth_eq]
            cases e_nth fs k <;> rfl
        · rfl
    · rfl)
theorem e_congr_aldO {tc nx : Nat} (g1 g2 : e_G) (F : e_F) (ls : e_A) (st : List e_V) (w : e_W) (c : e_Q) (K : e_K) (h : g1 F nx = g2 F nx) : o_aldO tc nx g1 F ls st w c K = o_aldO tc nx g2 F ls st w c K := by unfold o_aldO; simp only [h]
theorem e_congr_ald {fc : List (List (Nat × e_V))} {nx : Nat} (g1 g2 : e_G) (F : e_F) (ls : e_A) (st : List e_V) (w : e_W) (c : e_Q) (K : e_K) (h : g1 F nx = g2 F nx) : o_ald fc nx g1 F ls st w c K = o_ald fc nx g2 F ls st w c K := by
  unfold o_ald
  split
  · simp only [h]
  · exact e_congr_aldO g1 g2 F ls _ w c K h
noncomputable def u_a3 (tc j : Nat) (nxt : e_Y) (X : e_P) (ls : e_A) (r : List e_V) (x : e_C) : Bool := Sum.rec (motive := fun _ => Bool) (fun _ => false) (fun p => Prod.rec (motive := fun _ => Bool) (fun t rs => Bool.rec (motive := fun _ => Bool) false (u_g4 nxt X ls r (f_rg1 rs j)) (Nat.beq t tc)) p) x
noncomputable def u_a2 (tc : Nat) (slow nxt : e_Y) (X : e_P) (ls : e_A) (st r : List e_V) (i q : Nat) : Bool := Bool.rec (motive := fun _ => Bool) (slow X ls st) (u_a3 tc (Nat.sub i 2147483648) nxt X ls r (f_tg X.2.2.1 q)) (Nat.ble q 511 && Nat.ble 2147483648 i)
noncomputable def u_a1 (tc : Nat) (slow nxt : e_Y) (X : e_P) (ls : e_A) (st r : List e_V) (i : Nat) (v : e_V) : Bool := Sum.rec (motive := fun _ => Bool) (fun _ => slow X ls st) (fun z => Sum.rec (motive := fun _ => Bool) (fun o => Option.rec (motive := fun _ => Bool) (slow X ls st) (fun q => u_a2 tc slow nxt X ls st r i q) o) (fun _ => slow X ls st) z) v
noncomputable def u_a0 (tc : Nat) (slow nxt : e_Y) (X : e_P) (ls : e_A) (st r1 : List e_V) (i : e_V) : Bool := Sum.rec (motive := fun _ => Bool) (fun i => List.rec (motive := fun _ => Bool) (slow X ls st) (fun v r _ => u_a1 tc slow nxt X ls st r i v) r1) (fun _ => slow X ls st) i
noncomputable def u_ald (tc : Nat) (slow nxt : e_Y) : e_Y := fun X ls st => List.rec (motive := fun _ => Bool) (slow X ls st) (fun i r1 _ => u_a0 tc slow nxt X ls st r1 i) st
theorem u_ald_eq {tc : Nat} {o : e_O} {nx : Nat} {nxt : e_Y} (h : ∀ (g : e_G) (F : e_F) (ls : e_A) (r : List e_V) (w : e_W) (c : e_Q) (K : e_K) (i q : Nat), o (e_k (e_un nxt) g) F ls (.inl i :: .inr (.inl (some q)) :: r) w c K = o_aldO tc nx (e_k (e_un nxt) g) F ls (.inl i :: .inr (.inl (some q)) :: r) w c K) (g : e_G) (F : e_F) (ls : e_A) (st : List e_V) (w : e_W) (c : e_Q) (K : e_K) : e_un (u_ald tc (u_old o nxt) nxt) g F ls st w c K = o (e_k (e_un nxt) g) F ls st w c K := by
  rcases st with _ | ⟨i, r1⟩
  · rfl
  · rcases i with i | i
    · rcases r1 with _ | ⟨v, r⟩
      · rfl
      · rcases v with m | (_ | q) | v
        · rfl
        · rfl
        · show u_a2 tc (u_old o nxt) nxt (g, F, w, c, K) ls (.inl i :: .inr (.inl (some q)) :: r) r i q = _
          unfold u_a2
          cases hq : (Nat.ble q 511 && Nat.ble 2147483648 i) with
          | false => rfl
          | true =>
            obtain ⟨h1, h2⟩ := (Bool.and_eq_true _ _).mp hq
            rw [h]
            dsimp only
            rw [f_tg_eq h1]
            unfold o_aldO e_k
            dsimp only [e_rg]
            show u_a3 tc (i - 2147483648) nxt (g, F, w, c, K) ls r (e_tget 9 w q) = _
            generalize e_tget 9 w q = x
            rcases x with ⟨cj, fs⟩ | ⟨t, rs⟩
            · rfl
            · unfold u_a3
              dsimp only
              rw [f_rg1_eq, h2, Nat.ble_eq_true_of_le (Nat.le_refl i), Bool.and_true, Bool.and_true]
              generalize e_rget rs (i - 2147483648) (i - 2147483648) = y
              cases Nat.beq t tc
              · rfl
              · cases y <;> rfl
        · rfl
    · rfl
theorem u_aldOT {tc nx : Nat} {nxt : e_Y} (ho : e_Sn M pc (o_aldO tc nx)) (hn : e_Sn M nx (e_un nxt)) : e_Sn M pc (e_un (u_ald tc (u_old (o_aldO tc nx) nxt) nxt)) := e_thr ho hn e_congr_aldO (u_ald_eq (nx := nx) (fun _ _ _ _ _ _ _ _ _ => rfl))
theorem u_aldT {fc : List (List (Nat × e_V))} {nx : Nat} {nxt : e_Y} (ho : e_Sn M pc (o_ald fc nx)) (hn : e_Sn M nx (e_un nxt)) : e_Sn M pc (e_un (u_ald 0 (u_old (o_ald fc nx) nxt) nxt)) := e_thr ho hn e_congr_ald (u_ald_eq (nx := nx) (fun _ _ _ _ _ _ _ _ _ => rfl))
noncomputable def f_args (n : Nat) : List e_V → List e_V → (List e_V → List e_V → Bool) → Bool := Nat.rec (motive := fun _ => List e_V → List e_V → (List e_V → List e_V → Bool) → Bool) (fun as st k => k as st) (fun _ ih as st k => List.rec (motive := fun _ => Bool) (false) (fun v r _ => ih (v :: as) r k) st) n
theorem f_args_eq : ∀ (n : Nat) (as st : List e_V) (k : List e_V → List e_V → Bool), f_args n as st k = e_args n as st k
  | 0, _, _, _ => rfl
  | n + 1, as, [], _ => rfl
  | n + 1, as, v :: r, k => f_args_eq n (v :: as) r k
noncomputable def f_rpl (m : Nat) : e_A := Nat.rec (motive := fun _ => e_A) [] (fun _ ih => none :: ih) m
theorem f_rpl_eq : ∀ m : Nat, f_rpl m = List.replicate m none
  | 0 => rfl
  | m + 1 => by
    show none :: f_rpl m = none :: List.replicate m none
    rw [f_rpl_eq m]
noncomputable def f_loc (l : List e_V) : Nat → (e_A → Bool) → Bool := List.rec (motive := fun _ => Nat → (e_A → Bool) → Bool) (fun m k => k (f_rpl m)) (fun v _ ih m k => Nat.rec (motive := fun _ => Bool) false (fun z _ => f_w1 v (ih z (fun a => k (some v :: a))) (Nat.rec (motive := fun _ => Bool) false (fun y _ => ih y (fun a => k (some v :: none :: a))) z)) m) l
theorem f_loc_eq : ∀ (l : List e_V) (m : Nat) (k : e_A → Bool), f_loc l m k = e_loc l m k
  | [], m, k => by
    show k (f_rpl m) = k (List.replicate m none)
    rw [f_rpl_eq]
  | v :: l, 0, k => rfl
  | v :: l, z + 1, k => by
    show f_w1 v (f_loc l z (fun a => k (some v :: a))) (Nat.rec (motive := fun _ => Bool) false (fun y _ => f_loc l y (fun a => k (some v :: none :: a))) z) = (bif e_is1 v then e_loc l z (fun a => k (some v :: a)) else match z with
      | 0 => false
      | y + 1 => e_loc l y (fun a => k (some v :: none :: a)))
    rw [f_w1_eq]
    cases e_is1 v with
    | true => exact f_loc_eq l z _
    | false =>
      cases z with
      | zero => rfl
      | succ y => exact f_loc_eq l y _
noncomputable def f_n1 (v : e_V) : Nat := Sum.rec (motive := fun _ => Nat) (fun _ => 1) (fun v1 => Sum.rec (motive := fun _ => Nat) (fun _ => 1) (fun v2 => Sum.rec (motive := fun _ => Nat) (fun _ => 2) (fun v3 => Sum.rec (motive := fun _ => Nat) (fun _ => 1) (fun v4 => Sum.rec (motive := fun _ => Nat) (fun _ => 2) (fun _ => 1) v4) v3) v2) v1) v
noncomputable def f_stw (r : List e_V) : Nat := List.rec (motive := fun _ => Nat) 0 (fun v _ ih => f_n1 v + ih) r
theorem f_stw_eq : ∀ r : List e_V, f_stw r = e_stw r
  | [] => rfl
  | v :: r => by
    show f_n1 v + f_stw r = (bif e_is1 v then 1 else 2) + e_stw r
    rw [f_stw_eq r]
    rcases v with m | q | m | q | q | q <;> rfl

/-- the callee's first place goes on with ny, all others with nxt -/
def e_kc (ny nxt : e_O) (g : e_G) : e_G := fun F pc => bif Nat.beq pc 0 then ny g F else nxt g F
noncomputable def u_ret (nxt : e_Y) (g : e_G) (F : e_F) (ls : e_A) (r : List e_V) (K : e_K) : e_K := fun z w2 c2 => Sum.rec (motive := fun _ => Bool) (fun ov => Option.rec (motive := fun _ => Bool) (nxt (g, F, w2, c2, K) ls r) (fun v => nxt (g, F, w2, c2, K) ls (v :: r)) ov) (fun _ => false) z
noncomputable def u_go2 (y m m19 : Nat) (ny nxt : e_Y) (ls : e_A) (as r : List e_V) (g : e_G) (F : e_F) (w : e_W) (c : e_Q) (K : e_K) (fr lo : Nat) (bx : List (Nat × e_V)) : Bool := f_fo (Nat.sub fr 1) (fun fr2 => f_fo (Nat.sub lo m19) (fun lo2 => f_loc as m (fun la => ny (g, (y, fr2, lo2, bx), w, c, u_ret nxt g F ls r K) la [])))
noncomputable def u_go1 (y m m19 : Nat) (ny nxt : e_Y) (ls : e_A) (as r : List e_V) (g : e_G) (F : e_F) (w : e_W) (c : e_Q) (K : e_K) : Bool := Prod.rec (motive := fun _ => Bool) (fun _ F1 => Prod.rec (motive := fun _ => Bool) (fun fr F2 => Prod.rec (motive := fun _ => Bool) (fun lo bx => Bool.rec (motive := fun _ => Bool) false (u_go2 y m m19 ny nxt ls as r g F w c K fr lo bx) (Nat.ble 1 fr && Nat.ble m19 lo && Nat.ble (f_stw r) 8)) F2) F1) F
noncomputable def u_go (y m m19 : Nat) (ny nxt : e_Y) (X : e_P) (ls : e_A) (as r : List e_V) : Bool := Prod.rec (motive := fun _ => Bool) (fun g X => Prod.rec (motive := fun _ => Bool) (fun F X => Prod.rec (motive := fun _ => Bool) (fun w X => Prod.rec (motive := fun _ => Bool) (fun c K => u_go1 y m m19 ny nxt ls as r g F w c K) X) X) X) X
theorem u_go_eq {y m nx : Nat} {as r : List e_V} {ny nxt : e_Y} {g : e_G} {F : e_F} {ls : e_A} {w : e_W} {c : e_Q} {K : e_K} (hne : Nat.beq nx 0 = false) : u_go y m (m + 19) ny nxt (g, F, w, c, K) ls as r = e_go y m as nx r (e_kc (e_un ny) (e_un nxt) g) F ls w c K (fun _ _ _ => false) := by
  obtain ⟨M, fr, lo, bx⟩ := F
  unfold u_go u_go1 u_go2 e_go e_kc
  dsimp only
  rw [hne, f_stw_eq]
  simp only [f_fo_eq, f_loc_eq, Nat.beq_refl, cond_true, cond_false]
  show Bool.rec (motive := fun _ => Bool) false _ (Nat.blt 0 fr && Nat.ble (m + 19) lo && Nat.ble (e_stw r) 8) = _
  generalize (Nat.blt 0 fr && Nat.ble (m + 19) lo && Nat.ble (e_stw r) 8) = G
  cases G
  · rfl
  · dsimp only [cond_true]
    show e_fo (fr - 1) _ = _
    congr 1
    funext fr2
    show e_fo (lo - (m + 19)) _ = _
    congr 1
    funext lo2
    congr 1
    funext la
    unfold e_un
    congr 1
    refine Prod.ext rfl (Prod.ext rfl (Prod.ext rfl (Prod.ext rfl ?_)))
    funext z w2 c2
    rcases z with (_ | v) | E <;> rfl
theorem e_thrc {y nx : Nat} {f o ny nxt : e_O} (hne : Nat.beq nx 0 = false) (ho : e_Sn M pc o) (hy : e_Sn y 0 ny) (hn : e_Sn M nx nxt) (hc : ∀ (g1 g2 : e_G) (F : e_F) (ls : e_A) (st : List e_V) (w : e_W) (c : e_Q) (K : e_K), (∀ G : Nat × Nat × List (Nat × e_V), g1 (y, G) 0 = g2 (y, G) 0) → g1 F nx = g2 F nx → o g1 F ls st w c K = o g2 F ls st w c K) (hf : ∀ (g : e_G) (F : e_F) (ls : e_A) (st : List e_V) (w : e_W) (c : e_Q) (K : e_K), f g F ls st w c K = o (e_kc ny nxt g) F ls st w c K) : e_Sn M pc f := by
  intro g hg F al st w c K hM h
  rw [hf] at h
  refine ho _ (e_th2_gd hy hn hg) F al st w c K hM ((hc (e_th2 y 0 M nx ny nxt g) (e_kc ny nxt g) F al st w c K (fun G => ?_) ?_).trans h)
  · funext ls st w c K
    unfold e_th2 e_kc
    dsimp only
    rw [Nat.beq_refl, Nat.beq_refl]
    rfl
  · funext ls st w c K
    unfold e_th2 e_kc
    rw [hM, hne, Nat.beq_refl, Nat.beq_refl, Bool.and_false]
    rfl
theorem e_congr_go {y m nx : Nat} {as r : List e_V} (g1 g2 : e_G) (F : e_F) (ls : e_A) (w : e_W) (c : e_Q) (K : e_K) (X : Nat → e_W → e_Q → Bool) (h1 : ∀ G : Nat × Nat × List (Nat × e_V), g1 (y, G) 0 = g2 (y, G) 0) (h2 : g1 F nx = g2 F nx) : e_go y m as nx r g1 F ls w c K X = e_go y m as nx r g2 F ls w c K X := by
  obtain ⟨M, fr, lo, bx⟩ := F
  unfold e_go
  simp only [h1, h2]
theorem e_congr_callS {y m n nx : Nat} (g1 g2 : e_G) (F : e_F) (ls : e_A) (st : List e_V) (w : e_W) (c : e_Q) (K : e_K) (h1 : ∀ G : Nat × Nat × List (Nat × e_V), g1 (y, G) 0 = g2 (y, G) 0) (h2 : g1 F nx = g2 F nx) : o_callS y m n nx g1 F ls st w c K = o_callS y m n nx g2 F ls st w c K := by
  unfold o_callS
  congr 1
  funext as r
  exact e_congr_go g1 g2 F ls w c K _ h1 h2
noncomputable def u_callS (y m m19 n : Nat) (ny nxt : e_Y) : e_Y := fun X ls st => f_args n [] st (fun as r => u_go y m m19 ny nxt X ls as r)
theorem u_callST {y m n nx : Nat} {ny nxt : e_Y} (hne : Nat.beq nx 0 = false) (ho : e_Sn M pc (o_callS y m n nx)) (hy : e_Sn y 0 (e_un ny)) (hn : e_Sn M nx (e_un nxt)) : e_Sn M pc (e_un (u_callS y m (m + 19) n ny nxt)) := e_thrc hne ho hy hn e_congr_callS (fun g F ls st w c K => by
  unfold e_un u_callS o_callS
  rw [f_args_eq]
  congr 1
  funext as r
  exact u_go_eq hne)
theorem e_congr_callV {ci y m n nx : Nat} (g1 g2 : e_G) (F : e_F) (ls : e_A) (st : List e_V) (w : e_W) (c : e_Q) (K : e_K) (h1 : ∀ G : Nat × Nat × List (Nat × e_V), g1 (y, G) 0 = g2 (y, G) 0) (h2 : g1 F nx = g2 F nx) : o_callV (e_s1 ci y m) n nx g1 F ls st w c K = o_callV (e_s1 ci y m) n nx g2 F ls st w c K := by
  unfold o_callV o_callX
  congr 1
  funext as r
  split
  · next q t =>
    split
    · next cj fs hc =>
      unfold e_s1
      cases Nat.beq cj ci
      · rfl
      · exact e_congr_go g1 g2 F ls w c K _ h1 h2
    · rfl
  · rfl
noncomputable def u_v3 (ci y m m19 : Nat) (ny nxt : e_Y) (X : e_P) (ls : e_A) (as r : List e_V) (x : e_C) : Bool := Sum.rec (motive := fun _ => Bool) (fun p => Prod.rec (motive := fun _ => Bool) (fun cj _ => Bool.rec (motive := fun _ => Bool) false (u_go y m m19 ny nxt X ls as r) (Nat.beq cj ci)) p) (fun _ => false) x
noncomputable def u_v2 (ci y m m19 : Nat) (ny nxt : e_Y) (X : e_P) (ls : e_A) (as r : List e_V) (q : Nat) : Bool := Bool.rec (motive := fun _ => Bool) (u_v3 ci y m m19 ny nxt X ls as r (e_tget 9 X.2.2.1 q)) (u_v3 ci y m m19 ny nxt X ls as r (f_tg X.2.2.1 q)) (Nat.ble q 511)
noncomputable def u_v1 (ci y m m19 : Nat) (ny nxt : e_Y) (X : e_P) (ls : e_A) (as r : List e_V) (v : e_V) : Bool := Sum.rec (motive := fun _ => Bool) (fun _ => false) (fun z => Sum.rec (motive := fun _ => Bool) (fun o => Option.rec (motive := fun _ => Bool) false (fun q => u_v2 ci y m m19 ny nxt X ls as r q) o) (fun _ => false) z) v
noncomputable def u_v0 (ci y m m19 : Nat) (ny nxt : e_Y) (X : e_P) (ls : e_A) (as r : List e_V) : Bool := List.rec (motive := fun _ => Bool) false (fun v _ _ => u_v1 ci y m m19 ny nxt X ls as r v) as
noncomputable def u_callV (ci y m m19 n : Nat) (ny nxt : e_Y) : e_Y := fun X ls st => f_args n [] st (fun as r => u_v0 ci y m m19 ny nxt X ls as r)
theorem u_callVT {ci y m n nx : Nat} {ny nxt : e_Y} (hne : Nat.beq nx 0 = false) (ho : e_Sn M pc (o_callV (e_s1 ci y m) n nx)) (hy : e_Sn y 0 (e_un ny)) (hn : e_Sn M nx (e_un nxt)) : e_Sn M pc (e_un (u_callV ci y m (m + 19) n ny nxt)) := e_thrc hne ho hy hn e_congr_callV (fun g F ls st w c K => by
  unfold e_un u_callV o_callV o_callX
  rw [f_args_eq]
  congr 1
  funext as r
  rcases as with _ | ⟨v, as⟩
  · rfl
  · rcases v with a | (_ | q) | v
    · rfl
    · rfl
    · have key : ∀ x : e_C, u_v3 ci y m (m + 19) ny nxt (g, F, w, c, K) ls (.inr (.inl (some q)) :: as) r x = (match x with
        | .inl (cj, _) => match e_s1 ci y m cj with
          | some (y, m) => e_go y m (.inr (.inl (some q)) :: as) nx r (e_kc (e_un ny) (e_un nxt) g) F ls w c K (fun _ _ _ => false)
          | none => false
        | _ => false) := by
        intro x
        unfold u_v3
        rw [u_go_eq hne]
        rcases x with ⟨cj, fs⟩ | x
        · unfold e_s1
          dsimp only
          cases Nat.beq cj ci <;> rfl
        · rfl
      show u_v2 ci y m (m + 19) ny nxt (g, F, w, c, K) ls (.inr (.inl (some q)) :: as) r q = _
      unfold u_v2
      cases hq : Nat.ble q 511 with
      | false => exact key _
      | true =>
        dsimp only
        rw [f_tg_eq hq]
        exact key _
    · rfl)
theorem e_eqS {f o : e_O} (ho : e_Sn M pc o) (hf : ∀ (g : e_G) (F : e_F) (ls : e_A) (st : List e_V) (w : e_W) (c : e_Q) (K : e_K), f g F ls st w c K = o g F ls st w c K) : e_Sn M pc f := by
  intro g hg F al st w c K hM h
  rw [hf] at h
  exact ho g hg F al st w c K hM h
noncomputable def u_r1 (X : e_P) (v : e_V) : Bool := Prod.rec (motive := fun _ => Bool) (fun _ X1 => Prod.rec (motive := fun _ => Bool) (fun _ X1 => Prod.rec (motive := fun _ => Bool) (fun w X1 => Prod.rec (motive := fun _ => Bool) (fun c K => K (.inl (some v)) w c) X1) X1) X1) X
noncomputable def u_retI : e_Y := fun X ls st => List.rec (motive := fun _ => Bool) false (fun v r _ => List.rec (motive := fun _ => Bool) (Bool.rec (motive := fun _ => Bool) false (u_r1 X v) (f_okI v)) (fun _ _ _ => false) r) st
theorem u_retIT (ho : e_Sn M pc (o_ret e_okI)) : e_Sn M pc (e_un u_retI) := e_eqS ho (fun g F ls st w c K => by
  rcases st with _ | ⟨v, _ | ⟨u, r⟩⟩
  · rfl
  · unfold e_un u_retI o_ret
    dsimp only
    rw [f_okI_eq]
    cases e_okI v <;> rfl
  · rfl)
noncomputable def u_retA : e_Y := fun X ls st => List.rec (motive := fun _ => Bool) false (fun v r _ => List.rec (motive := fun _ => Bool) (Bool.rec (motive := fun _ => Bool) false (u_r1 X v) (f_okA v)) (fun _ _ _ => false) r) st
theorem u_retAT (ho : e_Sn M pc (o_ret e_okR)) : e_Sn M pc (e_un u_retA) := e_eqS ho (fun g F ls st w c K => by
  rcases st with _ | ⟨v, _ | ⟨u, r⟩⟩
  · rfl
  · unfold e_un u_retA o_ret
    dsimp only
    rw [f_okA_eq]
    cases e_okR v <;> rfl
  · rfl)
theorem e_cg_idiv  {nx : Nat} (g1 g2 : e_G) (F : e_F) (ls : e_A) (st : List e_V) (w : e_W) (c : e_Q) (K : e_K) (h : g1 F nx = g2 F nx) : o_idiv  nx g1 F ls st w c K = o_idiv  nx g2 F ls st w c K := by unfold o_idiv; simp only [h]
theorem e_cg_irem  {nx : Nat} (g1 g2 : e_G) (F : e_F) (ls : e_A) (st : List e_V) (w : e_W) (c : e_Q) (K : e_K) (h : g1 F nx = g2 F nx) : o_irem  nx g1 F ls st w c K = o_irem  nx g2 F ls st w c K := by unfold o_irem; simp only [h]
theorem e_cg_ishr  {nx : Nat} (g1 g2 : e_G) (F : e_F) (ls : e_A) (st : List e_V) (w : e_W) (c : e_Q) (K : e_K) (h : g1 F nx = g2 F nx) : o_ishr  nx g1 F ls st w c K = o_ishr  nx g2 F ls st w c K := by unfold o_ishr; simp only [h]
theorem e_cg_ineg  {nx : Nat} (g1 g2 : e_G) (F : e_F) (ls : e_A) (st : List e_V) (w : e_W) (c : e_Q) (K : e_K) (h : g1 F nx = g2 F nx) : o_ineg  nx g1 F ls st w c K = o_ineg  nx g2 F ls st w c K := by unfold o_ineg; simp only [h]
theorem e_cg_l2i  {nx : Nat} (g1 g2 : e_G) (F : e_F) (ls : e_A) (st : List e_V) (w : e_W) (c : e_Q) (K : e_K) (h : g1 F nx = g2 F nx) : o_l2i  nx g1 F ls st w c K = o_l2i  nx g2 F ls st w c K := by unfold o_l2i; simp only [h]
theorem e_cg_ladd  {nx : Nat} (g1 g2 : e_G) (F : e_F) (ls : e_A) (st : List e_V) (w : e_W) (c : e_Q) (K : e_K) (h : g1 F nx = g2 F nx) : o_ladd  nx g1 F ls st w c K = o_ladd  nx g2 F ls st w c K := by unfold o_ladd; simp only [h]
theorem e_cg_lsub  {nx : Nat} (g1 g2 : e_G) (F : e_F) (ls : e_A) (st : List e_V) (w : e_W) (c : e_Q) (K : e_K) (h : g1 F nx = g2 F nx) : o_lsub  nx g1 F ls st w c K = o_lsub  nx g2 F ls st w c K := by unfold o_lsub; simp only [h]
theorem e_cg_lmul  {nx : Nat} (g1 g2 : e_G) (F : e_F) (ls : e_A) (st : List e_V) (w : e_W) (c : e_Q) (K : e_K) (h : g1 F nx = g2 F nx) : o_lmul  nx g1 F ls st w c K = o_lmul  nx g2 F ls st w c K := by unfold o_lmul; simp only [h]
theorem e_cg_ldiv  {nx : Nat} (g1 g2 : e_G) (F : e_F) (ls : e_A) (st : List e_V) (w : e_W) (c : e_Q) (K : e_K) (h : g1 F nx = g2 F nx) : o_ldiv  nx g1 F ls st w c K = o_ldiv  nx g2 F ls st w c K := by unfold o_ldiv; simp only [h]
theorem e_cg_lcmp  {nx : Nat} (g1 g2 : e_G) (F : e_F) (ls : e_A) (st : List e_V) (w : e_W) (c : e_Q) (K : e_K) (h : g1 F nx = g2 F nx) : o_lcmp  nx g1 F ls st w c K = o_lcmp  nx g2 F ls st w c K := by unfold o_lcmp; simp only [h]
theorem e_cg_dup  {nx : Nat} (g1 g2 : e_G) (F : e_F) (ls : e_A) (st : List e_V) (w : e_W) (c : e_Q) (K : e_K) (h : g1 F nx = g2 F nx) : o_dup  nx g1 F ls st w c K = o_dup  nx g2 F ls st w c K := by unfold o_dup; simp only [h]
theorem e_cg_dup2  {nx : Nat} (g1 g2 : e_G) (F : e_F) (ls : e_A) (st : List e_V) (w : e_W) (c : e_Q) (K : e_K) (h : g1 F nx = g2 F nx) : o_dup2  nx g1 F ls st w c K = o_dup2  nx g2 F ls st w c K := by unfold o_dup2; simp only [h]
theorem e_cg_dup_x1  {nx : Nat} (g1 g2 : e_G) (F : e_F) (ls : e_A) (st : List e_V) (w : e_W) (c : e_Q) (K : e_K) (h : g1 F nx = g2 F nx) : o_dup_x1  nx g1 F ls st w c K = o_dup_x1  nx g2 F ls st w c K := by unfold o_dup_x1; simp only [h]
theorem e_cg_storeL (n : Nat) {nx : Nat} (g1 g2 : e_G) (F : e_F) (ls : e_A) (st : List e_V) (w : e_W) (c : e_Q) (K : e_K) (h : g1 F nx = g2 F nx) : o_storeL n nx g1 F ls st w c K = o_storeL n nx g2 F ls st w c K := by unfold o_storeL; simp only [h]
theorem e_cg_alen (fc : List (List (Nat × e_V))) {nx : Nat} (g1 g2 : e_G) (F : e_F) (ls : e_A) (st : List e_V) (w : e_W) (c : e_Q) (K : e_K) (h : g1 F nx = g2 F nx) : o_alen fc nx g1 F ls st w c K = o_alen fc nx g2 F ls st w c K := by unfold o_alen; simp only [h]
theorem e_cg_ast (tc : Nat) (ok : e_V → Bool) {nx : Nat} (g1 g2 : e_G) (F : e_F) (ls : e_A) (st : List e_V) (w : e_W) (c : e_Q) (K : e_K) (h : g1 F nx = g2 F nx) : o_ast tc ok nx g1 F ls st w c K = o_ast tc ok nx g2 F ls st w c K := by unfold o_ast; simp only [h]
theorem e_cg_astR (tc : Nat) (okc : Nat → Bool) {nx : Nat} (g1 g2 : e_G) (F : e_F) (ls : e_A) (st : List e_V) (w : e_W) (c : e_Q) (K : e_K) (h : g1 F nx = g2 F nx) : o_astR tc okc nx g1 F ls st w c K = o_astR tc okc nx g2 F ls st w c K := by unfold o_astR; simp only [h]
theorem e_cg_putf (fi : Nat → Option Nat) (ok : e_V → Bool) {nx : Nat} (g1 g2 : e_G) (F : e_F) (ls : e_A) (st : List e_V) (w : e_W) (c : e_Q) (K : e_K) (h : g1 F nx = g2 F nx) : o_putf fi ok nx g1 F ls st w c K = o_putf fi ok nx g2 F ls st w c K := by unfold o_putf; simp only [h]
theorem e_cg_cast (k : Nat) {nx : Nat} (g1 g2 : e_G) (F : e_F) (ls : e_A) (st : List e_V) (w : e_W) (c : e_Q) (K : e_K) (h : g1 F nx = g2 F nx) : o_cast k nx g1 F ls st w c K = o_cast k nx g2 F ls st w c K := by unfold o_cast; simp only [h]
end FS
end
