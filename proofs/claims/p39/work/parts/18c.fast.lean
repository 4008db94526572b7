/-! QUICKER TWINS of the operations: by recursors, the operation that follows by name -/
/-- every place goes on with nxt -/
noncomputable def e_k (nxt : e_O) (g : e_G) : e_G := fun F _ => nxt g F
noncomputable def e_k2 (tg : Nat) (nt nn : e_O) (g : e_G) : e_G := fun F pc => bif Nat.beq pc tg then nt g F else nn g F
section FS
variable {M pc : Nat} {cc : ByteArray}
noncomputable def e_th (M nx : Nat) (nxt : e_O) (g : e_G) : e_G := fun F pc ls st w c K => bif Nat.beq F.1 M && Nat.beq pc nx then nxt g F ls st w c K else g F pc ls st w c K
theorem e_th_gd {nx : Nat} {nxt : e_O} {g : e_G} (hn : e_Sn M nx nxt) (hg : e_Gd g) : e_Gd (e_th M nx nxt g) := by
  intro F pc al st w c K h
  unfold e_th at h
  cases hb : (Nat.beq F.1 M && Nat.beq pc nx) with
  | false => rw [hb, cond_false] at h; exact hg F pc al st w c K h
  | true =>
    rw [hb, cond_true] at h
    obtain ⟨h1, h2⟩ := (Bool.and_eq_true _ _).mp hb
    have h3 := Nat.eq_of_beq_eq_true h1
    obtain rfl := Nat.eq_of_beq_eq_true h2
    exact hn g hg F al st w c K h3 h
theorem e_th_at {nx : Nat} {nxt : e_O} {g : e_G} {F : e_F} (hM : F.1 = M) : e_th M nx nxt g F nx = nxt g F := by
  funext ls st w c K
  unfold e_th
  rw [hM, Nat.beq_refl, Nat.beq_refl]
  rfl
theorem e_thr {nx : Nat} {f o nxt : e_O} (ho : e_Sn M pc o) (hn : e_Sn M nx nxt) (hc : ∀ (g1 g2 : e_G) (F : e_F) (ls : e_A) (st : List e_V) (w : e_W) (c : e_Q) (K : e_K), g1 F nx = g2 F nx → o g1 F ls st w c K = o g2 F ls st w c K) (hf : ∀ (g : e_G) (F : e_F) (ls : e_A) (st : List e_V) (w : e_W) (c : e_Q) (K : e_K), f g F ls st w c K = o (e_k nxt g) F ls st w c K) : e_Sn M pc f := by
  intro g hg F al st w c K hM h
  rw [hf] at h
  exact ho _ (e_th_gd hn hg) F al st w c K hM ((hc (e_th M nx nxt g) (e_k nxt g) F al st w c K (e_th_at hM)).trans h)
noncomputable def e_th2 (M1 p1 M2 p2 : Nat) (n1 n2 : e_O) (g : e_G) : e_G := fun F pc ls st w c K => bif Nat.beq F.1 M1 && Nat.beq pc p1 then n1 g F ls st w c K else bif Nat.beq F.1 M2 && Nat.beq pc p2 then n2 g F ls st w c K else g F pc ls st w c K
theorem e_th2_gd {M1 p1 M2 p2 : Nat} {n1 n2 : e_O} {g : e_G} (h1 : e_Sn M1 p1 n1) (h2 : e_Sn M2 p2 n2) (hg : e_Gd g) : e_Gd (e_th2 M1 p1 M2 p2 n1 n2 g) := by
  intro F pc al st w c K h
  unfold e_th2 at h
  cases hb : (Nat.beq F.1 M1 && Nat.beq pc p1) with
  | true =>
    rw [hb, cond_true] at h
    obtain ⟨g1, g2⟩ := (Bool.and_eq_true _ _).mp hb
    have h3 := Nat.eq_of_beq_eq_true g1
    obtain rfl := Nat.eq_of_beq_eq_true g2
    exact h1 g hg F al st w c K h3 h
  | false =>
    rw [hb, cond_false] at h
    cases hb : (Nat.beq F.1 M2 && Nat.beq pc p2) with
    | false => rw [hb, cond_false] at h; exact hg F pc al st w c K h
    | true =>
      rw [hb, cond_true] at h
      obtain ⟨g1, g2⟩ := (Bool.and_eq_true _ _).mp hb
      have h3 := Nat.eq_of_beq_eq_true g1
      obtain rfl := Nat.eq_of_beq_eq_true g2
      exact h2 g hg F al st w c K h3 h
theorem e_thr2 {tg nx : Nat} {f o nt nn : e_O} (hne : Nat.beq nx tg = false) (ho : e_Sn M pc o) (ht : e_Sn M tg nt) (hn : e_Sn M nx nn) (hc : ∀ (g1 g2 : e_G) (F : e_F) (ls : e_A) (st : List e_V) (w : e_W) (c : e_Q) (K : e_K), g1 F tg = g2 F tg → g1 F nx = g2 F nx → o g1 F ls st w c K = o g2 F ls st w c K) (hf : ∀ (g : e_G) (F : e_F) (ls : e_A) (st : List e_V) (w : e_W) (c : e_Q) (K : e_K), f g F ls st w c K = o (e_k2 tg nt nn g) F ls st w c K) : e_Sn M pc f := by
  intro g hg F al st w c K hM h
  rw [hf] at h
  refine ho _ (e_th2_gd ht hn hg) F al st w c K hM ((hc (e_th2 M tg M nx nt nn g) (e_k2 tg nt nn g) F al st w c K ?_ ?_).trans h)
  · funext ls st w c K
    unfold e_th2 e_k2
    rw [hM, Nat.beq_refl, Nat.beq_refl]
    rfl
  · funext ls st w c K
    unfold e_th2 e_k2
    rw [hM, hne, Nat.beq_refl, Nat.beq_refl]
    rfl
abbrev e_P : Type := e_G × e_F × e_W × e_Q × e_K
abbrev e_Y : Type := e_P → e_A → List e_V → Bool
noncomputable def e_un (u : e_Y) : e_O := fun g F ls st w c K => u (g, F, w, c, K) ls st
/-- goes on by the tables -/
noncomputable def u_at (nx : Nat) : e_Y := fun X ls st => Prod.rec (motive := fun _ => Bool) (fun g X => Prod.rec (motive := fun _ => Bool) (fun F X => Prod.rec (motive := fun _ => Bool) (fun w X => Prod.rec (motive := fun _ => Bool) (fun c K => g F nx ls st w c K) X) X) X) X
theorem u_atT {nx : Nat} : e_Sn M nx (e_un (u_at nx)) := fun g hg F al st w c K _ h => hg F nx al st w c K h
/-- an old one, by the tables; with its follower; with two -/
noncomputable def u_tab (o : e_O) : e_Y := fun X ls st => o X.1 X.2.1 ls st X.2.2.1 X.2.2.2.1 X.2.2.2.2
theorem u_tabT {o : e_O} (ho : e_Sn M pc o) : e_Sn M pc (e_un (u_tab o)) := ho
noncomputable def u_old (o : e_O) (nxt : e_Y) : e_Y := fun X ls st => o (e_k (e_un nxt) X.1) X.2.1 ls st X.2.2.1 X.2.2.2.1 X.2.2.2.2
noncomputable def u_old2 (o : e_O) (tg : Nat) (nt nn : e_Y) : e_Y := fun X ls st => o (e_k2 tg (e_un nt) (e_un nn) X.1) X.2.1 ls st X.2.2.1 X.2.2.2.1 X.2.2.2.2
theorem u_oldT {nx : Nat} {o : e_O} {nxt : e_Y} (ho : e_Sn M pc o) (hn : e_Sn M nx (e_un nxt)) (hc : ∀ (g1 g2 : e_G) (F : e_F) (ls : e_A) (st : List e_V) (w : e_W) (c : e_Q) (K : e_K), g1 F nx = g2 F nx → o g1 F ls st w c K = o g2 F ls st w c K) : e_Sn M pc (e_un (u_old o nxt)) := e_thr ho hn hc (fun _ _ _ _ _ _ _ => rfl)
noncomputable def u_push (v : e_V) (nxt : e_Y) : e_Y := fun X ls st => nxt X ls (v :: st)
theorem u_pushT {v : e_V} {nx : Nat} {nxt : e_Y} (ho : e_Sn M pc (o_push v nx)) (hn : e_Sn M nx (e_un nxt)) : e_Sn M pc (e_un (u_push v nxt)) := e_thr ho hn (fun g1 g2 F ls st w c K h => by unfold o_push; rw [h]) (fun g F ls st w c K => rfl)
theorem u_gotoT {nx : Nat} {nxt : e_Y} (ho : e_Sn M pc (o_goto nx)) (hn : e_Sn M nx (e_un nxt)) : e_Sn M pc (e_un nxt) := e_thr ho hn (fun g1 g2 F ls st w c K h => by unfold o_goto; rw [h]) (fun g F ls st w c K => rfl)
theorem e_congr_load {ok : e_V → Bool} {n nx : Nat} (g1 g2 : e_G) (F : e_F) (ls : e_A) (st : List e_V) (w : e_W) (c : e_Q) (K : e_K) (h : g1 F nx = g2 F nx) : o_load ok n nx g1 F ls st w c K = o_load ok n nx g2 F ls st w c K := by unfold o_load; rw [h]
theorem e_congr_store {ok : e_V → Bool} {n nx : Nat} (g1 g2 : e_G) (F : e_F) (ls : e_A) (st : List e_V) (w : e_W) (c : e_Q) (K : e_K) (h : g1 F nx = g2 F nx) : o_store ok n nx g1 F ls st w c K = o_store ok n nx g2 F ls st w c K := by unfold o_store; rw [h]
theorem e_congr_iinc {n d nx : Nat} (g1 g2 : e_G) (F : e_F) (ls : e_A) (st : List e_V) (w : e_W) (c : e_Q) (K : e_K) (h : g1 F nx = g2 F nx) : o_iinc n d nx g1 F ls st w c K = o_iinc n d nx g2 F ls st w c K := by unfold o_iinc; rw [h]
noncomputable def f_fo (n : Nat) (k : Nat → Bool) : Bool := Nat.rec (motive := fun _ => Bool) (k 0) (fun m _ => k (Nat.succ m)) n
theorem f_fo_eq {n : Nat} {k : Nat → Bool} : f_fo n k = e_fo n k := by cases n <;> rfl
theorem e_fo_eq {n : Nat} {k : Nat → Bool} : e_fo n k = k n := by cases n <;> rfl
/-- a word, or two -/
noncomputable def f_w1 (v : e_V) (k1 k2 : Bool) : Bool := Sum.rec (motive := fun _ => Bool) (fun _ => k1) (fun v1 => Sum.rec (motive := fun _ => Bool) (fun _ => k1) (fun v2 => Sum.rec (motive := fun _ => Bool) (fun _ => k2) (fun v3 => Sum.rec (motive := fun _ => Bool) (fun _ => k1) (fun v4 => Sum.rec (motive := fun _ => Bool) (fun _ => k2) (fun _ => k1) v4) v3) v2) v1) v
theorem f_w1_eq {v : e_V} {k1 k2 : Bool} : f_w1 v k1 k2 = bif e_is1 v then k1 else k2 := by
  rcases v with m | r | m | q | q | q <;> rfl
/-- a word kept, half of a long dropped -/
noncomputable def f_c1 (a : Option e_V) (k : Option e_V → Bool) : Bool := Option.rec (motive := fun _ => Bool) (k none) (fun v => f_w1 v (k (some v)) (k none)) a
theorem f_c1_eq {a : Option e_V} {k : Option e_V → Bool} : f_c1 a k = k (e_c1 a) := by
  rcases a with _ | (m | r | m | q | q | q) <;> rfl
/-- the local n: f_l0 .. -/
theorem f_nv_load {β : Type} {f : Option e_V} {l : e_A} {n : Nat} (hf : some f = e_nth l n ∨ f = none ∧ e_nth l n = none) (d : β) (k : e_V → β) : (match f with
  | some v => k v
  | none => d) = (match e_nth l n with
  | some (some v) => k v
  | _ => d) := by
  rcases hf with h | ⟨h1, h2⟩
  · rw [← h]
    cases f <;> rfl
  · rw [h1, h2]
noncomputable def f_l0 (l : e_A) : Option e_V := List.rec (motive := fun _ => Option e_V) none (fun a t0 _ => a) l
theorem f_l0_eq (l : e_A) : some (f_l0 l) = e_nth l 0 ∨ f_l0 l = none ∧ e_nth l 0 = none := by
  rcases l with _ | ⟨a0, l⟩ <;> first | exact Or.inl rfl | exact Or.inr ⟨rfl, rfl⟩
noncomputable def f_l1 (l : e_A) : Option e_V := List.rec (motive := fun _ => Option e_V) none (fun _ t0 _ => List.rec (motive := fun _ => Option e_V) none (fun a t1 _ => a) t0) l
theorem f_l1_eq (l : e_A) : some (f_l1 l) = e_nth l 1 ∨ f_l1 l = none ∧ e_nth l 1 = none := by
  rcases l with _ | ⟨a0, (_ | ⟨a1, l⟩)⟩ <;> first | exact Or.inl rfl | exact Or.inr ⟨rfl, rfl⟩
noncomputable def f_l2 (l : e_A) : Option e_V := List.rec (motive := fun _ => Option e_V) none (fun _ t0 _ => List.rec (motive := fun _ => Option e_V) none (fun _ t1 _ => List.rec (motive := fun _ => Option e_V) none (fun a t2 _ => a) t1) t0) l
theorem f_l2_eq (l : e_A) : some (f_l2 l) = e_nth l 2 ∨ f_l2 l = none ∧ e_nth l 2 = none := by
  rcases l with _ | ⟨a0, (_ | ⟨a1, (_ | ⟨a2, l⟩)⟩)⟩ <;> first | exact Or.inl rfl | exact Or.inr ⟨rfl, rfl⟩
noncomputable def f_l3 (l : e_A) : Option e_V := List.rec (motive := fun _ => Option e_V) none (fun _ t0 _ => List.rec (motive := fun _ => Option e_V) none (fun _ t1 _ => List.rec (motive := fun _ => Option e_V) none (fun _ t2 _ => List.rec (motive := fun _ => Option e_V) none (fun a t3 _ => a) t2) t1) t0) l
theorem f_l3_eq (l : e_A) : some (f_l3 l) = e_nth l 3 ∨ f_l3 l = none ∧ e_nth l 3 = none := by
  rcases l with _ | ⟨a0, (_ | ⟨a1, (_ | ⟨a2, (_ | ⟨a3, l⟩)⟩)⟩)⟩ <;> first | exact Or.inl rfl | exact Or.inr ⟨rfl, rfl⟩
noncomputable def f_l4 (l : e_A) : Option e_V := List.rec (motive := fun _ => Option e_V) none (fun _ t0 _ => List.rec (motive := fun _ => Option e_V) none (fun _ t1 _ => List.rec (motive := fun _ => Option e_V) none (fun _ t2 _ => List.rec (motive := fun _ => Option e_V) none (fun _ t3 _ => List.rec (motive := fun _ => Option e_V) none (fun a t4 _ => a) t3) t2) t1) t0) l
theorem f_l4_eq (l : e_A) : some (f_l4 l) = e_nth l 4 ∨ f_l4 l = none ∧ e_nth l 4 = none := by
  rcases l with _ | ⟨a0, (_ | ⟨a1, (_ | ⟨a2, (_ | ⟨a3, (_ | ⟨a4, l⟩)⟩)⟩)⟩)⟩ <;> first | exact Or.inl rfl | exact Or.inr ⟨rfl, rfl⟩
noncomputable def f_l5 (l : e_A) : Option e_V := List.rec (motive := fun _ => Option e_V) none (fun _ t0 _ => List.rec (motive := fun _ => Option e_V) none (fun _ t1 _ => List.rec (motive := fun _ => Option e_V) none (fun _ t2 _ => List.rec (motive := fun _ => Option e_V) none (fun _ t3 _ => List.rec (motive := fun _ => Option e_V) none (fun _ t4 _ => List.rec (motive := fun _ => Option e_V) none (fun a t5 _ => a) t4) t3) t2) t1) t0) l
theorem f_l5_eq (l : e_A) : some (f_l5 l) = e_nth l 5 ∨ f_l5 l = none ∧ e_nth l 5 = none := by
  rcases l with _ | ⟨a0, (_ | ⟨a1, (_ | ⟨a2, (_ | ⟨a3, (_ | ⟨a4, (_ | ⟨a5, l⟩)⟩)⟩)⟩)⟩)⟩ <;> first | exact Or.inl rfl | exact Or.inr ⟨rfl, rfl⟩
noncomputable def f_l6 (l : e_A) : Option e_V := List.rec (motive := fun _ => Option e_V) none (fun _ t0 _ => List.rec (motive := fun _ => Option e_V) none (fun _ t1 _ => List.rec (motive := fun _ => Option e_V) none (fun _ t2 _ => List.rec (motive := fun _ => Option e_V) none (fun _ t3 _ => List.rec (motive := fun _ => Option e_V) none (fun _ t4 _ => List.rec (motive := fun _ => Option e_V) none (fun _ t5 _ => List.rec (motive := fun _ => Option e_V) none (fun a t6 _ => a) t5) t4) t3) t2) t1) t0) l
theorem f_l6_eq (l : e_A) : some (f_l6 l) = e_nth l 6 ∨ f_l6 l = none ∧ e_nth l 6 = none := by
  rcases l with _ | ⟨a0, (_ | ⟨a1, (_ | ⟨a2, (_ | ⟨a3, (_ | ⟨a4, (_ | ⟨a5, (_ | ⟨a6, l⟩)⟩)⟩)⟩)⟩)⟩)⟩ <;> first | exact Or.inl rfl | exact Or.inr ⟨rfl, rfl⟩
noncomputable def f_l7 (l : e_A) : Option e_V := List.rec (motive := fun _ => Option e_V) none (fun _ t0 _ => List.rec (motive := fun _ => Option e_V) none (fun _ t1 _ => List.rec (motive := fun _ => Option e_V) none (fun _ t2 _ => List.rec (motive := fun _ => Option e_V) none (fun _ t3 _ => List.rec (motive := fun _ => Option e_V) none (fun _ t4 _ => List.rec (motive := fun _ => Option e_V) none (fun _ t5 _ => List.rec (motive := fun _ => Option e_V) none (fun _ t6 _ => List.rec (motive := fun _ => Option e_V) none (fun a t7 _ => a) t6) t5) t4) t3) t2) t1) t0) l
theorem f_l7_eq (l : e_A) : some (f_l7 l) = e_nth l 7 ∨ f_l7 l = none ∧ e_nth l 7 = none := by
  rcases l with _ | ⟨a0, (_ | ⟨a1, (_ | ⟨a2, (_ | ⟨a3, (_ | ⟨a4, (_ | ⟨a5, (_ | ⟨a6, (_ | ⟨a7, l⟩)⟩)⟩)⟩)⟩)⟩)⟩)⟩ <;> first | exact Or.inl rfl | exact Or.inr ⟨rfl, rfl⟩
noncomputable def f_l8 (l : e_A) : Option e_V := List.rec (motive := fun _ => Option e_V) none (fun _ t0 _ => List.rec (motive := fun _ => Option e_V) none (fun _ t1 _ => List.rec (motive := fun _ => Option e_V) none (fun _ t2 _ => List.rec (motive := fun _ => Option e_V) none (fun _ t3 _ => List.rec (motive := fun _ => Option e_V) none (fun _ t4 _ => List.rec (motive := fun _ => Option e_V) none (fun _ t5 _ => List.rec (motive := fun _ => Option e_V) none (fun _ t6 _ => List.rec (motive := fun _ => Option e_V) none (fun _ t7 _ => List.rec (motive := fun _ => Option e_V) none (fun a t8 _ => a) t7) t6) t5) t4) t3) t2) t1) t0) l
theorem f_l8_eq (l : e_A) : some (f_l8 l) = e_nth l 8 ∨ f_l8 l = none ∧ e_nth l 8 = none := by
  rcases l with _ | ⟨a0, (_ | ⟨a1, (_ | ⟨a2, (_ | ⟨a3, (_ | ⟨a4, (_ | ⟨a5, (_ | ⟨a6, (_ | ⟨a7, (_ | ⟨a8, l⟩)⟩)⟩)⟩)⟩)⟩)⟩)⟩)⟩ <;> first | exact Or.inl rfl | exact Or.inr ⟨rfl, rfl⟩
noncomputable def f_l9 (l : e_A) : Option e_V := List.rec (motive := fun _ => Option e_V) none (fun _ t0 _ => List.rec (motive := fun _ => Option e_V) none (fun _ t1 _ => List.rec (motive := fun _ => Option e_V) none (fun _ t2 _ => List.rec (motive := fun _ => Option e_V) none (fun _ t3 _ => List.rec (motive := fun _ => Option e_V) none (fun _ t4 _ => List.rec (motive := fun _ => Option e_V) none (fun _ t5 _ => List.rec (motive := fun _ => Option e_V) none (fun _ t6 _ => List.rec (motive := fun _ => Option e_V) none (fun _ t7 _ => List.rec (motive := fun _ => Option e_V) none (fun _ t8 _ => List.rec (motive := fun _ => Option e_V) none (fun a t9 _ => a) t8) t7) t6) t5) t4) t3) t2) t1) t0) l
theorem f_l9_eq (l : e_A) : some (f_l9 l) = e_nth l 9 ∨ f_l9 l = none ∧ e_nth l 9 = none := by
  rcases l with _ | ⟨a0, (_ | ⟨a1, (_ | ⟨a2, (_ | ⟨a3, (_ | ⟨a4, (_ | ⟨a5, (_ | ⟨a6, (_ | ⟨a7, (_ | ⟨a8, (_ | ⟨a9, l⟩)⟩)⟩)⟩)⟩)⟩)⟩)⟩)⟩)⟩ <;> first | exact Or.inl rfl | exact Or.inr ⟨rfl, rfl⟩
noncomputable def f_l10 (l : e_A) : Option e_V := List.rec (motive := fun _ => Option e_V) none (fun _ t0 _ => List.rec (motive := fun _ => Option e_V) none (fun _ t1 _ => List.rec (motive := fun _ => Option e_V) none (fun _ t2 _ => List.rec (motive := fun _ => Option e_V) none (fun _ t3 _ => List.rec (motive := fun _ => Option e_V) none (fun _ t4 _ => List.rec (motive := fun _ => Option e_V) none (fun _ t5 _ => List.rec (motive := fun _ => Option e_V) none (fun _ t6 _ => List.rec (motive := fun _ => Option e_V) none (fun _ t7 _ => List.rec (motive := fun _ => Option e_V) none (fun _ t8 _ => List.rec (motive := fun _ => Option e_V) none (fun _ t9 _ => List.rec (motive := fun _ => Option e_V) none (fun a t10 _ => a) t9) t8) t7) t6) t5) t4) t3) t2) t1) t0) l
theorem f_l10_eq (l : e_A) : some (f_l10 l) = e_nth l 10 ∨ f_l10 l = none ∧ e_nth l 10 = none := by
  rcases l with _ | ⟨a0, (_ | ⟨a1, (_ | ⟨a2, (_ | ⟨a3, (_ | ⟨a4, (_ | ⟨a5, (_ | ⟨a6, (_ | ⟨a7, (_ | ⟨a8, (_ | ⟨a9, (_ | ⟨a10, l⟩)⟩)⟩)⟩)⟩)⟩)⟩)⟩)⟩)⟩)⟩ <;> first | exact Or.inl rfl | exact Or.inr ⟨rfl, rfl⟩
noncomputable def f_l11 (l : e_A) : Option e_V := List.rec (motive := fun _ => Option e_V) none (fun _ t0 _ => List.rec (motive := fun _ => Option e_V) none (fun _ t1 _ => List.rec (motive := fun _ => Option e_V) none (fun _ t2 _ => List.rec (motive := fun _ => Option e_V) none (fun _ t3 _ => List.rec (motive := fun _ => Option e_V) none (fun _ t4 _ => List.rec (motive := fun _ => Option e_V) none (fun _ t5 _ => List.rec (motive := fun _ => Option e_V) none (fun _ t6 _ => List.rec (motive := fun _ => Option e_V) none (fun _ t7 _ => List.rec (motive := fun _ => Option e_V) none (fun _ t8 _ => List.rec (motive := fun _ => Option e_V) none (fun _ t9 _ => List.rec (motive := fun _ => Option e_V) none (fun _ t10 _ => List.rec (motive := fun _ => Option e_V) none (fun a t11 _ => a) t10) t9) t8) t7) t6) t5) t4) t3) t2) t1) t0) l
theorem f_l11_eq (l : e_A) : some (f_l11 l) = e_nth l 11 ∨ f_l11 l = none ∧ e_nth l 11 = none := by
  rcases l with _ | ⟨a0, (_ | ⟨a1, (_ | ⟨a2, (_ | ⟨a3, (_ | ⟨a4, (_ | ⟨a5, (_ | ⟨a6, (_ | ⟨a7, (_ | ⟨a8, (_ | ⟨a9, (_ | ⟨a10, (_ | ⟨a11, l⟩)⟩)⟩)⟩)⟩)⟩)⟩)⟩)⟩)⟩)⟩)⟩ <;> first | exact Or.inl rfl | exact Or.inr ⟨rfl, rfl⟩
noncomputable def f_l12 (l : e_A) : Option e_V := List.rec (motive := fun _ => Option e_V) none (fun _ t0 _ => List.rec (motive := fun _ => Option e_V) none (fun _ t1 _ => List.rec (motive := fun _ => Option e_V) none (fun _ t2 _ => List.rec (motive := fun _ => Option e_V) none (fun _ t3 _ => List.rec (motive := fun _ => Option e_V) none (fun _ t4 _ => List.rec (motive := fun _ => Option e_V) none (fun _ t5 _ => List.rec (motive := fun _ => Option e_V) none (fun _ t6 _ => List.rec (motive := fun _ => Option e_V) none (fun _ t7 _ => List.rec (motive := fun _ => Option e_V) none (fun _ t8 _ => List.rec (motive := fun _ => Option e_V) none (fun _ t9 _ => List.rec (motive := fun _ => Option e_V) none (fun _ t10 _ => List.rec (motive := fun _ => Option e_V) none (fun _ t11 _ => List.rec (motive := fun _ => Option e_V) none (fun a t12 _ => a) t11) t10) t9) t8) t7) t6) t5) t4) t3) t2) t1) t0) l
theorem f_l12_eq (l : e_A) : some (f_l12 l) = e_nth l 12 ∨ f_l12 l = none ∧ e_nth l 12 = none := by
  rcases l with _ | ⟨a0, (_ | ⟨a1, (_ | ⟨a2, (_ | ⟨a3, (_ | ⟨a4, (_ | ⟨a5, (_ | ⟨a6, (_ | ⟨a7, (_ | ⟨a8, (_ | ⟨a9, (_ | ⟨a10, (_ | ⟨a11, (_ | ⟨a12, l⟩)⟩)⟩)⟩)⟩)⟩)⟩)⟩)⟩)⟩)⟩)⟩)⟩ <;> first | exact Or.inl rfl | exact Or.inr ⟨rfl, rfl⟩
noncomputable def f_l13 (l : e_A) : Option e_V := List.rec (motive := fun _ => Option e_V) none (fun _ t0 _ => List.rec (motive := fun _ => Option e_V) none (fun _ t1 _ => List.rec (motive := fun _ => Option e_V) none (fun _ t2 _ => List.rec (motive := fun _ => Option e_V) none (fun _ t3 _ => List.rec (motive := fun _ => Option e_V) none (fun _ t4 _ => List.rec (motive := fun _ => Option e_V) none (fun _ t5 _ => List.rec (motive := fun _ => Option e_V) none (fun _ t6 _ => List.rec (motive := fun _ => Option e_V) none (fun _ t7 _ => List.rec (motive := fun _ => Option e_V) none (fun _ t8 _ => List.rec (motive := fun _ => Option e_V) none (fun _ t9 _ => List.rec (motive := fun _ => Option e_V) none (fun _ t10 _ => List.rec (motive := fun _ => Option e_V) none (fun _ t11 _ => List.rec (motive := fun _ => Option e_V) none (fun _ t12 _ => List.rec (motive := fun _ => Option e_V) none (fun a t13 _ => a) t12) t11) t10) t9) t8) t7) t6) t5) t4) t3) t2) t1) t0) l
theorem f_l13_eq (l : e_A) : some (f_l13 l) = e_nth l 13 ∨ f_l13 l = none ∧ e_nth l 13 = none := by
  rcases l with _ | ⟨a0, (_ | ⟨a1, (_ | ⟨a2, (_ | ⟨a3, (_ | ⟨a4, (_ | ⟨a5, (_ | ⟨a6, (_ | ⟨a7, (_ | ⟨a8, (_ | ⟨a9, (_ | ⟨a10, (_ | ⟨a11, (_ | ⟨a12, (_ | ⟨a13, l⟩)⟩)⟩)⟩)⟩)⟩)⟩)⟩)⟩)⟩)⟩)⟩)⟩)⟩ <;> first | exact Or.inl rfl | exact Or.inr ⟨rfl, rfl⟩
noncomputable def f_l14 (l : e_A) : Option e_V := List.rec (motive := fun _ => Option e_V) none (fun _ t0 _ => List.rec (motive := fun _ => Option e_V) none (fun _ t1 _ => List.rec (motive := fun _ => Option e_V) none (fun _ t2 _ => List.rec (motive := fun _ => Option e_V) none (fun _ t3 _ => List.rec (motive := fun _ => Option e_V) none (fun _ t4 _ => List.rec (motive := fun _ => Option e_V) none (fun _ t5 _ => List.rec (motive := fun _ => Option e_V) none (fun _ t6 _ => List.rec (motive := fun _ => Option e_V) none (fun _ t7 _ => List.rec (motive := fun _ => Option e_V) none (fun _ t8 _ => List.rec (motive := fun _ => Option e_V) none (fun _ t9 _ => List.rec (motive := fun _ => Option e_V) none (fun _ t10 _ => List.rec (motive := fun _ => Option e_V) none (fun _ t11 _ => List.rec (motive := fun _ => Option e_V) none (fun _ t12 _ => List.rec (motive := fun _ => Option e_V) none (fun _ t13 _ => List.rec (motive := fun _ => Option e_V) none (fun a t14 _ => a) t13) t12) t11) t10) t9) t8) t7) t6) t5) t4) t3) t2) t1) t0) l
theorem f_l14_eq (l : e_A) : some (f_l14 l) = e_nth l 14 ∨ f_l14 l = none ∧ e_nth l 14 = none := by
  rcases l with _ | ⟨a0, (_ | ⟨a1, (_ | ⟨a2, (_ | ⟨a3, (_ | ⟨a4, (_ | ⟨a5, (_ | ⟨a6, (_ | ⟨a7, (_ | ⟨a8, (_ | ⟨a9, (_ | ⟨a10, (_ | ⟨a11, (_ | ⟨a12, (_ | ⟨a13, (_ | ⟨a14, l⟩)⟩)⟩)⟩)⟩)⟩)⟩)⟩)⟩)⟩)⟩)⟩)⟩)⟩)⟩ <;> first | exact Or.inl rfl | exact Or.inr ⟨rfl, rfl⟩
noncomputable def f_l15 (l : e_A) : Option e_V := List.rec (motive := fun _ => Option e_V) none (fun _ t0 _ => List.rec (motive := fun _ => Option e_V) none (fun _ t1 _ => List.rec (motive := fun _ => Option e_V) none (fun _ t2 _ => List.rec (motive := fun _ => Option e_V) none (fun _ t3 _ => List.rec (motive := fun _ => Option e_V) none (fun _ t4 _ => List.rec (motive := fun _ => Option e_V) none (fun _ t5 _ => List.rec (motive := fun _ => Option e_V) none (fun _ t6 _ => List.rec (motive := fun _ => Option e_V) none (fun _ t7 _ => List.rec (motive := fun _ => Option e_V) none (fun _ t8 _ => List.rec (motive := fun _ => Option e_V) none (fun _ t9 _ => List.rec (motive := fun _ => Option e_V) none (fun _ t10 _ => List.rec (motive := fun _ => Option e_V) none (fun _ t11 _ => List.rec (motive := fun _ => Option e_V) none (fun _ t12 _ => List.rec (motive := fun _ => Option e_V) none (fun _ t13 _ => List.rec (motive := fun _ => Option e_V) none (fun _ t14 _ => List.rec (motive := fun _ => Option e_V) none (fun a t15 _ => a) t14) t13) t12) t11) t10) t9) t8) t7) t6) t5) t4) t3) t2) t1) t0) l
theorem f_l15_eq (l : e_A) : some (f_l15 l) = e_nth l 15 ∨ f_l15 l = none ∧ e_nth l 15 = none := by
  rcases l with _ | ⟨a0, (_ | ⟨a1, (_ | ⟨a2, (_ | ⟨a3, (_ | ⟨a4, (_ | ⟨a5, (_ | ⟨a6, (_ | ⟨a7, (_ | ⟨a8, (_ | ⟨a9, (_ | ⟨a10, (_ | ⟨a11, (_ | ⟨a12, (_ | ⟨a13, (_ | ⟨a14, (_ | ⟨a15, l⟩)⟩)⟩)⟩)⟩)⟩)⟩)⟩)⟩)⟩)⟩)⟩)⟩)⟩)⟩)⟩ <;> first | exact Or.inl rfl | exact Or.inr ⟨rfl, rfl⟩
noncomputable def f_l16 (l : e_A) : Option e_V := List.rec (motive := fun _ => Option e_V) none (fun _ t0 _ => List.rec (motive := fun _ => Option e_V) none (fun _ t1 _ => List.rec (motive := fun _ => Option e_V) none (fun _ t2 _ => List.rec (motive := fun _ => Option e_V) none (fun _ t3 _ => List.rec (motive := fun _ => Option e_V) none (fun _ t4 _ => List.rec (motive := fun _ => Option e_V) none (fun _ t5 _ => List.rec (motive := fun _ => Option e_V) none (fun _ t6 _ => List.rec (motive := fun _ => Option e_V) none (fun _ t7 _ => List.rec (motive := fun _ => Option e_V) none (fun _ t8 _ => List.rec (motive := fun _ => Option e_V) none (fun _ t9 _ => List.rec (motive := fun _ => Option e_V) none (fun _ t10 _ => List.rec (motive := fun _ => Option e_V) none (fun _ t11 _ => List.rec (motive := fun _ => Option e_V) none (fun _ t12 _ => List.rec (motive := fun _ => Option e_V) none (fun _ t13 _ => List.rec (motive := fun _ => Option e_V) none (fun _ t14 _ => List.rec (motive := fun _ => Option e_V) none (fun _ t15 _ => List.rec (motive := fun _ => Option e_V) none (fun a t16 _ => a) t15) t14) t13) t12) t11) t10) t9) t8) t7) t6) t5) t4) t3) t2) t1) t0) l
theorem f_l16_eq (l : e_A) : some (f_l16 l) = e_nth l 16 ∨ f_l16 l = none ∧ e_nth l 16 = none := by
  rcases l with _ | ⟨a0, (_ | ⟨a1, (_ | ⟨a2, (_ | ⟨a3, (_ | ⟨a4, (_ | ⟨a5, (_ | ⟨a6, (_ | ⟨a7, (_ | ⟨a8, (_ | ⟨a9, (_ | ⟨a10, (_ | ⟨a11, (_ | ⟨a12, (_ | ⟨a13, (_ | ⟨a14, (_ | ⟨a15, (_ | ⟨a16, l⟩)⟩)⟩)⟩)⟩)⟩)⟩)⟩)⟩)⟩)⟩)⟩)⟩)⟩)⟩)⟩)⟩ <;> first | exact Or.inl rfl | exact Or.inr ⟨rfl, rfl⟩
noncomputable def f_l17 (l : e_A) : Option e_V := List.rec (motive := fun _ => Option e_V) none (fun _ t0 _ => List.rec (motive := fun _ => Option e_V) none (fun _ t1 _ => List.rec (motive := fun _ => Option e_V) none (fun _ t2 _ => List.rec (motive := fun _ => Option e_V) none (fun _ t3 _ => List.rec (motive := fun _ => Option e_V) none (fun _ t4 _ => List.rec (motive := fun _ => Option e_V) none (fun _ t5 _ => List.rec (motive := fun _ => Option e_V) none (fun _ t6 _ => List.rec (motive := fun _ => Option e_V) none (fun _ t7 _ => List.rec (motive := fun _ => Option e_V) none (fun _ t8 _ => List.rec (motive := fun _ => Option e_V) none (fun _ t9 _ => List.rec (motive := fun _ => Option e_V) none (fun _ t10 _ => List.rec (motive := fun _ => Option e_V) none (fun _ t11 _ => List.rec (motive := fun _ => Option e_V) none (fun _ t12 _ => List.rec (motive := fun _ => Option e_V) none (fun _ t13 _ => List.rec (motive := fun _ => Option e_V) none (fun _ t14 _ => List.rec (motive := fun _ => Option e_V) none (fun _ t15 _ => List.rec (motive := fun _ => Option e_V) none (fun _ t16 _ => List.rec (motive := fun _ => Option e_V) none (fun a t17 _ => a) t16) t15) t14) t13) t12) t11) t10) t9) t8) t7) t6) t5) t4) t3) t2) t1) t0) l
theorem f_l17_eq (l : e_A) : some (f_l17 l) = e_nth l 17 ∨ f_l17 l = none ∧ e_nth l 17 = none := by
  rcases l with _ | ⟨a0, (_ | ⟨a1, (_ | ⟨a2, (_ | ⟨a3, (_ | ⟨a4, (_ | ⟨a5, (_ | ⟨a6, (_ | ⟨a7, (_ | ⟨a8, (_ | ⟨a9, (_ | ⟨a10, (_ | ⟨a11, (_ | ⟨a12, (_ | ⟨a13, (_ | ⟨a14, (_ | ⟨a15, (_ | ⟨a16, (_ | ⟨a17, l⟩)⟩)⟩)⟩)⟩)⟩)⟩)⟩)⟩)⟩)⟩)⟩)⟩)⟩)⟩)⟩)⟩)⟩ <;> first | exact Or.inl rfl | exact Or.inr ⟨rfl, rfl⟩
noncomputable def f_l18 (l : e_A) : Option e_V := List.rec (motive := fun _ => Option e_V) none (fun _ t0 _ => List.rec (motive := fun _ => Option e_V) none (fun _ t1 _ => List.rec (motive := fun _ => Option e_V) none (fun _ t2 _ => List.rec (motive := fun _ => Option e_V) none (fun _ t3 _ => List.rec (motive := fun _ => Option e_V) none (fun _ t4 _ => List.rec (motive := fun _ => Option e_V) none (fun _ t5 _ => List.rec (motive := fun _ => Option e_V) none (fun _ t6 _ => List.rec (motive := fun _ => Option e_V) none (fun _ t7 _ => List.rec (motive := fun _ => Option e_V) none (fun _ t8 _ => List.rec (motive := fun _ => Option e_V) none (fun _ t9 _ => List.rec (motive := fun _ => Option e_V) none (fun _ t10 _ => List.rec (motive := fun _ => Option e_V) none (fun _ t11 _ => List.rec (motive := fun _ => Option e_V) none (fun _ t12 _ => List.rec (motive := fun _ => Option e_V) none (fun _ t13 _ => List.rec (motive := fun _ => Option e_V) none (fun _ t14 _ => List.rec (motive := fun _ => Option e_V) none (fun _ t15 _ => List.rec (motive := fun _ => Option e_V) none (fun _ t16 _ => List.rec (motive := fun _ => Option e_V) none (fun _ t17 _ => List.rec (motive := fun _ => Option e_V) none (fun a t18 _ => a) t17) t16) t15) t14) t13) t12) t11) t10) t9) t8) t7) t6) t5) t4) t3) t2) t1) t0) l
theorem f_l18_eq (l : e_A) : some (f_l18 l) = e_nth l 18 ∨ f_l18 l = none ∧ e_nth l 18 = none := by
  rcases l with _ | ⟨a0, (_ | ⟨a1, (_ | ⟨a2, (_ | ⟨a3, (_ | ⟨a4, (_ | ⟨a5, (_ | ⟨a6, (_ | ⟨a7, (_ | ⟨a8, (_ | ⟨a9, (_ | ⟨a10, (_ | ⟨a11, (_ | ⟨a12, (_ | ⟨a13, (_ | ⟨a14, (_ | ⟨a15, (_ | ⟨a16, (_ | ⟨a17, (_ | ⟨a18, l⟩)⟩)⟩)⟩)⟩)⟩)⟩)⟩)⟩)⟩)⟩)⟩)⟩)⟩)⟩)⟩)⟩)⟩)⟩ <;> first | exact Or.inl rfl | exact Or.inr ⟨rfl, rfl⟩
noncomputable def f_l19 (l : e_A) : Option e_V := List.rec (motive := fun _ => Option e_V) none (fun _ t0 _ => List.rec (motive := fun _ => Option e_V) none (fun _ t1 _ => List.rec (motive := fun _ => Option e_V) none (fun _ t2 _ => List.rec (motive := fun _ => Option e_V) none (fun _ t3 _ => List.rec (motive := fun _ => Option e_V) none (fun _ t4 _ => List.rec (motive := fun _ => Option e_V) none (fun _ t5 _ => List.rec (motive := fun _ => Option e_V) none (fun _ t6 _ => List.rec (motive := fun _ => Option e_V) none (fun _ t7 _ => List.rec (motive := fun _ => Option e_V) none (fun _ t8 _ => List.rec (motive := fun _ => Option e_V) none (fun _ t9 _ => List.rec (motive := fun _ => Option e_V) none (fun _ t10 _ => List.rec (motive := fun _ => Option e_V) none (fun _ t11 _ => List.rec (motive := fun _ => Option e_V) none (fun _ t12 _ => List.rec (motive := fun _ => Option e_V) none (fun _ t13 _ => List.rec (motive := fun _ => Option e_V) none (fun _ t14 _ => List.rec (motive := fun _ => Option e_V) none (fun _ t15 _ => List.rec (motive := fun _ => Option e_V) none (fun _ t16 _ => List.rec (motive := fun _ => Option e_V) none (fun _ t17 _ => List.rec (motive := fun _ => Option e_V) none (fun _ t18 _ => List.rec (motive := fun _ => Option e_V) none (fun a t19 _ => a) t18) t17) t16) t15) t14) t13) t12) t11) t10) t9) t8) t7) t6) t5) t4) t3) t2) t1) t0) l
theorem f_l19_eq (l : e_A) : some (f_l19 l) = e_nth l 19 ∨ f_l19 l = none ∧ e_nth l 19 = none := by
  rcases l with _ | ⟨a0, (_ | ⟨a1, (_ | ⟨a2, (_ | ⟨a3, (_ | ⟨a4, (_ | ⟨a5, (_ | ⟨a6, (_ | ⟨a7, (_ | ⟨a8, (_ | ⟨a9, (_ | ⟨a10, (_ | ⟨a11, (_ | ⟨a12, (_ | ⟨a13, (_ | ⟨a14, (_ | ⟨a15, (_ | ⟨a16, (_ | ⟨a17, (_ | ⟨a18, (_ | ⟨a19, l⟩)⟩)⟩)⟩)⟩)⟩)⟩)⟩)⟩)⟩)⟩)⟩)⟩)⟩)⟩)⟩)⟩)⟩)⟩)⟩ <;> first | exact Or.inl rfl | exact Or.inr ⟨rfl, rfl⟩
noncomputable def f_l20 (l : e_A) : Option e_V := List.rec (motive := fun _ => Option e_V) none (fun _ t0 _ => List.rec (motive := fun _ => Option e_V) none (fun _ t1 _ => List.rec (motive := fun _ => Option e_V) none (fun _ t2 _ => List.rec (motive := fun _ => Option e_V) none (fun _ t3 _ => List.rec (motive := fun _ => Option e_V) none (fun _ t4 _ => List.rec (motive := fun _ => Option e_V) none (fun _ t5 _ => List.rec (motive := fun _ => Option e_V) none (fun _ t6 _ => List.rec (motive := fun _ => Option e_V) none (fun _ t7 _ => List.rec (motive := fun _ => Option e_V) none (fun _ t8 _ => List.rec (motive := fun _ => Option e_V) none (fun _ t9 _ => List.rec (motive := fun _ => Option e_V) none (fun _ t10 _ => List.rec (motive := fun _ => Option e_V) none (fun _ t11 _ => List.rec (motive := fun _ => Option e_V) none (fun _ t12 _ => List.rec (motive := fun _ => Option e_V) none (fun _ t13 _ => List.rec (motive := fun _ => Option e_V) none (fun _ t14 _ => List.rec (motive := fun _ => Option e_V) none (fun _ t15 _ => List.rec (motive := fun _ => Option e_V) none (fun _ t16 _ => List.rec (motive := fun _ => Option e_V) none (fun _ t17 _ => List.rec (motive := fun _ => Option e_V) none (fun _ t18 _ => List.rec (motive := fun _ => Option e_V) none (fun _ t19 _ => List.rec (motive := fun _ => Option e_V) none (fun a t20 _ => a) t19) t18) t17) t16) t15) t14) t13) t12) t11) t10) t9) t8) t7) t6) t5) t4) t3) t2) t1) t0) l
theorem f_l20_eq (l : e_A) : some (f_l20 l) = e_nth l 20 ∨ f_l20 l = none ∧ e_nth l 20 = none := by
  rcases l with _ | ⟨a0, (_ | ⟨a1, (_ | ⟨a2, (_ | ⟨a3, (_ | ⟨a4, (_ | ⟨a5, (_ | ⟨a6, (_ | ⟨a7, (_ | ⟨a8, (_ | ⟨a9, (_ | ⟨a10, (_ | ⟨a11, (_ | ⟨a12, (_ | ⟨a13, (_ | ⟨a14, (_ | ⟨a15, (_ | ⟨a16, (_ | ⟨a17, (_ | ⟨a18, (_ | ⟨a19, (_ | ⟨a20, l⟩)⟩)⟩)⟩)⟩)⟩)⟩)⟩)⟩)⟩)⟩)⟩)⟩)⟩)⟩)⟩)⟩)⟩)⟩)⟩)⟩ <;> first | exact Or.inl rfl | exact Or.inr ⟨rfl, rfl⟩
noncomputable def f_l21 (l : e_A) : Option e_V := List.rec (motive := fun _ => Option e_V) none (fun _ t0 _ => List.rec (motive := fun _ => Option e_V) none (fun _ t1 _ => List.rec (motive := fun _ => Option e_V) none (fun _ t2 _ => List.rec (motive := fun _ => Option e_V) none (fun _ t3 _ => List.rec (motive := fun _ => Option e_V) none (fun _ t4 _ => List.rec (motive := fun _ => Option e_V) none (fun _ t5 _ => List.rec (motive := fun _ => Option e_V) none (fun _ t6 _ => List.rec (motive := fun _ => Option e_V) none (fun _ t7 _ => List.rec (motive := fun _ => Option e_V) none (fun _ t8 _ => List.rec (motive := fun _ => Option e_V) none (fun _ t9 _ => List.rec (motive := fun _ => Option e_V) none (fun _ t10 _ => List.rec (motive := fun _ => Option e_V) none (fun _ t11 _ => List.rec (motive := fun _ => Option e_V) none (fun _ t12 _ => List.rec (motive := fun _ => Option e_V) none (fun _ t13 _ => List.rec (motive := fun _ => Option e_V) none (fun _ t14 _ => List.rec (motive := fun _ => Option e_V) none (fun _ t15 _ => List.rec (motive := fun _ => Option e_V) none (fun _ t16 _ => List.rec (motive := fun _ => Option e_V) none (fun _ t17 _ => List.rec (motive := fun _ => Option e_V) none (fun _ t18 _ => List.rec (motive := fun _ => Option e_V) none (fun _ t19 _ => List.rec (motive := fun _ => Option e_V) none (fun _ t20 _ => List.rec (motive := fun _ => Option e_V) none (fun a t21 _ => a) t20) t19) t18) t17) t16) t15) t14) t13) t12) t11) t10) t9) t8) t7) t6) t5) t4) t3) t2) t1) t0) l
theorem f_l21_eq (l : e_A) : some (f_l21 l) = e_nth l 21 ∨ f_l21 l = none ∧ e_nth l 21 = none := by
  rcases l with _ | ⟨a0, (_ | ⟨a1, (_ | ⟨a2, (_ | ⟨a3, (_ | ⟨a4, (_ | ⟨a5, (_ | ⟨a6, (_ | ⟨a7, (_ | ⟨a8, (_ | ⟨a9, (_ | ⟨a10, (_ | ⟨a11, (_ | ⟨a12, (_ | ⟨a13, (_ | ⟨a14, (_ | ⟨a15, (_ | ⟨a16, (_ | ⟨a17, (_ | ⟨a18, (_ | ⟨a19, (_ | ⟨a20, (_ | ⟨a21, l⟩)⟩)⟩)⟩)⟩)⟩)⟩)⟩)⟩)⟩)⟩)⟩)⟩)⟩)⟩)⟩)⟩)⟩)⟩)⟩)⟩)⟩ <;> first | exact Or.inl rfl | exact Or.inr ⟨rfl, rfl⟩
noncomputable def f_l22 (l : e_A) : Option e_V := List.rec (motive := fun _ => Option e_V) none (fun _ t0 _ => List.rec (motive := fun _ => Option e_V) none (fun _ t1 _ => List.rec (motive := fun _ => Option e_V) none (fun _ t2 _ => List.rec (motive := fun _ => Option e_V) none (fun _ t3 _ => List.rec (motive := fun _ => Option e_V) none (fun _ t4 _ => List.rec (motive := fun _ => Option e_V) none (fun _ t5 _ => List.rec (motive := fun _ => Option e_V) none (fun _ t6 _ => List.rec (motive := fun _ => Option e_V) none (fun _ t7 _ => List.rec (motive := fun _ => Option e_V) none (fun _ t8 _ => List.rec (motive := fun _ => Option e_V) none (fun _ t9 _ => List.rec (motive := fun _ => Option e_V) none (fun _ t10 _ => List.rec (motive := fun _ => Option e_V) none (fun _ t11 _ => List.rec (motive := fun _ => Option e_V) none (fun _ t12 _ => List.rec (motive := fun _ => Option e_V) none (fun _ t13 _ => List.rec (motive := fun _ => Option e_V) none (fun _ t14 _ => List.rec (motive := fun _ => Option e_V) none (fun _ t15 _ => List.rec (motive := fun _ => Option e_V) none (fun _ t16 _ => List.rec (motive := fun _ => Option e_V) none (fun _ t17 _ => List.rec (motive := fun _ => Option e_V) none (fun _ t18 _ => List.rec (motive := fun _ => Option e_V) none (fun _ t19 _ => List.rec (motive := fun _ => Option e_V) none (fun _ t20 _ => List.rec (motive := fun _ => Option e_V) none (fun _ t21 _ => List.rec (motive := fun _ => Option e_V) none (fun a t22 _ => a) t21) t20) t19) t18) t17) t16) t15) t14) t13) t12) t11) t10) t9) t8) t7) t6) t5) t4) t3) t2) t1) t0) l
theorem f_l22_eq (l : e_A) : some (f_l22 l) = e_nth l 22 ∨ f_l22 l = none ∧ e_nth l 22 = none := by
  rcases l with _ | ⟨a0, (_ | ⟨a1, (_ | ⟨a2, (_ | ⟨a3, (_ | ⟨a4, (_ | ⟨a5, (_ | ⟨a6, (_ | ⟨a7, (_ | ⟨a8, (_ | ⟨a9, (_ | ⟨a10, (_ | ⟨a11, (_ | ⟨a12, (_ | ⟨a13, (_ | ⟨a14, (_ | ⟨a15, (_ | ⟨a16, (_ | ⟨a17, (_ | ⟨a18, (_ | ⟨a19, (_ | ⟨a20, (_ | ⟨a21, (_ | ⟨a22, l⟩)⟩)⟩)⟩)⟩)⟩)⟩)⟩)⟩)⟩)⟩)⟩)⟩)⟩)⟩)⟩)⟩)⟩)⟩)⟩)⟩)⟩)⟩ <;> first | exact Or.inl rfl | exact Or.inr ⟨rfl, rfl⟩
noncomputable def f_l23 (l : e_A) : Option e_V := List.rec (motive := fun _ => Option e_V) none (fun _ t0 _ => List.rec (motive := fun _ => Option e_V) none (fun _ t1 _ => List.rec (motive := fun _ => Option e_V) none (fun _ t2 _ => List.rec (motive := fun _ => Option e_V) none (fun _ t3 _ => List.rec (motive := fun _ => Option e_V) none (fun _ t4 _ => List.rec (motive := fun _ => Option e_V) none (fun _ t5 _ => List.rec (motive := fun _ => Option e_V) none (fun _ t6 _ => List.rec (motive := fun _ => Option e_V) none (fun _ t7 _ => List.rec (motive := fun _ => Option e_V) none (fun _ t8 _ => List.rec (motive := fun _ => Option e_V) none (fun _ t9 _ => List.rec (motive := fun _ => Option e_V) none (fun _ t10 _ => List.rec (motive := fun _ => Option e_V) none (fun _ t11 _ => List.rec (motive := fun _ => Option e_V) none (fun _ t12 _ => List.rec (motive := fun _ => Option e_V) none (fun _ t13 _ => List.rec (motive := fun _ => Option e_V) none (fun _ t14 _ => List.rec (motive := fun _ => Option e_V) none (fun _ t15 _ => List.rec (motive := fun _ => Option e_V) none (fun _ t16 _ => List.rec (motive := fun _ => Option e_V) none (fun _ t17 _ => List.rec (motive := fun _ => Option e_V) none (fun _ t18 _ => List.rec (motive := fun _ => Option e_V) none (fun _ t19 _ => List.rec (motive := fun _ => Option e_V) none (fun _ t20 _ => List.rec (motive := fun _ => Option e_V) none (fun _ t21 _ => List.rec (motive := fun _ => Option e_V) none (fun _ t22 _ => List.rec (motive := fun _ => Option e_V) none (fun a t23 _ => a) t22) t21) t20) t19) t18) t17) t16) t15) t14) t13) t12) t11) t10) t9) t8) t7) t6) t5) t4) t3) t2) t1) t0) l
theorem f_l23_eq (l : e_A) : some (f_l23 l) = e_nth l 23 ∨ f_l23 l = none ∧ e_nth l 23 = none := by
  rcases l with _ | ⟨a0, (_ | ⟨a1, (_ | ⟨a2, (_ | ⟨a3, (_ | ⟨a4, (_ | ⟨a5, (_ | ⟨a6, (_ | ⟨a7, (_ | ⟨a8, (_ | ⟨a9, (_ | ⟨a10, (_ | ⟨a11, (_ | ⟨a12, (_ | ⟨a13, (_ | ⟨a14, (_ | ⟨a15, (_ | ⟨a16, (_ | ⟨a17, (_ | ⟨a18, (_ | ⟨a19, (_ | ⟨a20, (_ | ⟨a21, (_ | ⟨a22, (_ | ⟨a23, l⟩)⟩)⟩)⟩)⟩)⟩)⟩)⟩)⟩)⟩)⟩)⟩)⟩)⟩)⟩)⟩)⟩)⟩)⟩)⟩)⟩)⟩)⟩)⟩ <;> first | exact Or.inl rfl | exact Or.inr ⟨rfl, rfl⟩
noncomputable def f_okI (v : e_V) : Bool := Sum.rec (motive := fun _ => Bool) (fun _ => true) (fun z => e_okI (.inr z)) v
theorem f_okI_eq {v : e_V} : f_okI v = e_okI v := by rcases v with m | v <;> rfl
noncomputable def f_okA (v : e_V) : Bool := Sum.rec (motive := fun _ => Bool) (fun _ => false) (fun z => Sum.rec (motive := fun _ => Bool) (fun _ => true) (fun z2 => e_okR (.inr (.inr z2))) z) v
theorem f_okA_eq {v : e_V} : f_okA v = e_okR v := by rcases v with m | r | v <;> rfl
noncomputable def u_ld (ok : e_V → Bool) (f : e_A → Option e_V) (nxt : e_Y) : e_Y := fun X ls st => Option.rec (motive := fun _ => Bool) false (fun v => Bool.rec (motive := fun _ => Bool) false (nxt X ls (v :: st)) (ok v)) (f ls)
theorem u_ld_eq {ok ok2 : e_V → Bool} (hok : ∀ v, ok v = ok2 v) {f : e_A → Option e_V} {n nx : Nat} (hf : ∀ l, some (f l) = e_nth l n ∨ f l = none ∧ e_nth l n = none) {nxt : e_Y} (g : e_G) (F : e_F) (ls : e_A) (st : List e_V) (w : e_W) (c : e_Q) (K : e_K) : e_un (u_ld ok f nxt) g F ls st w c K = o_load ok2 n nx (e_k (e_un nxt) g) F ls st w c K := by
  unfold o_load
  refine Eq.trans ?_ (f_nv_load (hf ls) false (fun v => bif ok2 v then e_k (e_un nxt) g F nx ls (v :: st) w c K else false))
  unfold e_un u_ld
  cases f ls with
  | none => rfl
  | some v =>
    dsimp only
    rw [hok]
    cases ok2 v <;> rfl
theorem u_ldIT {f : e_A → Option e_V} {n nx : Nat} {nxt : e_Y} (hf : ∀ l, some (f l) = e_nth l n ∨ f l = none ∧ e_nth l n = none) (ho : e_Sn M pc (o_load e_okI n nx)) (hn : e_Sn M nx (e_un nxt)) : e_Sn M pc (e_un (u_ld f_okI f nxt)) := e_thr ho hn e_congr_load (u_ld_eq (fun _ => f_okI_eq) hf)
theorem u_ldAT {f : e_A → Option e_V} {n nx : Nat} {nxt : e_Y} (hf : ∀ l, some (f l) = e_nth l n ∨ f l = none ∧ e_nth l n = none) (ho : e_Sn M pc (o_load e_okR n nx)) (hn : e_Sn M nx (e_un nxt)) : e_Sn M pc (e_un (u_ld f_okA f nxt)) := e_thr ho hn e_congr_load (u_ld_eq (fun _ => f_okA_eq) hf)
/-- stores, by the place: f_s0, f_s1 .. -/
noncomputable def f_s0 (x : Option e_V) (l : e_A) (k : e_A → Bool) : Bool := List.rec (motive := fun _ => Bool) false (fun _ t _ => k (x :: t)) l
noncomputable def f_s1 (x : Option e_V) (l : e_A) (k : e_A → Bool) : Bool := List.rec (motive := fun _ => Bool) false (fun a t _ => f_c1 a (fun b => f_s0 x t (fun t2 => k (b :: t2)))) l
theorem f_s0_eq {x : Option e_V} {l : e_A} {k : e_A → Bool} : f_s0 x l k = e_lst x l 0 k := by cases l <;> rfl
theorem f_s1_eq {x : Option e_V} {l : e_A} {k : e_A → Bool} : f_s1 x l k = e_lst x l 1 k := by
  rcases l with _ | ⟨a, l⟩
  · rfl
  · show f_c1 a (fun b => f_s0 x l (fun t2 => k (b :: t2))) = e_lst x l 0 (fun t2 => k (e_c1 a :: t2))
    rw [f_c1_eq, f_s0_eq]
noncomputable def f_s2 (x : Option e_V) (l : e_A) (k : e_A → Bool) : Bool := List.rec (motive := fun _ => Bool) false (fun a0 t0 _ => List.rec (motive := fun _ => Bool) false (fun a1 t1 _ => List.rec (motive := fun _ => Bool) false (fun _ t2 _ => f_c1 a1 (fun b => k (a0 :: b :: x :: t2))) t1) t0) l
theorem f_s2_eq {x : Option e_V} {l : e_A} {k : e_A → Bool} : f_s2 x l k = e_lst x l 2 k := by
  rcases l with _ | ⟨a0, (_ | ⟨a1, (_ | ⟨a2, l⟩)⟩)⟩ <;> first | rfl | exact f_c1_eq (a := a1) (k := fun b => k (a0 :: b :: x :: l))
noncomputable def f_s3 (x : Option e_V) (l : e_A) (k : e_A → Bool) : Bool := List.rec (motive := fun _ => Bool) false (fun a0 t0 _ => List.rec (motive := fun _ => Bool) false (fun a1 t1 _ => List.rec (motive := fun _ => Bool) false (fun a2 t2 _ => List.rec (motive := fun _ => Bool) false (fun _ t3 _ => f_c1 a2 (fun b => k (a0 :: a1 :: b :: x :: t3))) t2) t1) t0) l
theorem f_s3_eq {x : Option e_V} {l : e_A} {k : e_A → Bool} : f_s3 x l k = e_lst x l 3 k := by
  rcases l with _ | ⟨a0, (_ | ⟨a1, (_ | ⟨a2, (_ | ⟨a3, l⟩)⟩)⟩)⟩ <;> first | rfl | exact f_c1_eq (a := a2) (k := fun b => k (a0 :: a1 :: b :: x :: l))
noncomputable def f_s4 (x : Option e_V) (l : e_A) (k : e_A → Bool) : Bool := List.rec (motive := fun _ => Bool) false (fun a0 t0 _ => List.rec (motive := fun _ => Bool) false (fun a1 t1 _ => List.rec (motive := fun _ => Bool) false (fun a2 t2 _ => List.rec (motive := fun _ => Bool) false (fun a3 t3 _ => List.rec (motive := fun _ => Bool) false (fun _ t4 _ => f_c1 a3 (fun b => k (a0 :: a1 :: a2 :: b :: x :: t4))) t3) t2) t1) t0) l
theorem f_s4_eq {x : Option e_V} {l : e_A} {k : e_A → Bool} : f_s4 x l k = e_lst x l 4 k := by
  rcases l with _ | ⟨a0, (_ | ⟨a1, (_ | ⟨a2, (_ | ⟨a3, (_ | ⟨a4, l⟩)⟩)⟩)⟩)⟩ <;> first | rfl | exact f_c1_eq (a := a3) (k := fun b => k (a0 :: a1 :: a2 :: b :: x :: l))
noncomputable def f_s5 (x : Option e_V) (l : e_A) (k : e_A → Bool) : Bool := List.rec (motive := fun _ => Bool) false (fun a0 t0 _ => List.rec (motive := fun _ => Bool) false (fun a1 t1 _ => List.rec (motive := fun _ => Bool) false (fun a2 t2 _ => List.rec (motive := fun _ => Bool) false (fun a3 t3 _ => List.rec (motive := fun _ => Bool) false (fun a4 t4 _ => List.rec (motive := fun _ => Bool) false (fun _ t5 _ => f_c1 a4 (fun b => k (a0 :: a1 :: a2 :: a3 :: b :: x :: t5))) t4) t3) t2) t1) t0) l
theorem f_s5_eq {x : Option e_V} {l : e_A} {k : e_A → Bool} : f_s5 x l k = e_lst x l 5 k := by
  rcases l with _ | ⟨a0, (_ | ⟨a1, (_ | ⟨a2, (_ | ⟨a3, (_ | ⟨a4, (_ | ⟨a5, l⟩)⟩)⟩)⟩)⟩)⟩ <;> first | rfl | exact f_c1_eq (a := a4) (k := fun b => k (a0 :: a1 :: a2 :: a3 :: b :: x :: l))
noncomputable def f_s6 (x : Option e_V) (l : e_A) (k : e_A → Bool) : Bool := List.rec (motive := fun _ => Bool) false (fun a0 t0 _ => List.rec (motive := fun _ => Bool) false (fun a1 t1 _ => List.rec (motive := fun _ => Bool) false (fun a2 t2 _ => List.rec (motive := fun _ => Bool) false (fun a3 t3 _ => List.rec (motive := fun _ => Bool) false (fun a4 t4 _ => List.rec (motive := fun _ => Bool) false (fun a5 t5 _ => List.rec (motive := fun _ => Bool) false (fun _ t6 _ => f_c1 a5 (fun b => k (a0 :: a1 :: a2 :: a3 :: a4 :: b :: x :: t6))) t5) t4) t3) t2) t1) t0) l
theorem f_s6_eq {x : Option e_V} {l : e_A} {k : e_A → Bool} : f_s6 x l k = e_lst x l 6 k := by
  rcases l with _ | ⟨a0, (_ | ⟨a1, (_ | ⟨a2, (_ | ⟨a3, (_ | ⟨a4, (_ | ⟨a5, (_ | ⟨a6, l⟩)⟩)⟩)⟩)⟩)⟩)⟩ <;> first | rfl | exact f_c1_eq (a := a5) (k := fun b => k (a0 :: a1 :: a2 :: a3 :: a4 :: b :: x :: l))
noncomputable def f_s7 (x : Option e_V) (l : e_A) (k : e_A → Bool) : Bool := List.rec (motive := fun _ => Bool) false (fun a0 t0 _ => List.rec (motive := fun _ => Bool) false (fun a1 t1 _ => List.rec (motive := fun _ => Bool) false (fun a2 t2 _ => List.rec (motive := fun _ => Bool) false (fun a3 t3 _ => List.rec (motive := fun _ => Bool) false (fun a4 t4 _ => List.rec (motive := fun _ => Bool) false (fun a5 t5 _ => List.rec (motive := fun _ => Bool) false (fun a6 t6 _ => List.rec (motive := fun _ => Bool) false (fun _ t7 _ => f_c1 a6 (fun b => k (a0 :: a1 :: a2 :: a3 :: a4 :: a5 :: b :: x :: t7))) t6) t5) t4) t3) t2) t1) t0) l
theorem f_s7_eq {x : Option e_V} {l : e_A} {k : e_A → Bool} : f_s7 x l k = e_lst x l 7 k := by
  rcases l with _ | ⟨a0, (_ | ⟨a1, (_ | ⟨a2, (_ | ⟨a3, (_ | ⟨a4, (_ | ⟨a5, (_ | ⟨a6, (_ | ⟨a7, l⟩)⟩)⟩)⟩)⟩)⟩)⟩)⟩ <;> first | rfl | exact f_c1_eq (a := a6) (k := fun b => k (a0 :: a1 :: a2 :: a3 :: a4 :: a5 :: b :: x :: l))
noncomputable def f_s8 (x : Option e_V) (l : e_A) (k : e_A → Bool) : Bool := List.rec (motive := fun _ => Bool) false (fun a0 t0 _ => List.rec (motive := fun _ => Bool) false (fun a1 t1 _ => List.rec (motive := fun _ => Bool) false (fun a2 t2 _ => List.rec (motive := fun _ => Bool) false (fun a3 t3 _ => List.rec (motive := fun _ => Bool) false (fun a4 t4 _ => List.rec (motive := fun _ => Bool) false (fun a5 t5 _ => List.rec (motive := fun _ => Bool) false (fun a6 t6 _ => List.rec (motive := fun _ => Bool) false (fun a7 t7 _ => List.rec (motive := fun _ => Bool) false (fun _ t8 _ => f_c1 a7 (fun b => k (a0 :: a1 :: a2 :: a3 :: a4 :: a5 :: a6 :: b :: x :: t8))) t7) t6) t5) t4) t3) t2) t1) t0) l
theorem f_s8_eq {x : Option e_V} {l : e_A} {k : e_A → Bool} : f_s8 x l k = e_lst x l 8 k := by
  rcases l with _ | ⟨a0, (_ | ⟨a1, (_ | ⟨a2, (_ | ⟨a3, (_ | ⟨a4, (_ | ⟨a5, (_ | ⟨a6, (_ | ⟨a7, (_ | ⟨a8, l⟩)⟩)⟩)⟩)⟩)⟩)⟩)⟩)⟩ <;> first | rfl | exact f_c1_eq (a := a7) (k := fun b => k (a0 :: a1 :: a2 :: a3 :: a4 :: a5 :: a6 :: b :: x :: l))
noncomputable def f_s9 (x : Option e_V) (l : e_A) (k : e_A → Bool) : Bool := List.rec (motive := fun _ => Bool) false (fun a0 t0 _ => List.rec (motive := fun _ => Bool) false (fun a1 t1 _ => List.rec (motive := fun _ => Bool) false (fun a2 t2 _ => List.rec (motive := fun _ => Bool) false (fun a3 t3 _ => List.rec (motive := fun _ => Bool) false (fun a4 t4 _ => List.rec (motive := fun _ => Bool) false (fun a5 t5 _ => List.rec (motive := fun _ => Bool) false (fun a6 t6 _ => List.rec (motive := fun _ => Bool) false (fun a7 t7 _ => List.rec (motive := fun _ => Bool) false (fun a8 t8 _ => List.rec (motive := fun _ => Bool) false (fun _ t9 _ => f_c1 a8 (fun b => k (a0 :: a1 :: a2 :: a3 :: a4 :: a5 :: a6 :: a7 :: b :: x :: t9))) t8) t7) t6) t5) t4) t3) t2) t1) t0) l
theorem f_s9_eq {x : Option e_V} {l : e_A} {k : e_A → Bool} : f_s9 x l k = e_lst x l 9 k := by
  rcases l with _ | ⟨a0, (_ | ⟨a1, (_ | ⟨a2, (_ | ⟨a3, (_ | ⟨a4, (_ | ⟨a5, (_ | ⟨a6, (_ | ⟨a7, (_ | ⟨a8, (_ | ⟨a9, l⟩)⟩)⟩)⟩)⟩)⟩)⟩)⟩)⟩)⟩ <;> first | rfl | exact f_c1_eq (a := a8) (k := fun b => k (a0 :: a1 :: a2 :: a3 :: a4 :: a5 :: a6 :: a7 :: b :: x :: l))
noncomputable def f_s10 (x : Option e_V) (l : e_A) (k : e_A → Bool) : Bool := List.rec (motive := fun _ => Bool) false (fun a0 t0 _ => List.rec (motive := fun _ => Bool) false (fun a1 t1 _ => List.rec (motive := fun _ => Bool) false (fun a2 t2 _ => List.rec (motive := fun _ => Bool) false (fun a3 t3 _ => List.rec (motive := fun _ => Bool) false (fun a4 t4 _ => List.rec (motive := fun _ => Bool) false (fun a5 t5 _ => List.rec (motive := fun _ => Bool) false (fun a6 t6 _ => List.rec (motive := fun _ => Bool) false (fun a7 t7 _ => List.rec (motive := fun _ => Bool) false (fun a8 t8 _ => List.rec (motive := fun _ => Bool) false (fun a9 t9 _ => List.rec (motive := fun _ => Bool) false (fun _ t10 _ => f_c1 a9 (fun b => k (a0 :: a1 :: a2 :: a3 :: a4 :: a5 :: a6 :: a7 :: a8 :: b :: x :: t10))) t9) t8) t7) t6) t5) t4) t3) t2) t1) t0) l
theorem f_s10_eq {x : Option e_V} {l : e_A} {k : e_A → Bool} : f_s10 x l k = e_lst x l 10 k := by
  rcases l with _ | ⟨a0, (_ | ⟨a1, (_ | ⟨a2, (_ | ⟨a3, (_ | ⟨a4, (_ | ⟨a5, (_ | ⟨a6, (_ | ⟨a7, (_ | ⟨a8, (_ | ⟨a9, (_ | ⟨a10, l⟩)⟩)⟩)⟩)⟩)⟩)⟩)⟩)⟩)⟩)⟩ <;> first | rfl | exact f_c1_eq (a := a9) (k := fun b => k (a0 :: a1 :: a2 :: a3 :: a4 :: a5 :: a6 :: a7 :: a8 :: b :: x :: l))
noncomputable def f_s11 (x : Option e_V) (l : e_A) (k : e_A → Bool) : Bool := List.rec (motive := fun _ => Bool) false (fun a0 t0 _ => List.rec (motive := fun _ => Bool) false (fun a1 t1 _ => List.rec (motive := fun _ => Bool) false (fun a2 t2 _ => List.rec (motive := fun _ => Bool) false (fun a3 t3 _ => List.rec (motive := fun _ => Bool) false (fun a4 t4 _ => List.rec (motive := fun _ => Bool) false (fun a5 t5 _ => List.rec (motive := fun _ => Bool) false (fun a6 t6 _ => List.rec (motive := fun _ => Bool) false (fun a7 t7 _ => List.rec (motive := fun _ => Bool) false (fun a8 t8 _ => List.rec (motive := fun _ => Bool) false (fun a9 t9 _ => List.rec (motive := fun _ => Bool) false (fun a10 t10 _ => List.rec (motive := fun _ => Bool) false (fun _ t11 _ => f_c1 a10 (fun b => k (a0 :: a1 :: a2 :: a3 :: a4 :: a5 :: a6 :: a7 :: a8 :: a9 :: b :: x :: t11))) t10) t9) t8) t7) t6) t5) t4) t3) t2) t1) t0) l
theorem f_s11_eq {x : Option e_V} {l : e_A} {k : e_A → Bool} : f_s11 x l k = e_lst x l 11 k := by
  rcases l with _ | ⟨a0, (_ | ⟨a1, (_ | ⟨a2, (_ | ⟨a3, (_ | ⟨a4, (_ | ⟨a5, (_ | ⟨a6, (_ | ⟨a7, (_ | ⟨a8, (_ | ⟨a9, (_ | ⟨a10, (_ | ⟨a11, l⟩)⟩)⟩)⟩)⟩)⟩)⟩)⟩)⟩)⟩)⟩)⟩ <;> first | rfl | exact f_c1_eq (a := a10) (k := fun b => k (a0 :: a1 :: a2 :: a3 :: a4 :: a5 :: a6 :: a7 :: a8 :: a9 :: b :: x :: l))
noncomputable def f_s12 (x : Option e_V) (l : e_A) (k : e_A → Bool) : Bool := List.rec (motive := fun _ => Bool) false (fun a0 t0 _ => List.rec (motive := fun _ => Bool) false (fun a1 t1 _ => List.rec (motive := fun _ => Bool) false (fun a2 t2 _ => List.rec (motive := fun _ => Bool) false (fun a3 t3 _ => List.rec (motive := fun _ => Bool) false (fun a4 t4 _ => List.rec (motive := fun _ => Bool) false (fun a5 t5 _ => List.rec (motive := fun _ => Bool) false (fun a6 t6 _ => List.rec (motive := fun _ => Bool) false (fun a7 t7 _ => List.rec (motive := fun _ => Bool) false (fun a8 t8 _ => List.rec (motive := fun _ => Bool) false (fun a9 t9 _ => List.rec (motive := fun _ => Bool) false (fun a10 t10 _ => List.rec (motive := fun _ => Bool) false (fun a11 t11 _ => List.rec (motive := fun _ => Bool) false (fun _ t12 _ => f_c1 a11 (fun b => k (a0 :: a1 :: a2 :: a3 :: a4 :: a5 :: a6 :: a7 :: a8 :: a9 :: a10 :: b :: x :: t12))) t11) t10) t9) t8) t7) t6) t5) t4) t3) t2) t1) t0) l
theorem f_s12_eq {x : Option e_V} {l : e_A} {k : e_A → Bool} : f_s12 x l k = e_lst x l 12 k := by
  rcases l with _ | ⟨a0, (_ | ⟨a1, (_ | ⟨a2, (_ | ⟨a3, (_ | ⟨a4, (_ | ⟨a5, (_ | ⟨a6, (_ | ⟨a7, (_ | ⟨a8, (_ | ⟨a9, (_ | ⟨a10, (_ | ⟨a11, (_ | ⟨a12, l⟩)⟩)⟩)⟩)⟩)⟩)⟩)⟩)⟩)⟩)⟩)⟩)⟩ <;> first | rfl | exact f_c1_eq (a := a11) (k := fun b => k (a0 :: a1 :: a2 :: a3 :: a4 :: a5 :: a6 :: a7 :: a8 :: a9 :: a10 :: b :: x :: l))
noncomputable def f_s13 (x : Option e_V) (l : e_A) (k : e_A → Bool) : Bool := List.rec (motive := fun _ => Bool) false (fun a0 t0 _ => List.rec (motive := fun _ => Bool) false (fun a1 t1 _ => List.rec (motive := fun _ => Bool) false (fun a2 t2 _ => List.rec (motive := fun _ => Bool) false (fun a3 t3 _ => List.rec (motive := fun _ => Bool) false (fun a4 t4 _ => List.rec (motive := fun _ => Bool) false (fun a5 t5 _ => List.rec (motive := fun _ => Bool) false (fun a6 t6 _ => List.rec (motive := fun _ => Bool) false (fun a7 t7 _ => List.rec (motive := fun _ => Bool) false (fun a8 t8 _ => List.rec (motive := fun _ => Bool) false (fun a9 t9 _ => List.rec (motive := fun _ => Bool) false (fun a10 t10 _ => List.rec (motive := fun _ => Bool) false (fun a11 t11 _ => List.rec (motive := fun _ => Bool) false (fun a12 t12 _ => List.rec (motive := fun _ => Bool) false (fun _ t13 _ => f_c1 a12 (fun b => k (a0 :: a1 :: a2 :: a3 :: a4 :: a5 :: a6 :: a7 :: a8 :: a9 :: a10 :: a11 :: b :: x :: t13))) t12) t11) t10) t9) t8) t7) t6) t5) t4) t3) t2) t1) t0) l
theorem f_s13_eq {x : Option e_V} {l : e_A} {k : e_A → Bool} : f_s13 x l k = e_lst x l 13 k := by
  rcases l with _ | ⟨a0, (_ | ⟨a1, (_ | ⟨a2, (_ | ⟨a3, (_ | ⟨a4, (_ | ⟨a5, (_ | ⟨a6, (_ | ⟨a7, (_ | ⟨a8, (_ | ⟨a9, (_ | ⟨a10, (_ | ⟨a11, (_ | ⟨a12, (_ | ⟨a13, l⟩)⟩)⟩)⟩)⟩)⟩)⟩)⟩)⟩)⟩)⟩)⟩)⟩)⟩ <;> first | rfl | exact f_c1_eq (a := a12) (k := fun b => k (a0 :: a1 :: a2 :: a3 :: a4 :: a5 :: a6 :: a7 :: a8 :: a9 :: a10 :: a11 :: b :: x :: l))
noncomputable def f_s14 (x : Option e_V) (l : e_A) (k : e_A → Bool) : Bool := List.rec (motive := fun _ => Bool) false (fun a0 t0 _ => List.rec (motive := fun _ => Bool) false (fun a1 t1 _ => List.rec (motive := fun _ => Bool) false (fun a2 t2 _ => List.rec (motive := fun _ => Bool) false (fun a3 t3 _ => List.rec (motive := fun _ => Bool) false (fun a4 t4 _ => List.rec (motive := fun _ => Bool) false (fun a5 t5 _ => List.rec (motive := fun _ => Bool) false (fun a6 t6 _ => List.rec (motive := fun _ => Bool) false (fun a7 t7 _ => List.rec (motive := fun _ => Bool) false (fun a8 t8 _ => List.rec (motive := fun _ => Bool) false (fun a9 t9 _ => List.rec (motive := fun _ => Bool) false (fun a10 t10 _ => List.rec (motive := fun _ => Bool) false (fun a11 t11 _ => List.rec (motive := fun _ => Bool) false (fun a12 t12 _ => List.rec (motive := fun _ => Bool) false (fun a13 t13 _ => List.rec (motive := fun _ => Bool) false (fun _ t14 _ => f_c1 a13 (fun b => k (a0 :: a1 :: a2 :: a3 :: a4 :: a5 :: a6 :: a7 :: a8 :: a9 :: a10 :: a11 :: a12 :: b :: x :: t14))) t13) t12) t11) t10) t9) t8) t7) t6) t5) t4) t3) t2) t1) t0) l
theorem f_s14_eq {x : Option e_V} {l : e_A} {k : e_A → Bool} : f_s14 x l k = e_lst x l 14 k := by
  rcases l with _ | ⟨a0, (_ | ⟨a1, (_ | ⟨a2, (_ | ⟨a3, (_ | ⟨a4, (_ | ⟨a5, (_ | ⟨a6, (_ | ⟨a7, (_ | ⟨a8, (_ | ⟨a9, (_ | ⟨a10, (_ | ⟨a11, (_ | ⟨a12, (_ | ⟨a13, (_ | ⟨a14, l⟩)⟩)⟩)⟩)⟩)⟩)⟩)⟩)⟩)⟩)⟩)⟩)⟩)⟩)⟩ <;> first | rfl | exact f_c1_eq (a := a13) (k := fun b => k (a0 :: a1 :: a2 :: a3 :: a4 :: a5 :: a6 :: a7 :: a8 :: a9 :: a10 :: a11 :: a12 :: b :: x :: l))
noncomputable def f_s15 (x : Option e_V) (l : e_A) (k : e_A → Bool) : Bool := List.rec (motive := fun _ => Bool) false (fun a0 t0 _ => List.rec (motive := fun _ => Bool) false (fun a1 t1 _ => List.rec (motive := fun _ => Bool) false (fun a2 t2 _ => List.rec (motive := fun _ => Bool) false (fun a3 t3 _ => List.rec (motive := fun _ => Bool) false (fun a4 t4 _ => List.rec (motive := fun _ => Bool) false (fun a5 t5 _ => List.rec (motive := fun _ => Bool) false (fun a6 t6 _ => List.rec (motive := fun _ => Bool) false (fun a7 t7 _ => List.rec (motive := fun _ => Bool) false (fun a8 t8 _ => List.rec (motive := fun _ => Bool) false (fun a9 t9 _ => List.rec (motive := fun _ => Bool) false (fun a10 t10 _ => List.rec (motive := fun _ => Bool) false (fun a11 t11 _ => List.rec (motive := fun _ => Bool) false (fun a12 t12 _ => List.rec (motive := fun _ => Bool) false (fun a13 t13 _ => List.rec (motive := fun _ => Bool) false (fun a14 t14 _ => List.rec (motive := fun _ => Bool) false (fun _ t15 _ => f_c1 a14 (fun b => k (a0 :: a1 :: a2 :: a3 :: a4 :: a5 :: a6 :: a7 :: a8 :: a9 :: a10 :: a11 :: a12 :: a13 :: b :: x :: t15))) t14) t13) t12) t11) t10) t9) t8) t7) t6) t5) t4) t3) t2) t1) t0) l
theorem f_s15_eq {x : Option e_V} {l : e_A} {k : e_A → Bool} : f_s15 x l k = e_lst x l 15 k := by
  rcases l with _ | ⟨a0, (_ | ⟨a1, (_ | ⟨a2, (_ | ⟨a3, (_ | ⟨a4, (_ | ⟨a5, (_ | ⟨a6, (_ | ⟨a7, (_ | ⟨a8, (_ | ⟨a9, (_ | ⟨a10, (_ | ⟨a11, (_ | ⟨a12, (_ | ⟨a13, (_ | ⟨a14, (_ | ⟨a15, l⟩)⟩)⟩)⟩)⟩)⟩)⟩)⟩)⟩)⟩)⟩)⟩)⟩)⟩)⟩)⟩ <;> first | rfl | exact f_c1_eq (a := a14) (k := fun b => k (a0 :: a1 :: a2 :: a3 :: a4 :: a5 :: a6 :: a7 :: a8 :: a9 :: a10 :: a11 :: a12 :: a13 :: b :: x :: l))
noncomputable def f_s16 (x : Option e_V) (l : e_A) (k : e_A → Bool) : Bool := List.rec (motive := fun _ => Bool) false (fun a0 t0 _ => List.rec (motive := fun _ => Bool) false (fun a1 t1 _ => List.rec (motive := fun _ => Bool) false (fun a2 t2 _ => List.rec (motive := fun _ => Bool) false (fun a3 t3 _ => List.rec (motive := fun _ => Bool) false (fun a4 t4 _ => List.rec (motive := fun _ => Bool) false (fun a5 t5 _ => List.rec (motive := fun _ => Bool) false (fun a6 t6 _ => List.rec (motive := fun _ => Bool) false (fun a7 t7 _ => List.rec (motive := fun _ => Bool) false (fun a8 t8 _ => List.rec (motive := fun _ => Bool) false (fun a9 t9 _ => List.rec (motive := fun _ => Bool) false (fun a10 t10 _ => List.rec (motive := fun _ => Bool) false (fun a11 t11 _ => List.rec (motive := fun _ => Bool) false (fun a12 t12 _ => List.rec (motive := fun _ => Bool) false (fun a13 t13 _ => List.rec (motive := fun _ => Bool) false (fun a14 t14 _ => List.rec (motive := fun _ => Bool) false (fun a15 t15 _ => List.rec (motive := fun _ => Bool) false (fun _ t16 _ => f_c1 a15 (fun b => k (a0 :: a1 :: a2 :: a3 :: a4 :: a5 :: a6 :: a7 :: a8 :: a9 :: a10 :: a11 :: a12 :: a13 :: a14 :: b :: x :: t16))) t15) t14) t13) t12) t11) t10) t9) t8) t7) t6) t5) t4) t3) t2) t1) t0) l
theorem f_s16_eq {x : Option e_V} {l : e_A} {k : e_A → Bool} : f_s16 x l k = e_lst x l 16 k := by
  rcases l with _ | ⟨a0, (_ | ⟨a1, (_ | ⟨a2, (_ | ⟨a3, (_ | ⟨a4, (_ | ⟨a5, (_ | ⟨a6, (_ | ⟨a7, (_ | ⟨a8, (_ | ⟨a9, (_ | ⟨a10, (_ | ⟨a11, (_ | ⟨a12, (_ | ⟨a13, (_ | ⟨a14, (_ | ⟨a15, (_ | ⟨a16, l⟩)⟩)⟩)⟩)⟩)⟩)⟩)⟩)⟩)⟩)⟩)⟩)⟩)⟩)⟩)⟩)⟩ <;> first | rfl | exact f_c1_eq (a := a15) (k := fun b => k (a0 :: a1 :: a2 :: a3 :: a4 :: a5 :: a6 :: a7 :: a8 :: a9 :: a10 :: a11 :: a12 :: a13 :: a14 :: b :: x :: l))
noncomputable def f_s17 (x : Option e_V) (l : e_A) (k : e_A → Bool) : Bool := List.rec (motive := fun _ => Bool) false (fun a0 t0 _ => List.rec (motive := fun _ => Bool) false (fun a1 t1 _ => List.rec (motive := fun _ => Bool) false (fun a2 t2 _ => List.rec (motive := fun _ => Bool) false (fun a3 t3 _ => List.rec (motive := fun _ => Bool) false (fun a4 t4 _ => List.rec (motive := fun _ => Bool) false (fun a5 t5 _ => List.rec (motive := fun _ => Bool) false (fun a6 t6 _ => List.rec (motive := fun _ => Bool) false (fun a7 t7 _ => List.rec (motive := fun _ => Bool) false (fun a8 t8 _ => List.rec (motive := fun _ => Bool) false (fun a9 t9 _ => List.rec (motive := fun _ => Bool) false (fun a10 t10 _ => List.rec (motive := fun _ => Bool) false (fun a11 t11 _ => List.rec (motive := fun _ => Bool) false (fun a12 t12 _ => List.rec (motive := fun _ => Bool) false (fun a13 t13 _ => List.rec (motive := fun _ => Bool) false (fun a14 t14 _ => List.rec (motive := fun _ => Bool) false (fun a15 t15 _ => List.rec (motive := fun _ => Bool) false (fun a16 t16 _ => List.rec (motive := fun _ => Bool) false (fun _ t17 _ => f_c1 a16 (fun b => k (a0 :: a1 :: a2 :: a3 :: a4 :: a5 :: a6 :: a7 :: a8 :: a9 :: a10 :: a11 :: a12 :: a13 :: a14 :: a15 :: b :: x :: t17))) t16) t15) t14) t13) t12) t11) t10) t9) t8) t7) t6) t5) t4) t3) t2) t1) t0) l
theorem f_s17_eq {x : Option e_V} {l : e_A} {k : e_A → Bool} : f_s17 x l k = e_lst x l 17 k := by
  rcases l with _ | ⟨a0, (_ | ⟨a1, (_ | ⟨a2, (_ | ⟨a3, (_ | ⟨a4, (_ | ⟨a5, (_ | ⟨a6, (_ | ⟨a7, (_ | ⟨a8, (_ | ⟨a9, (_ | ⟨a10, (_ | ⟨a11, (_ | ⟨a12, (_ | ⟨a13, (_ | ⟨a14, (_ | ⟨a15, (_ | ⟨a16, (_ | ⟨a17, l⟩)⟩)⟩)⟩)⟩)⟩)⟩)⟩)⟩)⟩)⟩)⟩)⟩)⟩)⟩)⟩)⟩)⟩ <;> first | rfl | exact f_c1_eq (a := a16) (k := fun b => k (a0 :: a1 :: a2 :: a3 :: a4 :: a5 :: a6 :: a7 :: a8 :: a9 :: a10 :: a11 :: a12 :: a13 :: a14 :: a15 :: b :: x :: l))
noncomputable def f_s18 (x : Option e_V) (l : e_A) (k : e_A → Bool) : Bool := List.rec (motive := fun _ => Bool) false (fun a0 t0 _ => List.rec (motive := fun _ => Bool) false (fun a1 t1 _ => List.rec (motive := fun _ => Bool) false (fun a2 t2 _ => List.rec (motive := fun _ => Bool) false (fun a3 t3 _ => List.rec (motive := fun _ => Bool) false (fun a4 t4 _ => List.rec (motive := fun _ => Bool) false (fun a5 t5 _ => List.rec (motive := fun _ => Bool) false (fun a6 t6 _ => List.rec (motive := fun _ => Bool) false (fun a7 t7 _ => List.rec (motive := fun _ => Bool) false (fun a8 t8 _ => List.rec (motive := fun _ => Bool) false (fun a9 t9 _ => List.rec (motive := fun _ => Bool) false (fun a10 t10 _ => List.rec (motive := fun _ => Bool) false (fun a11 t11 _ => List.rec (motive := fun _ => Bool) false (fun a12 t12 _ => List.rec (motive := fun _ => Bool) false (fun a13 t13 _ => List.rec (motive := fun _ => Bool) false (fun a14 t14 _ => List.rec (motive := fun _ => Bool) false (fun a15 t15 _ => List.rec (motive := fun _ => Bool) false (fun a16 t16 _ => List.rec (motive := fun _ => Bool) false (fun a17 t17 _ => List.rec (motive := fun _ => Bool) false (fun _ t18 _ => f_c1 a17 (fun b => k (a0 :: a1 :: a2 :: a3 :: a4 :: a5 :: a6 :: a7 :: a8 :: a9 :: a10 :: a11 :: a12 :: a13 :: a14 :: a15 :: a16 :: b :: x :: t18))) t17) t16) t15) t14) t13) t12) t11) t10) t9) t8) t7) t6) t5) t4) t3) t2) t1) t0) l
theorem f_s18_eq {x : Option e_V} {l : e_A} {k : e_A → Bool} : f_s18 x l k = e_lst x l 18 k := by
  rcases l with _ | ⟨a0, (_ | ⟨a1, (_ | ⟨a2, (_ | ⟨a3, (_ | ⟨a4, (_ | ⟨a5, (_ | ⟨a6, (_ | ⟨a7, (_ | ⟨a8, (_ | ⟨a9, (_ | ⟨a10, (_ | ⟨a11, (_ | ⟨a12, (_ | ⟨a13, (_ | ⟨a14, (_ | ⟨a15, (_ | ⟨a16, (_ | ⟨a17, (_ | ⟨a18, l⟩)⟩)⟩)⟩)⟩)⟩)⟩)⟩)⟩)⟩)⟩)⟩)⟩)⟩)⟩)⟩)⟩)⟩)⟩ <;> first | rfl | exact f_c1_eq (a := a17) (k := fun b => k (a0 :: a1 :: a2 :: a3 :: a4 :: a5 :: a6 :: a7 :: a8 :: a9 :: a10 :: a11 :: a12 :: a13 :: a14 :: a15 :: a16 :: b :: x :: l))
noncomputable def f_s19 (x : Option e_V) (l : e_A) (k : e_A → Bool) : Bool := List.rec (motive := fun _ => Bool) false (fun a0 t0 _ => List.rec (motive := fun _ => Bool) false (fun a1 t1 _ => List.rec (motive := fun _ => Bool) false (fun a2 t2 _ => List.rec (motive := fun _ => Bool) false (fun a3 t3 _ => List.rec (motive := fun _ => Bool) false (fun a4 t4 _ => List.rec (motive := fun _ => Bool) false (fun a5 t5 _ => List.rec (motive := fun _ => Bool) false (fun a6 t6 _ => List.rec (motive := fun _ => Bool) false (fun a7 t7 _ => List.rec (motive := fun _ => Bool) false (fun a8 t8 _ => List.rec (motive := fun _ => Bool) false (fun a9 t9 _ => List.rec (motive := fun _ => Bool) false (fun a10 t10 _ => List.rec (motive := fun _ => Bool) false (fun a11 t11 _ => List.rec (motive := fun _ => Bool) false (fun a12 t12 _ => List.rec (motive := fun _ => Bool) false (fun a13 t13 _ => List.rec (motive := fun _ => Bool) false (fun a14 t14 _ => List.rec (motive := fun _ => Bool) false (fun a15 t15 _ => List.rec (motive := fun _ => Bool) false (fun a16 t16 _ => List.rec (motive := fun _ => Bool) false (fun a17 t17 _ => List.rec (motive := fun _ => Bool) false (fun a18 t18 _ => List.rec (motive := fun _ => Bool) false (fun _ t19 _ => f_c1 a18 (fun b => k (a0 :: a1 :: a2 :: a3 :: a4 :: a5 :: a6 :: a7 :: a8 :: a9 :: a10 :: a11 :: a12 :: a13 :: a14 :: a15 :: a16 :: a17 :: b :: x :: t19))) t18) t17) t16) t15) t14) t13) t12) t11) t10) t9) t8) t7) t6) t5) t4) t3) t2) t1) t0) l
theorem f_s19_eq {x : Option e_V} {l : e_A} {k : e_A → Bool} : f_s19 x l k = e_lst x l 19 k := by
  rcases l with _ | ⟨a0, (_ | ⟨a1, (_ | ⟨a2, (_ | ⟨a3, (_ | ⟨a4, (_ | ⟨a5, (_ | ⟨a6, (_ | ⟨a7, (_ | ⟨a8, (_ | ⟨a9, (_ | ⟨a10, (_ | ⟨a11, (_ | ⟨a12, (_ | ⟨a13, (_ | ⟨a14, (_ | ⟨a15, (_ | ⟨a16, (_ | ⟨a17, (_ | ⟨a18, (_ | ⟨a19, l⟩)⟩)⟩)⟩)⟩)⟩)⟩)⟩)⟩)⟩)⟩)⟩)⟩)⟩)⟩)⟩)⟩)⟩)⟩)⟩ <;> first | rfl | exact f_c1_eq (a := a18) (k := fun b => k (a0 :: a1 :: a2 :: a3 :: a4 :: a5 :: a6 :: a7 :: a8 :: a9 :: a10 :: a11 :: a12 :: a13 :: a14 :: a15 :: a16 :: a17 :: b :: x :: l))
noncomputable def f_s20 (x : Option e_V) (l : e_A) (k : e_A → Bool) : Bool := List.rec (motive := fun _ => Bool) false (fun a0 t0 _ => List.rec (motive := fun _ => Bool) false (fun a1 t1 _ => List.rec (motive := fun _ => Bool) false (fun a2 t2 _ => List.rec (motive := fun _ => Bool) false (fun a3 t3 _ => List.rec (motive := fun _ => Bool) false (fun a4 t4 _ => List.rec (motive := fun _ => Bool) false (fun a5 t5 _ => List.rec (motive := fun _ => Bool) false (fun a6 t6 _ => List.rec (motive := fun _ => Bool) false (fun a7 t7 _ => List.rec (motive := fun _ => Bool) false (fun a8 t8 _ => List.rec (motive := fun _ => Bool) false (fun a9 t9 _ => List.rec (motive := fun _ => Bool) false (fun a10 t10 _ => List.rec (motive := fun _ => Bool) false (fun a11 t11 _ => List.rec (motive := fun _ => Bool) false (fun a12 t12 _ => List.rec (motive := fun _ => Bool) false (fun a13 t13 _ => List.rec (motive := fun _ => Bool) false (fun a14 t14 _ => List.rec (motive := fun _ => Bool) false (fun a15 t15 _ => List.rec (motive := fun _ => Bool) false (fun a16 t16 _ => List.rec (motive := fun _ => Bool) false (fun a17 t17 _ => List.rec (motive := fun _ => Bool) false (fun a18 t18 _ => List.rec (motive := fun _ => Bool) false (fun a19 t19 _ => List.rec (motive := fun _ => Bool) false (fun _ t20 _ => f_c1 a19 (fun b => k (a0 :: a1 :: a2 :: a3 :: a4 :: a5 :: a6 :: a7 :: a8 :: a9 :: a10 :: a11 :: a12 :: a13 :: a14 :: a15 :: a16 :: a17 :: a18 :: b :: x :: t20))) t19) t18) t17) t16) t15) t14) t13) t12) t11) t10) t9) t8) t7) t6) t5) t4) t3) t2) t1) t0) l
theorem f_s20_eq {x : Option e_V} {l : e_A} {k : e_A → Bool} : f_s20 x l k = e_lst x l 20 k := by
  rcases l with _ | ⟨a0, (_ | ⟨a1, (_ | ⟨a2, (_ | ⟨a3, (_ | ⟨a4, (_ | ⟨a5, (_ | ⟨a6, (_ | ⟨a7, (_ | ⟨a8, (_ | ⟨a9, (_ | ⟨a10, (_ | ⟨a11, (_ | ⟨a12, (_ | ⟨a13, (_ | ⟨a14, (_ | ⟨a15, (_ | ⟨a16, (_ | ⟨a17, (_ | ⟨a18, (_ | ⟨a19, (_ | ⟨a20, l⟩)⟩)⟩)⟩)⟩)⟩)⟩)⟩)⟩)⟩)⟩)⟩)⟩)⟩)⟩)⟩)⟩)⟩)⟩)⟩)⟩ <;> first | rfl | exact f_c1_eq (a := a19) (k := fun b => k (a0 :: a1 :: a2 :: a3 :: a4 :: a5 :: a6 :: a7 :: a8 :: a9 :: a10 :: a11 :: a12 :: a13 :: a14 :: a15 :: a16 :: a17 :: a18 :: b :: x :: l))
noncomputable def f_s21 (x : Option e_V) (l : e_A) (k : e_A → Bool) : Bool := List.rec (motive := fun _ => Bool) false (fun a0 t0 _ => List.rec (motive := fun _ => Bool) false (fun a1 t1 _ => List.rec (motive := fun _ => Bool) false (fun a2 t2 _ => List.rec (motive := fun _ => Bool) false (fun a3 t3 _ => List.rec (motive := fun _ => Bool) false (fun a4 t4 _ => List.rec (motive := fun _ => Bool) false (fun a5 t5 _ => List.rec (motive := fun _ => Bool) false (fun a6 t6 _ => List.rec (motive := fun _ => Bool) false (fun a7 t7 _ => List.rec (motive := fun _ => Bool) false (fun a8 t8 _ => List.rec (motive := fun _ => Bool) false (fun a9 t9 _ => List.rec (motive := fun _ => Bool) false (fun a10 t10 _ => List.rec (motive := fun _ => Bool) false (fun a11 t11 _ => List.rec (motive := fun _ => Bool) false (fun a12 t12 _ => List.rec (motive := fun _ => Bool) false (fun a13 t13 _ => List.rec (motive := fun _ => Bool) false (fun a14 t14 _ => List.rec (motive := fun _ => Bool) false (fun a15 t15 _ => List.rec (motive := fun _ => Bool) false (fun a16 t16 _ => List.rec (motive := fun _ => Bool) false (fun a17 t17 _ => List.rec (motive := fun _ => Bool) false (fun a18 t18 _ => List.rec (motive := fun _ => Bool) false (fun a19 t19 _ => List.rec (motive := fun _ => Bool) false (fun a20 t20 _ => List.rec (motive := fun _ => Bool) false (fun _ t21 _ => f_c1 a20 (fun b => k (a0 :: a1 :: a2 :: a3 :: a4 :: a5 :: a6 :: a7 :: a8 :: a9 :: a10 :: a11 :: a12 :: a13 :: a14 :: a15 :: a16 :: a17 :: a18 :: a19 :: b :: x :: t21))) t20) t19) t18) t17) t16) t15) t14) t13) t12) t11) t10) t9) t8) t7) t6) t5) t4) t3) t2) t1) t0) l
theorem f_s21_eq {x : Option e_V} {l : e_A} {k : e_A → Bool} : f_s21 x l k = e_lst x l 21 k := by
  rcases l with _ | ⟨a0, (_ | ⟨a1, (_ | ⟨a2, (_ | ⟨a3, (_ | ⟨a4, (_ | ⟨a5, (_ | ⟨a6, (_ | ⟨a7, (_ | ⟨a8, (_ | ⟨a9, (_ | ⟨a10, (_ | ⟨a11, (_ | ⟨a12, (_ | ⟨a13, (_ | ⟨a14, (_ | ⟨a15, (_ | ⟨a16, (_ | ⟨a17, (_ | ⟨a18, (_ | ⟨a19, (_ | ⟨a20, (_ | ⟨a21, l⟩)⟩)⟩)⟩)⟩)⟩)⟩)⟩)⟩)⟩)⟩)⟩)⟩)⟩)⟩)⟩)⟩)⟩)⟩)⟩)⟩)⟩ <;> first | rfl | exact f_c1_eq (a := a20) (k := fun b => k (a0 :: a1 :: a2 :: a3 :: a4 :: a5 :: a6 :: a7 :: a8 :: a9 :: a10 :: a11 :: a12 :: a13 :: a14 :: a15 :: a16 :: a17 :: a18 :: a19 :: b :: x :: l))
noncomputable def f_s22 (x : Option e_V) (l : e_A) (k : e_A → Bool) : Bool := List.rec (motive := fun _ => Bool) false (fun a0 t0 _ => List.rec (motive := fun _ => Bool) false (fun a1 t1 _ => List.rec (motive := fun _ => Bool) false (fun a2 t2 _ => List.rec (motive := fun _ => Bool) false (fun a3 t3 _ => List.rec (motive := fun _ => Bool) false (fun a4 t4 _ => List.rec (motive := fun _ => Bool) false (fun a5 t5 _ => List.rec (motive := fun _ => Bool) false (fun a6 t6 _ => List.rec (motive := fun _ => Bool) false (fun a7 t7 _ => List.rec (motive := fun _ => Bool) false (fun a8 t8 _ => List.rec (motive := fun _ => Bool) false (fun a9 t9 _ => List.rec (motive := fun _ => Bool) false (fun a10 t10 _ => List.rec (motive := fun _ => Bool) false (fun a11 t11 _ => List.rec (motive := fun _ => Bool) false (fun a12 t12 _ => List.rec (motive := fun _ => Bool) false (fun a13 t13 _ => List.rec (motive := fun _ => Bool) false (fun a14 t14 _ => List.rec (motive := fun _ => Bool) false (fun a15 t15 _ => List.rec (motive := fun _ => Bool) false (fun a16 t16 _ => List.rec (motive := fun _ => Bool) false (fun a17 t17 _ => List.rec (motive := fun _ => Bool) false (fun a18 t18 _ => List.rec (motive := fun _ => Bool) false (fun a19 t19 _ => List.rec (motive := fun _ => Bool) false (fun a20 t20 _ => List.rec (motive := fun _ => Bool) false (fun a21 t21 _ => List.rec (motive := fun _ => Bool) false (fun _ t22 _ => f_c1 a21 (fun b => k (a0 :: a1 :: a2 :: a3 :: a4 :: a5 :: a6 :: a7 :: a8 :: a9 :: a10 :: a11 :: a12 :: a13 :: a14 :: a15 :: a16 :: a17 :: a18 :: a19 :: a20 :: b :: x :: t22))) t21) t20) t19) t18) t17) t16) t15) t14) t13) t12) t11) t10) t9) t8) t7) t6) t5) t4) t3) t2) t1) t0) l
theorem f_s22_eq {x : Option e_V} {l : e_A} {k : e_A → Bool} : f_s22 x l k = e_lst x l 22 k := by
  rcases l with _ | ⟨a0, (_ | ⟨a1, (_ | ⟨a2, (_ | ⟨a3, (_ | ⟨a4, (_ | ⟨a5, (_ | ⟨a6, (_ | ⟨a7, (_ | ⟨a8, (_ | ⟨a9, (_ | ⟨a10, (_ | ⟨a11, (_ | ⟨a12, (_ | ⟨a13, (_ | ⟨a14, (_ | ⟨a15, (_ | ⟨a16, (_ | ⟨a17, (_ | ⟨a18, (_ | ⟨a19, (_ | ⟨a20, (_ | ⟨a21, (_ | ⟨a22, l⟩)⟩)⟩)⟩)⟩)⟩)⟩)⟩)⟩)⟩)⟩)⟩)⟩)⟩)⟩)⟩)⟩)⟩)⟩)⟩)⟩)⟩)⟩ <;> first | rfl | exact f_c1_eq (a := a21) (k := fun b => k (a0 :: a1 :: a2 :: a3 :: a4 :: a5 :: a6 :: a7 :: a8 :: a9 :: a10 :: a11 :: a12 :: a13 :: a14 :: a15 :: a16 :: a17 :: a18 :: a19 :: a20 :: b :: x :: l))
noncomputable def f_s23 (x : Option e_V) (l : e_A) (k : e_A → Bool) : Bool := List.rec (motive := fun _ => Bool) false (fun a0 t0 _ => List.rec (motive := fun _ => Bool) false (fun a1 t1 _ => List.rec (motive := fun _ => Bool) false (fun a2 t2 _ => List.rec (motive := fun _ => Bool) false (fun a3 t3 _ => List.rec (motive := fun _ => Bool) false (fun a4 t4 _ => List.rec (motive := fun _ => Bool) false (fun a5 t5 _ => List.rec (motive := fun _ => Bool) false (fun a6 t6 _ => List.rec (motive := fun _ => Bool) false (fun a7 t7 _ => List.rec (motive := fun _ => Bool) false (fun a8 t8 _ => List.rec (motive := fun _ => Bool) false (fun a9 t9 _ => List.rec (motive := fun _ => Bool) false (fun a10 t10 _ => List.rec (motive := fun _ => Bool) false (fun a11 t11 _ => List.rec (motive := fun _ => Bool) false (fun a12 t12 _ => List.rec (motive := fun _ => Bool) false (fun a13 t13 _ => List.rec (motive := fun _ => Bool) false (fun a14 t14 _ => List.rec (motive := fun _ => Bool) false (fun a15 t15 _ => List.rec (motive := fun _ => Bool) false (fun a16 t16 _ => List.rec (motive := fun _ => Bool) false (fun a17 t17 _ => List.rec (motive := fun _ => Bool) false (fun a18 t18 _ => List.rec (motive := fun _ => Bool) false (fun a19 t19 _ => List.rec (motive := fun _ => Bool) false (fun a20 t20 _ => List.rec (motive := fun _ => Bool) false (fun a21 t21 _ => List.rec (motive := fun _ => Bool) false (fun a22 t22 _ => List.rec (motive := fun _ => Bool) false (fun _ t23 _ => f_c1 a22 (fun b => k (a0 :: a1 :: a2 :: a3 :: a4 :: a5 :: a6 :: a7 :: a8 :: a9 :: a10 :: a11 :: a12 :: a13 :: a14 :: a15 :: a16 :: a17 :: a18 :: a19 :: a20 :: a21 :: b :: x :: t23))) t22) t21) t20) t19) t18) t17) t16) t15) t14) t13) t12) t11) t10) t9) t8) t7) t6) t5) t4) t3) t2) t1) t0) l
theorem f_s23_eq {x : Option e_V} {l : e_A} {k : e_A → Bool} : f_s23 x l k = e_lst x l 23 k := by
  rcases l with _ | ⟨a0, (_ | ⟨a1, (_ | ⟨a2, (_ | ⟨a3, (_ | ⟨a4, (_ | ⟨a5, (_ | ⟨a6, (_ | ⟨a7, (_ | ⟨a8, (_ | ⟨a9, (_ | ⟨a10, (_ | ⟨a11, (_ | ⟨a12, (_ | ⟨a13, (_ | ⟨a14, (_ | ⟨a15, (_ | ⟨a16, (_ | ⟨a17, (_ | ⟨a18, (_ | ⟨a19, (_ | ⟨a20, (_ | ⟨a21, (_ | ⟨a22, (_ | ⟨a23, l⟩)⟩)⟩)⟩)⟩)⟩)⟩)⟩)⟩)⟩)⟩)⟩)⟩)⟩)⟩)⟩)⟩)⟩)⟩)⟩)⟩)⟩)⟩)⟩ <;> first | rfl | exact f_c1_eq (a := a22) (k := fun b => k (a0 :: a1 :: a2 :: a3 :: a4 :: a5 :: a6 :: a7 :: a8 :: a9 :: a10 :: a11 :: a12 :: a13 :: a14 :: a15 :: a16 :: a17 :: a18 :: a19 :: a20 :: a21 :: b :: x :: l))
noncomputable def u_st (ok : e_V → Bool) (S : Option e_V → e_A → (e_A → Bool) → Bool) (nxt : e_Y) : e_Y := fun X ls st => List.rec (motive := fun _ => Bool) false (fun v r _ => Bool.rec (motive := fun _ => Bool) false (S (some v) ls (fun l2 => nxt X l2 r)) (ok v)) st
theorem u_st_eq {ok ok2 : e_V → Bool} (hok : ∀ v, ok v = ok2 v) {S : Option e_V → e_A → (e_A → Bool) → Bool} {n nx : Nat} (hS : ∀ x l k, S x l k = e_lst x l n k) {nxt : e_Y} (g : e_G) (F : e_F) (ls : e_A) (st : List e_V) (w : e_W) (c : e_Q) (K : e_K) : e_un (u_st ok S nxt) g F ls st w c K = o_store ok2 n nx (e_k (e_un nxt) g) F ls st w c K := by
  unfold o_store e_un u_st
  rcases st with _ | ⟨v, r⟩
  · rfl
  · dsimp only
    rw [hok, hS]
    cases ok2 v <;> rfl
theorem u_stIT {S : Option e_V → e_A → (e_A → Bool) → Bool} {n nx : Nat} {nxt : e_Y} (hS : ∀ x l k, S x l k = e_lst x l n k) (ho : e_Sn M pc (o_store e_okI n nx)) (hn : e_Sn M nx (e_un nxt)) : e_Sn M pc (e_un (u_st f_okI S nxt)) := e_thr ho hn e_congr_store (u_st_eq (fun _ => f_okI_eq) hS)
theorem u_stAT {S : Option e_V → e_A → (e_A → Bool) → Bool} {n nx : Nat} {nxt : e_Y} (hS : ∀ x l k, S x l k = e_lst x l n k) (ho : e_Sn M pc (o_store e_okR n nx)) (hn : e_Sn M nx (e_un nxt)) : e_Sn M pc (e_un (u_st f_okA S nxt)) := e_thr ho hn e_congr_store (u_st_eq (fun _ => f_okA_eq) hS)
noncomputable def u_in1 (S : Option e_V → e_A → (e_A → Bool) → Bool) (d : Nat) (nxt : e_Y) (X : e_P) (ls : e_A) (st : List e_V) (v : e_V) : Bool := Sum.rec (motive := fun _ => Bool) (fun m => f_fo (Nat.mod (Nat.add m d) 4294967296) (fun z => S (some (.inl z)) ls (fun l2 => nxt X l2 st))) (fun _ => false) v
noncomputable def u_inc (f : e_A → Option e_V) (S : Option e_V → e_A → (e_A → Bool) → Bool) (d : Nat) (nxt : e_Y) : e_Y := fun X ls st => Option.rec (motive := fun _ => Bool) false (fun v => u_in1 S d nxt X ls st v) (f ls)
theorem u_incT {f : e_A → Option e_V} {S : Option e_V → e_A → (e_A → Bool) → Bool} {n d nx : Nat} {nxt : e_Y} (hf : ∀ l, some (f l) = e_nth l n ∨ f l = none ∧ e_nth l n = none) (hS : ∀ x l k, S x l k = e_lst x l n k) (ho : e_Sn M pc (o_iinc n d nx)) (hn : e_Sn M nx (e_un nxt)) : e_Sn M pc (e_un (u_inc f S d nxt)) := e_thr ho hn e_congr_iinc (fun g F ls st w c K => by
  have e1 : o_iinc n d nx (e_k (e_un nxt) g) F ls st w c K = (match e_nth ls n with
    | some (some v) => (match v with
      | .inl m => e_fo ((m + d) % 4294967296) (fun z => e_lst (some (.inl z)) ls n (fun l2 => nxt (g, F, w, c, K) l2 st))
      | _ => false)
    | _ => false) := by
    unfold o_iinc
    rcases e_nth ls n with _ | _ | v
    · rfl
    · rfl
    · rcases v with m | v <;> rfl
  rw [e1, ← f_nv_load (hf ls) false (fun v => match v with
    | .inl m => e_fo ((m + d) % 4294967296) (fun z => e_lst (some (.inl z)) ls n (fun l2 => nxt (g, F, w, c, K) l2 st))
    | _ => false)]
  unfold e_un u_inc
  cases f ls with
  | none => rfl
  | some v =>
    rcases v with m | v
    · dsimp only [u_in1]
      rw [f_fo_eq]
      congr 1
      funext z
      rw [hS]
    · rfl)
noncomputable def u_b1 (op : Nat → Nat → Nat) (slow : e_Y) (nxt : e_Y) (X : e_P) (ls : e_A) (st r : List e_V) (a b : e_V) : Bool := Sum.rec (motive := fun _ => Bool) (fun n => Sum.rec (motive := fun _ => Bool) (fun m => f_fo (op m n) (fun z => nxt X ls (.inl z :: r))) (fun _ => slow X ls st) a) (fun _ => slow X ls st) b
noncomputable def u_bin (op : Nat → Nat → Nat) (slow : e_Y) (nxt : e_Y) : e_Y := fun X ls st => List.rec (motive := fun _ => Bool) (slow X ls st) (fun b r1 _ => List.rec (motive := fun _ => Bool) (slow X ls st) (fun a r _ => u_b1 op slow nxt X ls st r a b) r1) st
theorem u_bin_eq {op : Nat → Nat → Nat} {o : e_O} {nxt : e_Y} (h : ∀ (g : e_G) (F : e_F) (ls : e_A) (r : List e_V) (w : e_W) (c : e_Q) (K : e_K) (m n : Nat), o (e_k (e_un nxt) g) F ls (.inl n :: .inl m :: r) w c K = e_fo (op m n) (fun z => nxt (g, F, w, c, K) ls (.inl z :: r))) (g : e_G) (F : e_F) (ls : e_A) (st : List e_V) (w : e_W) (c : e_Q) (K : e_K) : e_un (u_bin op (u_old o nxt) nxt) g F ls st w c K = o (e_k (e_un nxt) g) F ls st w c K := by
  rcases st with _ | ⟨b, r1⟩
  · rfl
  · rcases r1 with _ | ⟨a, r⟩
    · rfl
    · rcases b with n | b
      · rcases a with m | a
        · rw [h]; exact f_fo_eq (n := op m n) (k := fun z => nxt (g, F, w, c, K) ls (.inl z :: r))
        · rfl
      · rfl
theorem e_congr_iadd {nx : Nat} (g1 g2 : e_G) (F : e_F) (ls : e_A) (st : List e_V) (w : e_W) (c : e_Q) (K : e_K) (h : g1 F nx = g2 F nx) : o_iadd nx g1 F ls st w c K = o_iadd nx g2 F ls st w c K := by unfold o_iadd; simp only [h]
noncomputable def a_iadd (m n : Nat) : Nat := Nat.mod (Nat.add (Nat.add m n) 2147483648) 4294967296
theorem u_iaddT {nx : Nat} {nxt : e_Y} (ho : e_Sn M pc (o_iadd nx)) (hn : e_Sn M nx (e_un nxt)) : e_Sn M pc (e_un (u_bin a_iadd (u_old (o_iadd nx) nxt) nxt)) := e_thr ho hn e_congr_iadd (u_bin_eq (fun g F ls r w c K m n => by
  unfold o_iadd a_iadd
  rfl))
theorem e_congr_isub {nx : Nat} (g1 g2 : e_G) (F : e_F) (ls : e_A) (st : List e_V) (w : e_W) (c : e_Q) (K : e_K) (h : g1 F nx = g2 F nx) : o_isub nx g1 F ls st w c K = o_isub nx g2 F ls st w c K := by unfold o_isub; simp only [h]
noncomputable def a_isub (m n : Nat) : Nat := Nat.mod (Nat.sub (Nat.add m 6442450944) n) 4294967296
theorem u_isubT {nx : Nat} {nxt : e_Y} (ho : e_Sn M pc (o_isub nx)) (hn : e_Sn M nx (e_un nxt)) : e_Sn M pc (e_un (u_bin a_isub (u_old (o_isub nx) nxt) nxt)) := e_thr ho hn e_congr_isub (u_bin_eq (fun g F ls r w c K m n => by
  unfold o_isub a_isub
  rfl))
theorem e_congr_imul {nx : Nat} (g1 g2 : e_G) (F : e_F) (ls : e_A) (st : List e_V) (w : e_W) (c : e_Q) (K : e_K) (h : g1 F nx = g2 F nx) : o_imul nx g1 F ls st w c K = o_imul nx g2 F ls st w c K := by unfold o_imul; simp only [h]
noncomputable def a_imul (m n : Nat) : Nat := e_u (Nat.mod (Nat.mul (e_u m) (e_u n)) 4294967296)
theorem u_imulT {nx : Nat} {nxt : e_Y} (ho : e_Sn M pc (o_imul nx)) (hn : e_Sn M nx (e_un nxt)) : e_Sn M pc (e_un (u_bin a_imul (u_old (o_imul nx) nxt) nxt)) := e_thr ho hn e_congr_imul (u_bin_eq (fun g F ls r w c K m n => by
  unfold o_imul a_imul
  rfl))
theorem e_congr_iushr {nx : Nat} (g1 g2 : e_G) (F : e_F) (ls : e_A) (st : List e_V) (w : e_W) (c : e_Q) (K : e_K) (h : g1 F nx = g2 F nx) : o_iushr nx g1 F ls st w c K = o_iushr nx g2 F ls st w c K := by unfold o_iushr; simp only [h]
noncomputable def a_iushr (m n : Nat) : Nat := e_u (Nat.div (e_u m) (Nat.pow 2 (Nat.mod (e_u n) 32)))
theorem u_iushrT {nx : Nat} {nxt : e_Y} (ho : e_Sn M pc (o_iushr nx)) (hn : e_Sn M nx (e_un nxt)) : e_Sn M pc (e_un (u_bin a_iushr (u_old (o_iushr nx) nxt) nxt)) := e_thr ho hn e_congr_iushr (u_bin_eq (fun g F ls r w c K m n => by
  unfold o_iushr a_iushr
  rfl))
theorem e_congr_ishl {nx : Nat} (g1 g2 : e_G) (F : e_F) (ls : e_A) (st : List e_V) (w : e_W) (c : e_Q) (K : e_K) (h : g1 F nx = g2 F nx) : o_ishl nx g1 F ls st w c K = o_ishl nx g2 F ls st w c K := by unfold o_ishl; simp only [h]
noncomputable def a_ishl (m n : Nat) : Nat := e_u (Nat.mod (Nat.mul (e_u m) (Nat.pow 2 (Nat.mod (e_u n) 32))) 4294967296)
theorem u_ishlT {nx : Nat} {nxt : e_Y} (ho : e_Sn M pc (o_ishl nx)) (hn : e_Sn M nx (e_un nxt)) : e_Sn M pc (e_un (u_bin a_ishl (u_old (o_ishl nx) nxt) nxt)) := e_thr ho hn e_congr_ishl (u_bin_eq (fun g F ls r w c K m n => by
  unfold o_ishl a_ishl
  rfl))
theorem e_congr_bin {op : Nat → Nat → Nat} {nx : Nat} (g1 g2 : e_G) (F : e_F) (ls : e_A) (st : List e_V) (w : e_W) (c : e_Q) (K : e_K) (h : g1 F nx = g2 F nx) : o_bin op nx g1 F ls st w c K = o_bin op nx g2 F ls st w c K := by unfold o_bin; simp only [h]
noncomputable def a_iand (m n : Nat) : Nat := e_u (Nat.mod (Nat.land (e_u m) (e_u n)) 4294967296)
theorem u_iandT {nx : Nat} {nxt : e_Y} (ho : e_Sn M pc (o_bin Nat.land nx)) (hn : e_Sn M nx (e_un nxt)) : e_Sn M pc (e_un (u_bin a_iand (u_old (o_bin Nat.land nx) nxt) nxt)) := e_thr ho hn e_congr_bin (u_bin_eq (fun g F ls r w c K m n => by
  unfold o_bin a_iand
  rfl))
noncomputable def a_ior (m n : Nat) : Nat := e_u (Nat.mod (Nat.lor (e_u m) (e_u n)) 4294967296)
theorem u_iorT {nx : Nat} {nxt : e_Y} (ho : e_Sn M pc (o_bin Nat.lor nx)) (hn : e_Sn M nx (e_un nxt)) : e_Sn M pc (e_un (u_bin a_ior (u_old (o_bin Nat.lor nx) nxt) nxt)) := e_thr ho hn e_congr_bin (u_bin_eq (fun g F ls r w c K m n => by
  unfold o_bin a_ior
  rfl))
noncomputable def a_ixor (m n : Nat) : Nat := e_u (Nat.mod (Nat.xor (e_u m) (e_u n)) 4294967296)
theorem u_ixorT {nx : Nat} {nxt : e_Y} (ho : e_Sn M pc (o_bin Nat.xor nx)) (hn : e_Sn M nx (e_un nxt)) : e_Sn M pc (e_un (u_bin a_ixor (u_old (o_bin Nat.xor nx) nxt) nxt)) := e_thr ho hn e_congr_bin (u_bin_eq (fun g F ls r w c K m n => by
  unfold o_bin a_ixor
  rfl))
theorem e_k2_t {tg : Nat} {nt nn : e_O} {g : e_G} {F : e_F} : e_k2 tg nt nn g F tg = nt g F := by unfold e_k2; rw [Nat.beq_refl]; rfl
theorem e_k2_n {tg nx : Nat} {nt nn : e_O} {g : e_G} {F : e_F} (h : Nat.beq nx tg = false) : e_k2 tg nt nn g F nx = nn g F := by unfold e_k2; rw [h]; rfl
/-- less, by ble the other way round -/
theorem e_lt_I {m n : Nat} {t f : Bool} : e_lt (some (m, m)) (some (n, n)) t f = Bool.rec (motive := fun _ => Bool) t f (Nat.ble n m) := by
  unfold e_lt
  dsimp only
  cases hc : Nat.ble n m with
  | true =>
    have h3 := Nat.le_of_ble_eq_true hc
    have h1 : Nat.blt m n = false := by
      cases hb : Nat.blt m n with
      | false => rfl
      | true =>
        have h2 : m < n := Nat.le_of_ble_eq_true hb
        omega
    rw [h1]
    rfl
  | false =>
    have h1 : Nat.blt m n = true := by
      apply Nat.ble_eq_true_of_le
      have h3 : ¬ n ≤ m := fun h => by rw [Nat.ble_eq_true_of_le h] at hc; cases hc
      omega
    rw [h1]
    rfl
theorem e_eq_I {m n : Nat} {t f : Bool} : e_eq (some (m, m)) (some (n, n)) t f = Bool.rec (motive := fun _ => Bool) f t (Nat.beq m n) := by
  unfold e_eq
  dsimp only
  cases hb : Nat.beq m n with
  | true =>
    obtain rfl := Nat.eq_of_beq_eq_true hb
    have h1 : Nat.blt m m = false := by
      cases hc : Nat.blt m m with
      | false => rfl
      | true => exact absurd (show m < m from Nat.le_of_ble_eq_true hc) (Nat.lt_irrefl m)
    rw [h1, Nat.beq_refl]
    rfl
  | false =>
    have hne : m ≠ n := fun h => by rw [h, Nat.beq_refl] at hb; cases hb
    have h1 : (Nat.blt m n || Nat.blt n m) = true := by
      rcases Nat.lt_or_gt_of_ne hne with h | h
      · rw [show Nat.blt m n = true from Nat.ble_eq_true_of_le h]; rfl
      · rw [show Nat.blt n m = true from Nat.ble_eq_true_of_le h, Bool.or_true]
    rw [h1]
    rfl
noncomputable def u_j1 (t : Nat → Nat → Bool) (slow : e_Y) (nt nn : e_Y) (X : e_P) (ls : e_A) (st r : List e_V) (a b : e_V) : Bool := Sum.rec (motive := fun _ => Bool) (fun n => Sum.rec (motive := fun _ => Bool) (fun m => Bool.rec (motive := fun _ => Bool) (nt X ls r) (nn X ls r) (t m n)) (fun _ => slow X ls st) a) (fun _ => slow X ls st) b
/-- to nt where t says false -/
noncomputable def u_jmp (t : Nat → Nat → Bool) (slow : e_Y) (nt nn : e_Y) : e_Y := fun X ls st => List.rec (motive := fun _ => Bool) (slow X ls st) (fun b r1 _ => List.rec (motive := fun _ => Bool) (slow X ls st) (fun a r _ => u_j1 t slow nt nn X ls st r a b) r1) st
theorem u_jmp_eq {t : Nat → Nat → Bool} {o : e_O} {tg : Nat} {nt nn : e_Y} (h : ∀ (g : e_G) (F : e_F) (ls : e_A) (r : List e_V) (w : e_W) (c : e_Q) (K : e_K) (m n : Nat), o (e_k2 tg (e_un nt) (e_un nn) g) F ls (.inl n :: .inl m :: r) w c K = Bool.rec (motive := fun _ => Bool) (nt (g, F, w, c, K) ls r) (nn (g, F, w, c, K) ls r) (t m n)) (g : e_G) (F : e_F) (ls : e_A) (st : List e_V) (w : e_W) (c : e_Q) (K : e_K) : e_un (u_jmp t (u_old2 o tg nt nn) nt nn) g F ls st w c K = o (e_k2 tg (e_un nt) (e_un nn) g) F ls st w c K := by
  rcases st with _ | ⟨b, r1⟩
  · rfl
  · rcases r1 with _ | ⟨a, r⟩
    · rfl
    · rcases b with n | b
      · rcases a with m | a
        · rw [h]; rfl
        · rfl
      · rfl
noncomputable def u_j0 (t : Nat → Bool) (slow : e_Y) (nt nn : e_Y) (X : e_P) (ls : e_A) (st r : List e_V) (a : e_V) : Bool := Sum.rec (motive := fun _ => Bool) (fun m => Bool.rec (motive := fun _ => Bool) (nt X ls r) (nn X ls r) (t m)) (fun _ => slow X ls st) a
noncomputable def u_if (t : Nat → Bool) (slow : e_Y) (nt nn : e_Y) : e_Y := fun X ls st => List.rec (motive := fun _ => Bool) (slow X ls st) (fun a r _ => u_j0 t slow nt nn X ls st r a) st
theorem u_if_eq {t : Nat → Bool} {o : e_O} {tg : Nat} {nt nn : e_Y} (h : ∀ (g : e_G) (F : e_F) (ls : e_A) (r : List e_V) (w : e_W) (c : e_Q) (K : e_K) (m : Nat), o (e_k2 tg (e_un nt) (e_un nn) g) F ls (.inl m :: r) w c K = Bool.rec (motive := fun _ => Bool) (nt (g, F, w, c, K) ls r) (nn (g, F, w, c, K) ls r) (t m)) (g : e_G) (F : e_F) (ls : e_A) (st : List e_V) (w : e_W) (c : e_Q) (K : e_K) : e_un (u_if t (u_old2 o tg nt nn) nt nn) g F ls st w c K = o (e_k2 tg (e_un nt) (e_un nn) g) F ls st w c K := by
  rcases st with _ | ⟨a, r⟩
  · rfl
  · rcases a with m | a
    · rw [h]; rfl
    · rfl
noncomputable def y_ge (m n : Nat) : Bool := Nat.ble n m
noncomputable def y_le (m n : Nat) : Bool := Nat.ble m n
noncomputable def y_ne (m n : Nat) : Bool := Bool.rec (motive := fun _ => Bool) true false (Nat.beq m n)
noncomputable def y_ge0 (m : Nat) : Bool := Nat.ble 2147483648 m
noncomputable def y_le0 (m : Nat) : Bool := Nat.ble m 2147483648
noncomputable def y_ne0 (m : Nat) : Bool := Bool.rec (motive := fun _ => Bool) true false (Nat.beq m 2147483648)
theorem e_flip {b x y : Bool} : Bool.rec (motive := fun _ => Bool) x y b = Bool.rec (motive := fun _ => Bool) y x (Bool.rec (motive := fun _ => Bool) true false b) := by cases b <;> rfl
theorem e_congr_clt {tg nx : Nat} (g1 g2 : e_G) (F : e_F) (ls : e_A) (st : List e_V) (w : e_W) (c : e_Q) (K : e_K) (h1 : g1 F tg = g2 F tg) (h2 : g1 F nx = g2 F nx) : o_clt tg nx g1 F ls st w c K = o_clt tg nx g2 F ls st w c K := by unfold o_clt; simp only [h1, h2]
theorem u_cltT {tg nx : Nat} {nt nn : e_Y} (hne : Nat.beq nx tg = false) (ho : e_Sn M pc (o_clt tg nx)) (ht : e_Sn M tg (e_un nt)) (hn : e_Sn M nx (e_un nn)) : e_Sn M pc (e_un (u_jmp y_ge (u_old2 (o_clt tg nx) tg nt nn) nt nn)) := e_thr2 hne ho ht hn e_congr_clt (u_jmp_eq (fun g F ls r w c K m n => by
  unfold o_clt
  dsimp only
  rw [e_k2_t, e_k2_n hne]
  exact e_lt_I.trans rfl))
theorem e_congr_cgt {tg nx : Nat} (g1 g2 : e_G) (F : e_F) (ls : e_A) (st : List e_V) (w : e_W) (c : e_Q) (K : e_K) (h1 : g1 F tg = g2 F tg) (h2 : g1 F nx = g2 F nx) : o_cgt tg nx g1 F ls st w c K = o_cgt tg nx g2 F ls st w c K := by unfold o_cgt; simp only [h1, h2]
theorem u_cgtT {tg nx : Nat} {nt nn : e_Y} (hne : Nat.beq nx tg = false) (ho : e_Sn M pc (o_cgt tg nx)) (ht : e_Sn M tg (e_un nt)) (hn : e_Sn M nx (e_un nn)) : e_Sn M pc (e_un (u_jmp y_le (u_old2 (o_cgt tg nx) tg nt nn) nt nn)) := e_thr2 hne ho ht hn e_congr_cgt (u_jmp_eq (fun g F ls r w c K m n => by
  unfold o_cgt
  dsimp only
  rw [e_k2_t, e_k2_n hne]
  exact e_lt_I.trans rfl))
theorem e_congr_ceq {tg nx : Nat} (g1 g2 : e_G) (F : e_F) (ls : e_A) (st : List e_V) (w : e_W) (c : e_Q) (K : e_K) (h1 : g1 F tg = g2 F tg) (h2 : g1 F nx = g2 F nx) : o_ceq tg nx g1 F ls st w c K = o_ceq tg nx g2 F ls st w c K := by unfold o_ceq; simp only [h1, h2]
theorem u_ceqT {tg nx : Nat} {nt nn : e_Y} (hne : Nat.beq nx tg = false) (ho : e_Sn M pc (o_ceq tg nx)) (ht : e_Sn M tg (e_un nt)) (hn : e_Sn M nx (e_un nn)) : e_Sn M pc (e_un (u_jmp y_ne (u_old2 (o_ceq tg nx) tg nt nn) nt nn)) := e_thr2 hne ho ht hn e_congr_ceq (u_jmp_eq (fun g F ls r w c K m n => by
  unfold o_ceq
  dsimp only
  rw [e_k2_t, e_k2_n hne]
  exact e_eq_I.trans e_flip))
theorem e_congr_iflt {tg nx : Nat} (g1 g2 : e_G) (F : e_F) (ls : e_A) (st : List e_V) (w : e_W) (c : e_Q) (K : e_K) (h1 : g1 F tg = g2 F tg) (h2 : g1 F nx = g2 F nx) : o_iflt tg nx g1 F ls st w c K = o_iflt tg nx g2 F ls st w c K := by unfold o_iflt; simp only [h1, h2]
theorem u_ifltT {tg nx : Nat} {nt nn : e_Y} (hne : Nat.beq nx tg = false) (ho : e_Sn M pc (o_iflt tg nx)) (ht : e_Sn M tg (e_un nt)) (hn : e_Sn M nx (e_un nn)) : e_Sn M pc (e_un (u_if y_ge0 (u_old2 (o_iflt tg nx) tg nt nn) nt nn)) := e_thr2 hne ho ht hn e_congr_iflt (u_if_eq (fun g F ls r w c K m => by
  unfold o_iflt
  dsimp only
  rw [e_k2_t, e_k2_n hne]
  exact e_lt_I.trans rfl))
theorem e_congr_ifgt {tg nx : Nat} (g1 g2 : e_G) (F : e_F) (ls : e_A) (st : List e_V) (w : e_W) (c : e_Q) (K : e_K) (h1 : g1 F tg = g2 F tg) (h2 : g1 F nx = g2 F nx) : o_ifgt tg nx g1 F ls st w c K = o_ifgt tg nx g2 F ls st w c K := by unfold o_ifgt; simp only [h1, h2]
theorem u_ifgtT {tg nx : Nat} {nt nn : e_Y} (hne : Nat.beq nx tg = false) (ho : e_Sn M pc (o_ifgt tg nx)) (ht : e_Sn M tg (e_un nt)) (hn : e_Sn M nx (e_un nn)) : e_Sn M pc (e_un (u_if y_le0 (u_old2 (o_ifgt tg nx) tg nt nn) nt nn)) := e_thr2 hne ho ht hn e_congr_ifgt (u_if_eq (fun g F ls r w c K m => by
  unfold o_ifgt
  dsimp only
  rw [e_k2_t, e_k2_n hne]
  exact e_lt_I.trans rfl))
theorem e_congr_ifeq {tg nx : Nat} (g1 g2 : e_G) (F : e_F) (ls : e_A) (st : List e_V) (w : e_W) (c : e_Q) (K : e_K) (h1 : g1 F tg = g2 F tg) (h2 : g1 F nx = g2 F nx) : o_ifeq tg nx g1 F ls st w c K = o_ifeq tg nx g2 F ls st w c K := by unfold o_ifeq; simp only [h1, h2]
theorem u_ifeqT {tg nx : Nat} {nt nn : e_Y} (hne : Nat.beq nx tg = false) (ho : e_Sn M pc (o_ifeq tg nx)) (ht : e_Sn M tg (e_un nt)) (hn : e_Sn M nx (e_un nn)) : e_Sn M pc (e_un (u_if y_ne0 (u_old2 (o_ifeq tg nx) tg nt nn) nt nn)) := e_thr2 hne ho ht hn e_congr_ifeq (u_if_eq (fun g F ls r w c K m => by
  unfold o_ifeq
  dsimp only
  rw [e_k2_t, e_k2_n hne]
  exact e_eq_I.trans e_flip))
theorem e_congr_i2l {nx : Nat} (g1 g2 : e_G) (F : e_F) (ls : e_A) (st : List e_V) (w : e_W) (c : e_Q) (K : e_K) (h : g1 F nx = g2 F nx) : o_i2l nx g1 F ls st w c K = o_i2l nx g2 F ls st w c K := by unfold o_i2l; simp only [h]
theorem e_congr_pop {nx : Nat} (g1 g2 : e_G) (F : e_F) (ls : e_A) (st : List e_V) (w : e_W) (c : e_Q) (K : e_K) (h : g1 F nx = g2 F nx) : o_pop nx g1 F ls st w c K = o_pop nx g2 F ls st w c K := by unfold o_pop; simp only [h]
noncomputable def u_pop (nxt : e_Y) : e_Y := fun X ls st => List.rec (motive := fun _ => Bool) false (fun v r _ => f_w1 v (nxt X ls r) false) st
theorem u_popT {nx : Nat} {nxt : e_Y} (ho : e_Sn M pc (o_pop nx)) (hn : e_Sn M nx (e_un nxt)) : e_Sn M pc (e_un (u_pop nxt)) := e_thr ho hn e_congr_pop (fun g F ls st w c K => by
  rcases st with _ | ⟨b, r⟩
  · rfl
  · exact f_w1_eq)
noncomputable def f_tg0 (w : e_T 0) (_ : Nat) : e_C := w
noncomputable def f_tp0 (x : e_C) (_ : e_T 0) (_ : Nat) (k : e_T 0 → Bool) : Bool := k x
theorem f_tg0_eq (w : e_T 0) (j : Nat) : f_tg0 w j = e_tget 0 w (j % 1) := rfl
theorem f_tp0_eq (x : e_C) (w : e_T 0) (j : Nat) (k : e_T 0 → Bool) : f_tp0 x w j k = e_tput x 0 w (j % 1) k := rfl
noncomputable def f_tg1 (w : e_T 1) (i : Nat) : e_C := Prod.rec (motive := fun _ => e_C) (fun a b => Nat.rec (motive := fun _ => e_C) (f_tg0 a i) (fun _ _ => f_tg0 b i) (Nat.mod (Nat.div i 1) 2)) (show e_T 0 × e_T 0 from w)
set_option maxRecDepth 20000 in
theorem f_tg1_eq (w : e_T 1) (j : Nat) : f_tg1 w j = e_tget 1 w (j % 2) := by
  obtain ⟨a, b⟩ := (show e_T 0 × e_T 0 from w)
  show (Nat.rec (motive := fun _ => e_C) (f_tg0 a j) (fun _ _ => f_tg0 b j) ((j / 1) % 2) : e_C) = bif Nat.blt (j % 2) (2 ^ 0) then e_tget 0 a (j % 2) else e_tget 0 b (j % 2 - 2 ^ 0)
  rw [f_tg0_eq, f_tg0_eq, show 2 ^ 0 = 1 from rfl]
  rcases Nat.mod_two_eq_zero_or_one (j / 1) with h | h
  · have h1 : j % 2 < 1 ∧ j % 2 = j % 1 := by omega
    rw [h, show Nat.blt (j % 2) 1 = true from Nat.ble_eq_true_of_le h1.1, cond_true, ← h1.2]
    rfl
  · have h1 : ¬ j % 2 < 1 ∧ j % 2 - 1 = j % 1 := by omega
    have h2 : Nat.blt (j % 2) 1 = false := by
      cases hb : Nat.blt (j % 2) 1 with
      | false => rfl
      | true => exact absurd (Nat.le_of_ble_eq_true hb) h1.1
    rw [h, h2, cond_false, ← h1.2]
    rfl
noncomputable def f_tp1 (x : e_C) (w : e_T 1) (i : Nat) (k : e_T 1 → Bool) : Bool := Prod.rec (motive := fun _ => Bool) (fun a b => Nat.rec (motive := fun _ => Bool) (f_tp0 x a i (fun a2 => k (show e_T 1 from ((a2, b) : e_T 0 × e_T 0)))) (fun _ _ => f_tp0 x b i (fun b2 => k (show e_T 1 from ((a, b2) : e_T 0 × e_T 0)))) (Nat.mod (Nat.div i 1) 2)) (show e_T 0 × e_T 0 from w)
set_option maxRecDepth 20000 in
theorem f_tp1_eq (x : e_C) (w : e_T 1) (j : Nat) (k : e_T 1 → Bool) : f_tp1 x w j k = e_tput x 1 w (j % 2) k := by
  obtain ⟨a, b⟩ := (show e_T 0 × e_T 0 from w)
  show (Nat.rec (motive := fun _ => Bool) (f_tp0 x a j (fun a2 => k (show e_T 1 from ((a2, b) : e_T 0 × e_T 0)))) (fun _ _ => f_tp0 x b j (fun b2 => k (show e_T 1 from ((a, b2) : e_T 0 × e_T 0)))) ((j / 1) % 2) : Bool) = bif Nat.blt (j % 2) (2 ^ 0) then e_tput x 0 a (j % 2) (fun a2 => k (show e_T 1 from ((a2, b) : e_T 0 × e_T 0))) else e_tput x 0 b (j % 2 - 2 ^ 0) (fun b2 => k (show e_T 1 from ((a, b2) : e_T 0 × e_T 0)))
  rw [f_tp0_eq, f_tp0_eq, show 2 ^ 0 = 1 from rfl]
  rcases Nat.mod_two_eq_zero_or_one (j / 1) with h | h
  · have h1 : j % 2 < 1 ∧ j % 2 = j % 1 := by omega
    rw [h, show Nat.blt (j % 2) 1 = true from Nat.ble_eq_true_of_le h1.1, cond_true, ← h1.2]
    rfl
  · have h1 : ¬ j % 2 < 1 ∧ j % 2 - 1 = j % 1 := by omega
    have h2 : Nat.blt (j % 2) 1 = false := by
      cases hb : Nat.blt (j % 2) 1 with
      | false => rfl
      | true => exact absurd (Nat.le_of_ble_eq_true hb) h1.1
    rw [h, h2, cond_false, ← h1.2]
    rfl
noncomputable def f_tg2 (w : e_T 2) (i : Nat) : e_C := Prod.rec (motive := fun _ => e_C) (fun a b => Nat.rec (motive := fun _ => e_C) (f_tg1 a i) (fun _ _ => f_tg1 b i) (Nat.mod (Nat.div i 2) 2)) (show e_T 1 × e_T 1 from w)
set_option maxRecDepth 20000 in
theorem f_tg2_eq (w : e_T 2) (j : Nat) : f_tg2 w j = e_tget 2 w (j % 4) := by
  obtain ⟨a, b⟩ := (show e_T 1 × e_T 1 from w)
  show (Nat.rec (motive := fun _ => e_C) (f_tg1 a j) (fun _ _ => f_tg1 b j) ((j / 2) % 2) : e_C) = bif Nat.blt (j % 4) (2 ^ 1) then e_tget 1 a (j % 4) else e_tget 1 b (j % 4 - 2 ^ 1)
  rw [f_tg1_eq, f_tg1_eq, show 2 ^ 1 = 2 from rfl]
  rcases Nat.mod_two_eq_zero_or_one (j / 2) with h | h
  · have h1 : j % 4 < 2 ∧ j % 4 = j % 2 := by omega
    rw [h, show Nat.blt (j % 4) 2 = true from Nat.ble_eq_true_of_le h1.1, cond_true, ← h1.2]
    rfl
  · have h1 : ¬ j % 4 < 2 ∧ j % 4 - 2 = j % 2 := by omega
    have h2 : Nat.blt (j % 4) 2 = false := by
      cases hb : Nat.blt (j % 4) 2 with
      | false => rfl
      | true => exact absurd (Nat.le_of_ble_eq_true hb) h1.1
    rw [h, h2, cond_false, ← h1.2]
    rfl
noncomputable def f_tp2 (x : e_C) (w : e_T 2) (i : Nat) (k : e_T 2 → Bool) : Bool := Prod.rec (motive := fun _ => Bool) (fun a b => Nat.rec (motive := fun _ => Bool) (f_tp1 x a i (fun a2 => k (show e_T 2 from ((a2, b) : e_T 1 × e_T 1)))) (fun _ _ => f_tp1 x b i (fun b2 => k (show e_T 2 from ((a, b2) : e_T 1 × e_T 1)))) (Nat.mod (Nat.div i 2) 2)) (show e_T 1 × e_T 1 from w)
set_option maxRecDepth 20000 in
theorem f_tp2_eq (x : e_C) (w : e_T 2) (j : Nat) (k : e_T 2 → Bool) : f_tp2 x w j k = e_tput x 2 w (j % 4) k := by
  obtain ⟨a, b⟩ := (show e_T 1 × e_T 1 from w)
  show (Nat.rec (motive := fun _ => Bool) (f_tp1 x a j (fun a2 => k (show e_T 2 from ((a2, b) : e_T 1 × e_T 1)))) (fun _ _ => f_tp1 x b j (fun b2 => k (show e_T 2 from ((a, b2) : e_T 1 × e_T 1)))) ((j / 2) % 2) : Bool) = bif Nat.blt (j % 4) (2 ^ 1) then e_tput x 1 a (j % 4) (fun a2 => k (show e_T 2 from ((a2, b) : e_T 1 × e_T 1))) else e_tput x 1 b (j % 4 - 2 ^ 1) (fun b2 => k (show e_T 2 from ((a, b2) : e_T 1 × e_T 1)))
  rw [f_tp1_eq, f_tp1_eq, show 2 ^ 1 = 2 from rfl]
  rcases Nat.mod_two_eq_zero_or_one (j / 2) with h | h
  · have h1 : j % 4 < 2 ∧ j % 4 = j % 2 := by omega
    rw [h, show Nat.blt (j % 4) 2 = true from Nat.ble_eq_true_of_le h1.1, cond_true, ← h1.2]
    rfl
  · have h1 : ¬ j % 4 < 2 ∧ j % 4 - 2 = j % 2 := by omega
    have h2 : Nat.blt (j % 4) 2 = false := by
      cases hb : Nat.blt (j % 4) 2 with
      | false => rfl
      | true => exact absurd (Nat.le_of_ble_eq_true hb) h1.1
    rw [h, h2, cond_false, ← h1.2]
    rfl
noncomputable def f_tg3 (w : e_T 3) (i : Nat) : e_C := Prod.rec (motive := fun _ => e_C) (fun a b => Nat.rec (motive := fun _ => e_C) (f_tg2 a i) (fun _ _ => f_tg2 b i) (Nat.mod (Nat.div i 4) 2)) (show e_T 2 × e_T 2 from w)
set_option maxRecDepth 20000 in
theorem f_tg3_eq (w : e_T 3) (j : Nat) : f_tg3 w j = e_tget 3 w (j % 8) := by
  obtain ⟨a, b⟩ := (show e_T 2 × e_T 2 from w)
  show (Nat.rec (motive := fun _ => e_C) (f_tg2 a j) (fun _ _ => f_tg2 b j) ((j / 4) % 2) : e_C) = bif Nat.blt (j % 8) (2 ^ 2) then e_tget 2 a (j % 8) else e_tget 2 b (j % 8 - 2 ^ 2)
  rw [f_tg2_eq, f_tg2_eq, show 2 ^ 2 = 4 from rfl]
  rcases Nat.mod_two_eq_zero_or_one (j / 4) with h | h
  · have h1 : j % 8 < 4 ∧ j % 8 = j % 4 := by omega
    rw [h, show Nat.blt (j % 8) 4 = true from Nat.ble_eq_true_of_le h1.1, cond_true, ← h1.2]
    rfl
  · have h1 : ¬ j % 8 < 4 ∧ j % 8 - 4 = j % 4 := by omega
    have h2 : Nat.blt (j % 8) 4 = false := by
      cases hb : Nat.blt (j % 8) 4 with
      | false => rfl
      | true => exact absurd (Nat.le_of_ble_eq_true hb) h1.1
    rw [h, h2, cond_false, ← h1.2]
    rfl
noncomputable def f_tp3 (x : e_C) (w : e_T 3) (i : Nat) (k : e_T 3 → Bool) : Bool := Prod.rec (motive := fun _ => Bool) (fun a b => Nat.rec (motive := fun _ => Bool) (f_tp2 x a i (fun a2 => k (show e_T 3 from ((a2, b) : e_T 2 × e_T 2)))) (fun _ _ => f_tp2 x b i (fun b2 => k (show e_T 3 from ((a, b2) : e_T 2 × e_T 2)))) (Nat.mod (Nat.div i 4) 2)) (show e_T 2 × e_T 2 from w)
set_option maxRecDepth 20000 in
theorem f_tp3_eq (x : e_C) (w : e_T 3) (j : Nat) (k : e_T 3 → Bool) : f_tp3 x w j k = e_tput x 3 w (j % 8) k := by
  obtain ⟨a, b⟩ := (show e_T 2 × e_T 2 from w)
  show (Nat.rec (motive := fun _ => Bool) (f_tp2 x a j (fun a2 => k (show e_T 3 from ((a2, b) : e_T 2 × e_T 2)))) (fun _ _ => f_tp2 x b j (fun b2 => k (show e_T 3 from ((a, b2) : e_T 2 × e_T 2)))) ((j / 4) % 2) : Bool) = bif Nat.blt (j % 8) (2 ^ 2) then e_tput x 2 a (j % 8) (fun a2 => k (show e_T 3 from ((a2, b) : e_T 2 × e_T 2))) else e_tput x 2 b (j % 8 - 2 ^ 2) (fun b2 => k (show e_T 3 from ((a, b2) : e_T 2 × e_T 2)))
  rw [f_tp2_eq, f_tp2_eq, show 2 ^ 2 = 4 from rfl]
  rcases Nat.mod_two_eq_zero_or_one (j / 4) with h | h
  · have h1 : j % 8 < 4 ∧ j % 8 = j % 4 := by omega
    rw [h, show Nat.blt (j % 8) 4 = true from Nat.ble_eq_true_of_le h1.1, cond_true, ← h1.2]
    rfl
  · have h1 : ¬ j % 8 < 4 ∧ j % 8 - 4 = j % 4 := by omega
    have h2 : Nat.blt (j % 8) 4 = false := by
      cases hb : Nat.blt (j % 8) 4 with
      | false => rfl
      | true => exact absurd (Nat.le_of_ble_eq_true hb) h1.1
    rw [h, h2, cond_false, ← h1.2]
    rfl
noncomputable def f_tg4 (w : e_T 4) (i : Nat) : e_C := Prod.rec (motive := fun _ => e_C) (fun a b => Nat.rec (motive := fun _ => e_C) (f_tg3 a i) (fun _ _ => f_tg3 b i) (Nat.mod (Nat.div i 8) 2)) (show e_T 3 × e_T 3 from w)
set_option maxRecDepth 20000 in
theorem f_tg4_eq (w : e_T 4) (j : Nat) : f_tg4 w j = e_tget 4 w (j % 16) := by
  obtain ⟨a, b⟩ := (show e_T 3 × e_T 3 from w)
  show (Nat.rec (motive := fun _ => e_C) (f_tg3 a j) (fun _ _ => f_tg3 b j) ((j / 8) % 2) : e_C) = bif Nat.blt (j % 16) (2 ^ 3) then e_tget 3 a (j % 16) else e_tget 3 b (j % 16 - 2 ^ 3)
  rw [f_tg3_eq, f_tg3_eq, show 2 ^ 3 = 8 from rfl]
  rcases Nat.mod_two_eq_zero_or_one (j / 8) with h | h
  · have h1 : j % 16 < 8 ∧ j % 16 = j % 8 := by omega
    rw [h, show Nat.blt (j % 16) 8 = true from Nat.ble_eq_true_of_le h1.1, cond_true, ← h1.2]
    rfl
  · have h1 : ¬ j % 16 < 8 ∧ j % 16 - 8 = j % 8 := by omega
    have h2 : Nat.blt (j % 16) 8 = false := by
      cases hb : Nat.blt (j % 16) 8 with
      | false => rfl
      | true => exact absurd (Nat.le_of_ble_eq_true hb) h1.1
    rw [h, h2, cond_false, ← h1.2]
    rfl
noncomputable def f_tp4 (x : e_C) (w : e_T 4) (i : Nat) (k : e_T 4 → Bool) : Bool := Prod.rec (motive := fun _ => Bool) (fun a b => Nat.rec (motive := fun _ => Bool) (f_tp3 x a i (fun a2 => k (show e_T 4 from ((a2, b) : e_T 3 × e_T 3)))) (fun _ _ => f_tp3 x b i (fun b2 => k (show e_T 4 from ((a, b2) : e_T 3 × e_T 3)))) (Nat.mod (Nat.div i 8) 2)) (show e_T 3 × e_T 3 from w)
set_option maxRecDepth 20000 in
theorem f_tp4_eq (x : e_C) (w : e_T 4) (j : Nat) (k : e_T 4 → Bool) : f_tp4 x w j k = e_tput x 4 w (j % 16) k := by
  obtain ⟨a, b⟩ := (show e_T 3 × e_T 3 from w)
  show (Nat.rec (motive := fun _ => Bool) (f_tp3 x a j (fun a2 => k (show e_T 4 from ((a2, b) : e_T 3 × e_T 3)))) (fun _ _ => f_tp3 x b j (fun b2 => k (show e_T 4 from ((a, b2) : e_T 3 × e_T 3)))) ((j / 8) % 2) : Bool) = bif Nat.blt (j % 16) (2 ^ 3) then e_tput x 3 a (j % 16) (fun a2 => k (show e_T 4 from ((a2, b) : e_T 3 × e_T 3))) else e_tput x 3 b (j % 16 - 2 ^ 3) (fun b2 => k (show e_T 4 from ((a, b2) : e_T 3 × e_T 3)))
  rw [f_tp3_eq, f_tp3_eq, show 2 ^ 3 = 8 from rfl]
  rcases Nat.mod_two_eq_zero_or_one (j / 8) with h | h
  · have h1 : j % 16 < 8 ∧ j % 16 = j % 8 := by omega
    rw [h, show Nat.blt (j % 16) 8 = true from Nat.ble_eq_true_of_le h1.1, cond_true, ← h1.2]
    rfl
  · have h1 : ¬ j % 16 < 8 ∧ j % 16 - 8 = j % 8 := by omega
    have h2 : Nat.blt (j % 16) 8 = false := by
      cases hb : Nat.blt (j % 16) 8 with
      | false => rfl
      | true => exact absurd (Nat.le_of_ble_eq_true hb) h1.1
    rw [h, h2, cond_false, ← h1.2]
    rfl
noncomputable def f_tg5 (w : e_T 5) (i : Nat) : e_C := Prod.rec (motive := fun _ => e_C) (fun a b => Nat.rec (motive := fun _ => e_C) (f_tg4 a i) (fun _ _ => f_tg4 b i) (Nat.mod (Nat.div i 16) 2)) (show e_T 4 × e_T 4 from w)
set_option maxRecDepth 20000 in
theorem f_tg5_eq (w : e_T 5) (j : Nat) : f_tg5 w j = e_tget 5 w (j % 32) := by
  obtain ⟨a, b⟩ := (show e_T 4 × e_T 4 from w)
  show (Nat.rec (motive := fun _ => e_C) (f_tg4 a j) (fun _ _ => f_tg4 b j) ((j / 16) % 2) : e_C) = bif Nat.blt (j % 32) (2 ^ 4) then e_tget 4 a (j % 32) else e_tget 4 b (j % 32 - 2 ^ 4)
  rw [f_tg4_eq, f_tg4_eq, show 2 ^ 4 = 16 from rfl]
  rcases Nat.mod_two_eq_zero_or_one (j / 16) with h | h
  · have h1 : j % 32 < 16 ∧ j % 32 = j % 16 := by omega
    rw [h, show Nat.blt (j % 32) 16 = true from Nat.ble_eq_true_of_le h1.1, cond_true, ← h1.2]
    rfl
  · have h1 : ¬ j % 32 < 16 ∧ j % 32 - 16 = j % 16 := by omega
    have h2 : Nat.blt (j % 32) 16 = false := by
      cases hb : Nat.blt (j % 32) 16 with
      | false => rfl
      | true => exact absurd (Nat.le_of_ble_eq_true hb) h1.1
    rw [h, h2, cond_false, ← h1.2]
    rfl
noncomputable def f_tp5 (x : e_C) (w : e_T 5) (i : Nat) (k : e_T 5 → Bool) : Bool := Prod.rec (motive := fun _ => Bool) (fun a b => Nat.rec (motive := fun _ => Bool) (f_tp4 x a i (fun a2 => k (show e_T 5 from ((a2, b) : e_T 4 × e_T 4)))) (fun _ _ => f_tp4 x b i (fun b2 => k (show e_T 5 from ((a, b2) : e_T 4 × e_T 4)))) (Nat.mod (Nat.div i 16) 2)) (show e_T 4 × e_T 4 from w)
set_option maxRecDepth 20000 in
theorem f_tp5_eq (x : e_C) (w : e_T 5) (j : Nat) (k : e_T 5 → Bool) : f_tp5 x w j k = e_tput x 5 w (j % 32) k := by
  obtain ⟨a, b⟩ := (show e_T 4 × e_T 4 from w)
  show (Nat.rec (motive := fun _ => Bool) (f_tp4 x a j (fun a2 => k (show e_T 5 from ((a2, b) : e_T 4 × e_T 4)))) (fun _ _ => f_tp4 x b j (fun b2 => k (show e_T 5 from ((a, b2) : e_T 4 × e_T 4)))) ((j / 16) % 2) : Bool) = bif Nat.blt (j % 32) (2 ^ 4) then e_tput x 4 a (j % 32) (fun a2 => k (show e_T 5 from ((a2, b) : e_T 4 × e_T 4))) else e_tput x 4 b (j % 32 - 2 ^ 4) (fun b2 => k (show e_T 5 from ((a, b2) : e_T 4 × e_T 4)))
  rw [f_tp4_eq, f_tp4_eq, show 2 ^ 4 = 16 from rfl]
  rcases Nat.mod_two_eq_zero_or_one (j / 16) with h | h
  · have h1 : j % 32 < 16 ∧ j % 32 = j % 16 := by omega
    rw [h, show Nat.blt (j % 32) 16 = true from Nat.ble_eq_true_of_le h1.1, cond_true, ← h1.2]
    rfl
  · have h1 : ¬ j % 32 < 16 ∧ j % 32 - 16 = j % 16 := by omega
    have h2 : Nat.blt (j % 32) 16 = false := by
      cases hb : Nat.blt (j % 32) 16 with
      | false => rfl
      | true => exact absurd (Nat.le_of_ble_eq_true hb) h1.1
    rw [h, h2, cond_false, ← h1.2]
    rfl
noncomputable def f_tg6 (w : e_T 6) (i : Nat) : e_C := Prod.rec (motive := fun _ => e_C) (fun a b => Nat.rec (motive := fun _ => e_C) (f_tg5 a i) (fun _ _ => f_tg5 b i) (Nat.mod (Nat.div i 32) 2)) (show e_T 5 × e_T 5 from w)
set_option maxRecDepth 20000 in
theorem f_tg6_eq (w : e_T 6) (j : Nat) : f_tg6 w j = e_tget 6 w (j % 64) := by
  obtain ⟨a, b⟩ := (show e_T 5 × e_T 5 from w)
  show (Nat.rec (motive := fun _ => e_C) (f_tg5 a j) (fun _ _ => f_tg5 b j) ((j / 32) % 2) : e_C) = bif Nat.blt (j % 64) (2 ^ 5) then e_tget 5 a (j % 64) else e_tget 5 b (j % 64 - 2 ^ 5)
  rw [f_tg5_eq, f_tg5_eq, show 2 ^ 5 = 32 from rfl]
  rcases Nat.mod_two_eq_zero_or_one (j / 32) with h | h
  · have h1 : j % 64 < 32 ∧ j % 64 = j % 32 := by omega
    rw [h, show Nat.blt (j % 64) 32 = true from Nat.ble_eq_true_of_le h1.1, cond_true, ← h1.2]
    rfl
  · have h1 : ¬ j % 64 < 32 ∧ j % 64 - 32 = j % 32 := by omega
    have h2 : Nat.blt (j % 64) 32 = false := by
      cases hb : Nat.blt (j % 64) 32 with
      | false => rfl
      | true => exact absurd (Nat.le_of_ble_eq_true hb) h1.1
    rw [h, h2, cond_false, ← h1.2]
    rfl
noncomputable def f_tp6 (x : e_C) (w : e_T 6) (i : Nat) (k : e_T 6 → Bool) : Bool := Prod.rec (motive := fun _ => Bool) (fun a b => Nat.rec (motive := fun _ => Bool) (f_tp5 x a i (fun a2 => k (show e_T 6 from ((a2, b) : e_T 5 × e_T 5)))) (fun _ _ => f_tp5 x b i (fun b2 => k (show e_T 6 from ((a, b2) : e_T 5 × e_T 5)))) (Nat.mod (Nat.div i 32) 2)) (show e_T 5 × e_T 5 from w)
set_option maxRecDepth 20000 in
theorem f_tp6_eq (x : e_C) (w : e_T 6) (j : Nat) (k : e_T 6 → Bool) : f_tp6 x w j k = e_tput x 6 w (j % 64) k := by
  obtain ⟨a, b⟩ := (show e_T 5 × e_T 5 from w)
  show (Nat.rec (motive := fun _ => Bool) (f_tp5 x a j (fun a2 => k (show e_T 6 from ((a2, b) : e_T 5 × e_T 5)))) (fun _ _ => f_tp5 x b j (fun b2 => k (show e_T 6 from ((a, b2) : e_T 5 × e_T 5)))) ((j / 32) % 2) : Bool) = bif Nat.blt (j % 64) (2 ^ 5) then e_tput x 5 a (j % 64) (fun a2 => k (show e_T 6 from ((a2, b) : e_T 5 × e_T 5))) else e_tput x 5 b (j % 64 - 2 ^ 5) (fun b2 => k (show e_T 6 from ((a, b2) : e_T 5 × e_T 5)))
  rw [f_tp5_eq, f_tp5_eq, show 2 ^ 5 = 32 from rfl]
  rcases Nat.mod_two_eq_zero_or_one (j / 32) with h | h
  · have h1 : j % 64 < 32 ∧ j % 64 = j % 32 := by omega
    rw [h, show Nat.blt (j % 64) 32 = true from Nat.ble_eq_true_of_le h1.1, cond_true, ← h1.2]
    rfl
  · have h1 : ¬ j % 64 < 32 ∧ j % 64 - 32 = j % 32 := by omega
    have h2 : Nat.blt (j % 64) 32 = false := by
      cases hb : Nat.blt (j % 64) 32 with
      | false => rfl
      | true => exact absurd (Nat.le_of_ble_eq_true hb) h1.1
    rw [h, h2, cond_false, ← h1.2]
    rfl
noncomputable def f_tg7 (w : e_T 7) (i : Nat) : e_C := Prod.rec (motive := fun _ => e_C) (fun a b => Nat.rec (motive := fun _ => e_C) (f_tg6 a i) (fun _ _ => f_tg6 b i) (Nat.mod (Nat.div i 64) 2)) (show e_T 6 × e_T 6 from w)
set_option maxRecDepth 20000 in
theorem f_tg7_eq (w : e_T 7) (j : Nat) : f_tg7 w j = e_tget 7 w (j % 128) := by
  obtain ⟨a, b⟩ := (show e_T 6 × e_T 6 from w)
  show (Nat.rec (motive := fun _ => e_C) (f_tg6 a j) (fun _ _ => f_tg6 b j) ((j / 64) % 2) : e_C) = bif Nat.blt (j % 128) (2 ^ 6) then e_tget 6 a (j % 128) else e_tget 6 b (j % 128 - 2 ^ 6)
  rw [f_tg6_eq, f_tg6_eq, show 2 ^ 6 = 64 from rfl]
  rcases Nat.mod_two_eq_zero_or_one (j / 64) with h | h
  · have h1 : j % 128 < 64 ∧ j % 128 = j % 64 := by omega
    rw [h, show Nat.blt (j % 128) 64 = true from Nat.ble_eq_true_of_le h1.1, cond_true, ← h1.2]
    rfl
  · have h1 : ¬ j % 128 < 64 ∧ j % 128 - 64 = j % 64 := by omega
    have h2 : Nat.blt (j % 128) 64 = false := by
      cases hb : Nat.blt (j % 128) 64 with
      | false => rfl
      | true => exact absurd (Nat.le_of_ble_eq_true hb) h1.1
    rw [h, h2, cond_false, ← h1.2]
    rfl
noncomputable def f_tp7 (x : e_C) (w : e_T 7) (i : Nat) (k : e_T 7 → Bool) : Bool := Prod.rec (motive := fun _ => Bool) (fun a b => Nat.rec (motive := fun _ => Bool) (f_tp6 x a i (fun a2 => k (show e_T 7 from ((a2, b) : e_T 6 × e_T 6)))) (fun _ _ => f_tp6 x b i (fun b2 => k (show e_T 7 from ((a, b2) : e_T 6 × e_T 6)))) (Nat.mod (Nat.div i 64) 2)) (show e_T 6 × e_T 6 from w)
set_option maxRecDepth 20000 in
theorem f_tp7_eq (x : e_C) (w : e_T 7) (j : Nat) (k : e_T 7 → Bool) : f_tp7 x w j k = e_tput x 7 w (j % 128) k := by
  obtain ⟨a, b⟩ := (show e_T 6 × e_T 6 from w)
  show (Nat.rec (motive := fun _ => Bool) (f_tp6 x a j (fun a2 => k (show e_T 7 from ((a2, b) : e_T 6 × e_T 6)))) (fun _ _ => f_tp6 x b j (fun b2 => k (show e_T 7 from ((a, b2) : e_T 6 × e_T 6)))) ((j / 64) % 2) : Bool) = bif Nat.blt (j % 128) (2 ^ 6) then e_tput x 6 a (j % 128) (fun a2 => k (show e_T 7 from ((a2, b) : e_T 6 × e_T 6))) else e_tput x 6 b (j % 128 - 2 ^ 6) (fun b2 => k (show e_T 7 from ((a, b2) : e_T 6 × e_T 6)))
  rw [f_tp6_eq, f_tp6_eq, show 2 ^ 6 = 64 from rfl]
  rcases Nat.mod_two_eq_zero_or_one (j / 64) with h | h
  · have h1 : j % 128 < 64 ∧ j % 128 = j % 64 := by omega
    rw [h, show Nat.blt (j % 128) 64 = true from Nat.ble_eq_true_of_le h1.1, cond_true, ← h1.2]
    rfl
  · have h1 : ¬ j % 128 < 64 ∧ j % 128 - 64 = j % 64 := by omega
    have h2 : Nat.blt (j % 128) 64 = false := by
      cases hb : Nat.blt (j % 128) 64 with
      | false => rfl
      | true => exact absurd (Nat.le_of_ble_eq_true hb) h1.1
    rw [h, h2, cond_false, ← h1.2]
    rfl
noncomputable def f_tg8 (w : e_T 8) (i : Nat) : e_C := Prod.rec (motive := fun _ => e_C) (fun a b => Nat.rec (motive := fun _ => e_C) (f_tg7 a i) (fun _ _ => f_tg7 b i) (Nat.mod (Nat.div i 128) 2)) (show e_T 7 × e_T 7 from w)
set_option maxRecDepth 20000 in
theorem f_tg8_eq (w : e_T 8) (j : Nat) : f_tg8 w j = e_tget 8 w (j % 256) := by
  obtain ⟨a, b⟩ := (show e_T 7 × e_T 7 from w)
  show (Nat.rec (motive := fun _ => e_C) (f_tg7 a j) (fun _ _ => f_tg7 b j) ((j / 128) % 2) : e_C) = bif Nat.blt (j % 256) (2 ^ 7) then e_tget 7 a (j % 256) else e_tget 7 b (j % 256 - 2 ^ 7)
  rw [f_tg7_eq, f_tg7_eq, show 2 ^ 7 = 128 from rfl]
  rcases Nat.mod_two_eq_zero_or_one (j / 128) with h | h
  · have h1 : j % 256 < 128 ∧ j % 256 = j % 128 := by omega
    rw [h, show Nat.blt (j % 256) 128 = true from Nat.ble_eq_true_of_le h1.1, cond_true, ← h1.2]
    rfl
  · have h1 : ¬ j % 256 < 128 ∧ j % 256 - 128 = j % 128 := by omega
    have h2 : Nat.blt (j % 256) 128 = false := by
      cases hb : Nat.blt (j % 256) 128 with
      | false => rfl
      | true => exact absurd (Nat.le_of_ble_eq_true hb) h1.1
    rw [h, h2, cond_false, ← h1.2]
    rfl
noncomputable def f_tp8 (x : e_C) (w : e_T 8) (i : Nat) (k : e_T 8 → Bool) : Bool := Prod.rec (motive := fun _ => Bool) (fun a b => Nat.rec (motive := fun _ => Bool) (f_tp7 x a i (fun a2 => k (show e_T 8 from ((a2, b) : e_T 7 × e_T 7)))) (fun _ _ => f_tp7 x b i (fun b2 => k (show e_T 8 from ((a, b2) : e_T 7 × e_T 7)))) (Nat.mod (Nat.div i 128) 2)) (show e_T 7 × e_T 7 from w)
set_option maxRecDepth 20000 in
theorem f_tp8_eq (x : e_C) (w : e_T 8) (j : Nat) (k : e_T 8 → Bool) : f_tp8 x w j k = e_tput x 8 w (j % 256) k := by
  obtain ⟨a, b⟩ := (show e_T 7 × e_T 7 from w)
  show (Nat.rec (motive := fun _ => Bool) (f_tp7 x a j (fun a2 => k (show e_T 8 from ((a2, b) : e_T 7 × e_T 7)))) (fun _ _ => f_tp7 x b j (fun b2 => k (show e_T 8 from ((a, b2) : e_T 7 × e_T 7)))) ((j / 128) % 2) : Bool) = bif Nat.blt (j % 256) (2 ^ 7) then e_tput x 7 a (j % 256) (fun a2 => k (show e_T 8 from ((a2, b) : e_T 7 × e_T 7))) else e_tput x 7 b (j % 256 - 2 ^ 7) (fun b2 => k (show e_T 8 from ((a, b2) : e_T 7 × e_T 7)))
  rw [f_tp7_eq, f_tp7_eq, show 2 ^ 7 = 128 from rfl]
  rcases Nat.mod_two_eq_zero_or_one (j / 128) with h | h
  · have h1 : j % 256 < 128 ∧ j % 256 = j % 128 := by omega
    rw [h, show Nat.blt (j % 256) 128 = true from Nat.ble_eq_true_of_le h1.1, cond_true, ← h1.2]
    rfl
  · have h1 : ¬ j % 256 < 128 ∧ j % 256 - 128 = j % 128 := by omega
    have h2 : Nat.blt (j % 256) 128 = false := by
      cases hb : Nat.blt (j % 256) 128 with
      | false => rfl
      | true => exact absurd (Nat.le_of_ble_eq_true hb) h1.1
    rw [h, h2, cond_false, ← h1.2]
    rfl
noncomputable def f_tg9 (w : e_T 9) (i : Nat) : e_C := Prod.rec (motive := fun _ => e_C) (fun a b => Nat.rec (motive := fun _ => e_C) (f_tg8 a i) (fun _ _ => f_tg8 b i) (Nat.mod (Nat.div i 256) 2)) (show e_T 8 × e_T 8 from w)
set_option maxRecDepth 20000 in
theorem f_tg9_eq (w : e_T 9) (j : Nat) : f_tg9 w j = e_tget 9 w (j % 512) := by
  obtain ⟨a, b⟩ := (show e_T 8 × e_T 8 from w)
  show (Nat.rec (motive := fun _ => e_C) (f_tg8 a j) (fun _ _ => f_tg8 b j) ((j / 256) % 2) : e_C) = bif Nat.blt (j % 512) (2 ^ 8) then e_tget 8 a (j % 512) else e_tget 8 b (j % 512 - 2 ^ 8)
  rw [f_tg8_eq, f_tg8_eq, show 2 ^ 8 = 256 from rfl]
  rcases Nat.mod_two_eq_zero_or_one (j / 256) with h | h
  · have h1 : j % 512 < 256 ∧ j % 512 = j % 256 := by omega
    rw [h, show Nat.blt (j % 512) 256 = true from Nat.ble_eq_true_of_le h1.1, cond_true, ← h1.2]
    rfl
  · have h1 : ¬ j % 512 < 256 ∧ j % 512 - 256 = j % 256 := by omega
    have h2 : Nat.blt (j % 512) 256 = false := by
      cases hb : Nat.blt (j % 512) 256 with
      | false => rfl
      | true => exact absurd (Nat.le_of_ble_eq_true hb) h1.1
    rw [h, h2, cond_false, ← h1.2]
    rfl
noncomputable def f_tp9 (x : e_C) (w : e_T 9) (i : Nat) (k : e_T 9 → Bool) : Bool := Prod.rec (motive := fun _ => Bool) (fun a b => Nat.rec (motive := fun _ => Bool) (f_tp8 x a i (fun a2 => k (show e_T 9 from ((a2, b) : e_T 8 × e_T 8)))) (fun _ _ => f_tp8 x b i (fun b2 => k (show e_T 9 from ((a, b2) : e_T 8 × e_T 8)))) (Nat.mod (Nat.div i 256) 2)) (show e_T 8 × e_T 8 from w)
set_option maxRecDepth 20000 in
theorem f_tp9_eq (x : e_C) (w : e_T 9) (j : Nat) (k : e_T 9 → Bool) : f_tp9 x w j k = e_tput x 9 w (j % 512) k := by
  obtain ⟨a, b⟩ := (show e_T 8 × e_T 8 from w)
  show (Nat.rec (motive := fun _ => Bool) (f_tp8 x a j (fun a2 => k (show e_T 9 from ((a2, b) : e_T 8 × e_T 8)))) (fun _ _ => f_tp8 x b j (fun b2 => k (show e_T 9 from ((a, b2) : e_T 8 × e_T 8)))) ((j / 256) % 2) : Bool) = bif Nat.blt (j % 512) (2 ^ 8) then e_tput x 8 a (j % 512) (fun a2 => k (show e_T 9 from ((a2, b) : e_T 8 × e_T 8))) else e_tput x 8 b (j % 512 - 2 ^ 8) (fun b2 => k (show e_T 9 from ((a, b2) : e_T 8 × e_T 8)))
  rw [f_tp8_eq, f_tp8_eq, show 2 ^ 8 = 256 from rfl]
  rcases Nat.mod_two_eq_zero_or_one (j / 256) with h | h
  · have h1 : j % 512 < 256 ∧ j % 512 = j % 256 := by omega
    rw [h, show Nat.blt (j % 512) 256 = true from Nat.ble_eq_true_of_le h1.1, cond_true, ← h1.2]
    rfl
  · have h1 : ¬ j % 512 < 256 ∧ j % 512 - 256 = j % 256 := by omega
    have h2 : Nat.blt (j % 512) 256 = false := by
      cases hb : Nat.blt (j % 512) 256 with
      | false => rfl
      | true => exact absurd (Nat.le_of_ble_eq_true hb) h1.1
    rw [h, h2, cond_false, ← h1.2]
    rfl
noncomputable def f_tg10 (w : e_T 10) (i : Nat) : e_C := Prod.rec (motive := fun _ => e_C) (fun a b => Nat.rec (motive := fun _ => e_C) (f_tg9 a i) (fun _ _ => f_tg9 b i) (Nat.mod (Nat.div i 512) 2)) (show e_T 9 × e_T 9 from w)
set_option maxRecDepth 20000 in
theorem f_tg10_eq (w : e_T 10) (j : Nat) : f_tg10 w j = e_tget 10 w (j % 1024) := by
  obtain ⟨a, b⟩ := (show e_T 9 × e_T 9 from w)
  show (Nat.rec (motive := fun _ => e_C) (f_tg9 a j) (fun _ _ => f_tg9 b j) ((j / 512) % 2) : e_C) = bif Nat.blt (j % 1024) (2 ^ 9) then e_tget 9 a (j % 1024) else e_tget 9 b (j % 1024 - 2 ^ 9)
  rw [f_tg9_eq, f_tg9_eq, show 2 ^ 9 = 512 from rfl]
  rcases Nat.mod_two_eq_zero_or_one (j / 512) with h | h
  · have h1 : j % 1024 < 512 ∧ j % 1024 = j % 512 := by omega
    rw [h, show Nat.blt (j % 1024) 512 = true from Nat.ble_eq_true_of_le h1.1, cond_true, ← h1.2]
    rfl
  · have h1 : ¬ j % 1024 < 512 ∧ j % 1024 - 512 = j % 512 := by omega
    have h2 : Nat.blt (j % 1024) 512 = false := by
      cases hb : Nat.blt (j % 1024) 512 with
      | false => rfl
      | true => exact absurd (Nat.le_of_ble_eq_true hb) h1.1
    rw [h, h2, cond_false, ← h1.2]
    rfl
noncomputable def f_tp10 (x : e_C) (w : e_T 10) (i : Nat) (k : e_T 10 → Bool) : Bool := Prod.rec (motive := fun _ => Bool) (fun a b => Nat.rec (motive := fun _ => Bool) (f_tp9 x a i (fun a2 => k (show e_T 10 from ((a2, b) : e_T 9 × e_T 9)))) (fun _ _ => f_tp9 x b i (fun b2 => k (show e_T 10 from ((a, b2) : e_T 9 × e_T 9)))) (Nat.mod (Nat.div i 512) 2)) (show e_T 9 × e_T 9 from w)
set_option maxRecDepth 20000 in
theorem f_tp10_eq (x : e_C) (w : e_T 10) (j : Nat) (k : e_T 10 → Bool) : f_tp10 x w j k = e_tput x 10 w (j % 1024) k := by
  obtain ⟨a, b⟩ := (show e_T 9 × e_T 9 from w)
  show (Nat.rec (motive := fun _ => Bool) (f_tp9 x a j (fun a2 => k (show e_T 10 from ((a2, b) : e_T 9 × e_T 9)))) (fun _ _ => f_tp9 x b j (fun b2 => k (show e_T 10 from ((a, b2) : e_T 9 × e_T 9)))) ((j / 512) % 2) : Bool) = bif Nat.blt (j % 1024) (2 ^ 9) then e_tput x 9 a (j % 1024) (fun a2 => k (show e_T 10 from ((a2, b) : e_T 9 × e_T 9))) else e_tput x 9 b (j % 1024 - 2 ^ 9) (fun b2 => k (show e_T 10 from ((a, b2) : e_T 9 × e_T 9)))
  rw [f_tp9_eq, f_tp9_eq, show 2 ^ 9 = 512 from rfl]
  rcases Nat.mod_two_eq_zero_or_one (j / 512) with h | h
  · have h1 : j % 1024 < 512 ∧ j % 1024 = j % 512 := by omega
    rw [h, show Nat.blt (j % 1024) 512 = true from Nat.ble_eq_true_of_le h1.1, cond_true, ← h1.2]
    rfl
  · have h1 : ¬ j % 1024 < 512 ∧ j % 1024 - 512 = j % 512 := by omega
    have h2 : Nat.blt (j % 1024) 512 = false := by
      cases hb : Nat.blt (j % 1024) 512 with
      | false => rfl
      | true => exact absurd (Nat.le_of_ble_eq_true hb) h1.1
    rw [h, h2, cond_false, ← h1.2]
    rfl
noncomputable def f_tg11 (w : e_T 11) (i : Nat) : e_C := Prod.rec (motive := fun _ => e_C) (fun a b => Nat.rec (motive := fun _ => e_C) (f_tg10 a i) (fun _ _ => f_tg10 b i) (Nat.mod (Nat.div i 1024) 2)) (show e_T 10 × e_T 10 from w)
set_option maxRecDepth 20000 in
theorem f_tg11_eq (w : e_T 11) (j : Nat) : f_tg11 w j = e_tget 11 w (j % 2048) := by
  obtain ⟨a, b⟩ := (show e_T 10 × e_T 10 from w)
  show (Nat.rec (motive := fun _ => e_C) (f_tg10 a j) (fun _ _ => f_tg10 b j) ((j / 1024) % 2) : e_C) = bif Nat.blt (j % 2048) (2 ^ 10) then e_tget 10 a (j % 2048) else e_tget 10 b (j % 2048 - 2 ^ 10)
  rw [f_tg10_eq, f_tg10_eq, show 2 ^ 10 = 1024 from rfl]
  rcases Nat.mod_two_eq_zero_or_one (j / 1024) with h | h
  · have h1 : j % 2048 < 1024 ∧ j % 2048 = j % 1024 := by omega
    rw [h, show Nat.blt (j % 2048) 1024 = true from Nat.ble_eq_true_of_le h1.1, cond_true, ← h1.2]
    rfl
  · have h1 : ¬ j % 2048 < 1024 ∧ j % 2048 - 1024 = j % 1024 := by omega
    have h2 : Nat.blt (j % 2048) 1024 = false := by
      cases hb : Nat.blt (j % 2048) 1024 with
      | false => rfl
      | true => exact absurd (Nat.le_of_ble_eq_true hb) h1.1
    rw [h, h2, cond_false, ← h1.2]
    rfl
noncomputable def f_tp11 (x : e_C) (w : e_T 11) (i : Nat) (k : e_T 11 → Bool) : Bool := Prod.rec (motive := fun _ => Bool) (fun a b => Nat.rec (motive := fun _ => Bool) (f_tp10 x a i (fun a2 => k (show e_T 11 from ((a2, b) : e_T 10 × e_T 10)))) (fun _ _ => f_tp10 x b i (fun b2 => k (show e_T 11 from ((a, b2) : e_T 10 × e_T 10)))) (Nat.mod (Nat.div i 1024) 2)) (show e_T 10 × e_T 10 from w)
set_option maxRecDepth 20000 in
theorem f_tp11_eq (x : e_C) (w : e_T 11) (j : Nat) (k : e_T 11 → Bool) : f_tp11 x w j k = e_tput x 11 w (j % 2048) k := by
  obtain ⟨a, b⟩ := (show e_T 10 × e_T 10 from w)
  show (Nat.rec (motive := fun _ => Bool) (f_tp10 x a j (fun a2 => k (show e_T 11 from ((a2, b) : e_T 10 × e_T 10)))) (fun _ _ => f_tp10 x b j (fun b2 => k (show e_T 11 from ((a, b2) : e_T 10 × e_T 10)))) ((j / 1024) % 2) : Bool) = bif Nat.blt (j % 2048) (2 ^ 10) then e_tput x 10 a (j % 2048) (fun a2 => k (show e_T 11 from ((a2, b) : e_T 10 × e_T 10))) else e_tput x 10 b (j % 2048 - 2 ^ 10) (fun b2 => k (show e_T 11 from ((a, b2) : e_T 10 × e_T 10)))
  rw [f_tp10_eq, f_tp10_eq, show 2 ^ 10 = 1024 from rfl]
  rcases Nat.mod_two_eq_zero_or_one (j / 1024) with h | h
  · have h1 : j % 2048 < 1024 ∧ j % 2048 = j % 1024 := by omega
    rw [h, show Nat.blt (j % 2048) 1024 = true from Nat.ble_eq_true_of_le h1.1, cond_true, ← h1.2]
    rfl
  · have h1 : ¬ j % 2048 < 1024 ∧ j % 2048 - 1024 = j % 1024 := by omega
    have h2 : Nat.blt (j % 2048) 1024 = false := by
      cases hb : Nat.blt (j % 2048) 1024 with
      | false => rfl
      | true => exact absurd (Nat.le_of_ble_eq_true hb) h1.1
    rw [h, h2, cond_false, ← h1.2]
    rfl
noncomputable def f_tg12 (w : e_T 12) (i : Nat) : e_C := Prod.rec (motive := fun _ => e_C) (fun a b => Nat.rec (motive := fun _ => e_C) (f_tg11 a i) (fun _ _ => f_tg11 b i) (Nat.mod (Nat.div i 2048) 2)) (show e_T 11 × e_T 11 from w)
set_option maxRecDepth 20000 in
theorem f_tg12_eq (w : e_T 12) (j : Nat) : f_tg12 w j = e_tget 12 w (j % 4096) := by
  obtain ⟨a, b⟩ := (show e_T 11 × e_T 11 from w)
  show (Nat.rec (motive := fun _ => e_C) (f_tg11 a j) (fun _ _ => f_tg11 b j) ((j / 2048) % 2) : e_C) = bif Nat.blt (j % 4096) (2 ^ 11) then e_tget 11 a (j % 4096) else e_tget 11 b (j % 4096 - 2 ^ 11)
  rw [f_tg11_eq, f_tg11_eq, show 2 ^ 11 = 2048 from rfl]
  rcases Nat.mod_two_eq_zero_or_one (j / 2048) with h | h
  · have h1 : j % 4096 < 2048 ∧ j % 4096 = j % 2048 := by omega
    rw [h, show Nat.blt (j % 4096) 2048 = true from Nat.ble_eq_true_of_le h1.1, cond_true, ← h1.2]
    rfl
  · have h1 : ¬ j % 4096 < 2048 ∧ j % 4096 - 2048 = j % 2048 := by omega
    have h2 : Nat.blt (j % 4096) 2048 = false := by
      cases hb : Nat.blt (j % 4096) 2048 with
      | false => rfl
      | true => exact absurd (Nat.le_of_ble_eq_true hb) h1.1
    rw [h, h2, cond_false, ← h1.2]
    rfl
noncomputable def f_tp12 (x : e_C) (w : e_T 12) (i : Nat) (k : e_T 12 → Bool) : Bool := Prod.rec (motive := fun _ => Bool) (fun a b => Nat.rec (motive := fun _ => Bool) (f_tp11 x a i (fun a2 => k (show e_T 12 from ((a2, b) : e_T 11 × e_T 11)))) (fun _ _ => f_tp11 x b i (fun b2 => k (show e_T 12 from ((a, b2) : e_T 11 × e_T 11)))) (Nat.mod (Nat.div i 2048) 2)) (show e_T 11 × e_T 11 from w)
set_option maxRecDepth 20000 in
theorem f_tp12_eq (x : e_C) (w : e_T 12) (j : Nat) (k : e_T 12 → Bool) : f_tp12 x w j k = e_tput x 12 w (j % 4096) k := by
  obtain ⟨a, b⟩ := (show e_T 11 × e_T 11 from w)
  show (Nat.rec (motive := fun _ => Bool) (f_tp11 x a j (fun a2 => k (show e_T 12 from ((a2, b) : e_T 11 × e_T 11)))) (fun _ _ => f_tp11 x b j (fun b2 => k (show e_T 12 from ((a, b2) : e_T 11 × e_T 11)))) ((j / 2048) % 2) : Bool) = bif Nat.blt (j % 4096) (2 ^ 11) then e_tput x 11 a (j % 4096) (fun a2 => k (show e_T 12 from ((a2, b) : e_T 11 × e_T 11))) else e_tput x 11 b (j % 4096 - 2 ^ 11) (fun b2 => k (show e_T 12 from ((a, b2) : e_T 11 × e_T 11)))
  rw [f_tp11_eq, f_tp11_eq, show 2 ^ 11 = 2048 from rfl]
  rcases Nat.mod_two_eq_zero_or_one (j / 2048) with h | h
  · have h1 : j % 4096 < 2048 ∧ j % 4096 = j % 2048 := by omega
    rw [h, show Nat.blt (j % 4096) 2048 = true from Nat.ble_eq_true_of_le h1.1, cond_true, ← h1.2]
    rfl
  · have h1 : ¬ j % 4096 < 2048 ∧ j % 4096 - 2048 = j % 2048 := by omega
    have h2 : Nat.blt (j % 4096) 2048 = false := by
      cases hb : Nat.blt (j % 4096) 2048 with
      | false => rfl
      | true => exact absurd (Nat.le_of_ble_eq_true hb) h1.1
    rw [h, h2, cond_false, ← h1.2]
    rfl
noncomputable def f_tg13 (w : e_T 13) (i : Nat) : e_C := Prod.rec (motive := fun _ => e_C) (fun a b => Nat.rec (motive := fun _ => e_C) (f_tg12 a i) (fun _ _ => f_tg12 b i) (Nat.mod (Nat.div i 4096) 2)) (show e_T 12 × e_T 12 from w)
set_option maxRecDepth 20000 in
theorem f_tg13_eq (w : e_T 13) (j : Nat) : f_tg13 w j = e_tget 13 w (j % 8192) := by
  obtain ⟨a, b⟩ := (show e_T 12 × e_T 12 from w)
  show (Nat.rec (motive := fun _ => e_C) (f_tg12 a j) (fun _ _ => f_tg12 b j) ((j / 4096) % 2) : e_C) = bif Nat.blt (j % 8192) (2 ^ 12) then e_tget 12 a (j % 8192) else e_tget 12 b (j % 8192 - 2 ^ 12)
  rw [f_tg12_eq, f_tg12_eq, show 2 ^ 12 = 4096 from rfl]
  rcases Nat.mod_two_eq_zero_or_one (j / 4096) with h | h
  · have h1 : j % 8192 < 4096 ∧ j % 8192 = j % 4096 := by omega
    rw [h, show Nat.blt (j % 8192) 4096 = true from Nat.ble_eq_true_of_le h1.1, cond_true, ← h1.2]
    rfl
  · have h1 : ¬ j % 8192 < 4096 ∧ j % 8192 - 4096 = j % 4096 := by omega
    have h2 : Nat.blt (j % 8192) 4096 = false := by
      cases hb : Nat.blt (j % 8192) 4096 with
      | false => rfl
      | true => exact absurd (Nat.le_of_ble_eq_true hb) h1.1
    rw [h, h2, cond_false, ← h1.2]
    rfl
noncomputable def f_tp13 (x : e_C) (w : e_T 13) (i : Nat) (k : e_T 13 → Bool) : Bool := Prod.rec (motive := fun _ => Bool) (fun a b => Nat.rec (motive := fun _ => Bool) (f_tp12 x a i (fun a2 => k (show e_T 13 from ((a2, b) : e_T 12 × e_T 12)))) (fun _ _ => f_tp12 x b i (fun b2 => k (show e_T 13 from ((a, b2) : e_T 12 × e_T 12)))) (Nat.mod (Nat.div i 4096) 2)) (show e_T 12 × e_T 12 from w)
set_option maxRecDepth 20000 in
theorem f_tp13_eq (x : e_C) (w : e_T 13) (j : Nat) (k : e_T 13 → Bool) : f_tp13 x w j k = e_tput x 13 w (j % 8192) k := by
  obtain ⟨a, b⟩ := (show e_T 12 × e_T 12 from w)
  show (Nat.rec (motive := fun _ => Bool) (f_tp12 x a j (fun a2 => k (show e_T 13 from ((a2, b) : e_T 12 × e_T 12)))) (fun _ _ => f_tp12 x b j (fun b2 => k (show e_T 13 from ((a, b2) : e_T 12 × e_T 12)))) ((j / 4096) % 2) : Bool) = bif Nat.blt (j % 8192) (2 ^ 12) then e_tput x 12 a (j % 8192) (fun a2 => k (show e_T 13 from ((a2, b) : e_T 12 × e_T 12))) else e_tput x 12 b (j % 8192 - 2 ^ 12) (fun b2 => k (show e_T 13 from ((a, b2) : e_T 12 × e_T 12)))
  rw [f_tp12_eq, f_tp12_eq, show 2 ^ 12 = 4096 from rfl]
  rcases Nat.mod_two_eq_zero_or_one (j / 4096) with h | h
  · have h1 : j % 8192 < 4096 ∧ j % 8192 = j % 4096 := by omega
    rw [h, show Nat.blt (j % 8192) 4096 = true from Nat.ble_eq_true_of_le h1.1, cond_true, ← h1.2]
    rfl
  · have h1 : ¬ j % 8192 < 4096 ∧ j % 8192 - 4096 = j % 4096 := by omega
    have h2 : Nat.blt (j % 8192) 4096 = false := by
      cases hb : Nat.blt (j % 8192) 4096 with
      | false => rfl
      | true => exact absurd (Nat.le_of_ble_eq_true hb) h1.1
    rw [h, h2, cond_false, ← h1.2]
    rfl
theorem f_tget_eq {w : e_W} {q : Nat} (h : Nat.ble q 8191 = true) : f_tg13 w q = e_tget 13 w q := by
  rw [f_tg13_eq, Nat.mod_eq_of_lt (show q < 8192 from Nat.lt_succ_of_le (Nat.le_of_ble_eq_true h))]
theorem f_tput_eq {x : e_C} {w : e_W} {q : Nat} {k : e_W → Bool} (h : Nat.ble q 8191 = true) : f_tp13 x w q k = e_tput x 13 w q k := by
  rw [f_tp13_eq, Nat.mod_eq_of_lt (show q < 8192 from Nat.lt_succ_of_le (Nat.le_of_ble_eq_true h))]
noncomputable def f_nth {α : Type} (l : List α) : Nat → Option α := List.rec (motive := fun _ => Nat → Option α) (fun _ => none) (fun a _ ih n => Nat.rec (motive := fun _ => Option α) (some a) (fun m _ => ih m) n) l
theorem f_nth_eq {α : Type} : ∀ (l : List α) (n : Nat), f_nth l n = e_nth l n
  | [], n => by cases n <;> rfl
  | a :: l, 0 => rfl
  | a :: l, n + 1 => f_nth_eq l n
noncomputable def f_rg1 (l : List (Nat × e_V)) : Nat → Option e_V := List.rec (motive := fun _ => Nat → Option e_V) (fun _ => none) (fun p _ ih j => Prod.rec (motive := fun _ => Option e_V) (fun n v => Bool.rec (motive := fun _ => Option e_V) (some v) (ih (Nat.sub j n)) (Nat.ble n j)) p) l
theorem f_rg1_eq : ∀ (l : List (Nat × e_V)) (j : Nat), f_rg1 l j = e_rget l j j
  | [], j => rfl
  | (n, v) :: l, j => by
    show (Bool.rec (motive := fun _ => Option e_V) (some v) (f_rg1 l (j - n)) (Nat.ble n j) : Option e_V) = bif Nat.blt j n then (bif Nat.blt j n then some v else none) else e_rget l (j - n) (j - n)
    rw [f_rg1_eq l (j - n)]
    cases hb : Nat.ble n j with
    | true =>
      have h1 : Nat.blt j n = false := by
        cases hc : Nat.blt j n with
        | false => rfl
        | true =>
          have h2 : j < n := Nat.le_of_ble_eq_true hc
          have h3 := Nat.le_of_ble_eq_true hb
          omega
      rw [h1]; rfl
    | false =>
      have h1 : Nat.blt j n = true := by
        apply Nat.ble_eq_true_of_le
        have h3 : ¬ n ≤ j := fun h => by rw [Nat.ble_eq_true_of_le h] at hb; cases hb
        omega
      rw [h1]; rfl
theorem e_congr_getf {fi : Nat → Option Nat} {nx : Nat} (g1 g2 : e_G) (F : e_F) (ls : e_A) (st : List e_V) (w : e_W) (c : e_Q) (K : e_K) (h : g1 F nx = g2 F nx) : o_getf fi nx g1 F ls st w c K = o_getf fi nx g2 F ls st w c K := by unfold o_getf; simp only [h]
noncomputable def h_tg0 (w : e_T 0) (_ : Nat) : e_C := w
theorem h_tg0_eq (w : e_T 0) (q : Nat) : h_tg0 w q = f_tg0 w q := rfl
noncomputable def h_tg1 (w : e_T 1) (q : Nat) : e_C := Prod.rec (motive := fun _ => e_C) (fun (a b : e_T 0) => h_tg0 (Nat.rec (motive := fun _ => e_T 0) a (fun _ _ => b) (Nat.mod (Nat.div q 1) 2)) q) (w : e_T 0 × e_T 0)
theorem h_tg1_eq (w : e_T 1) (q : Nat) : h_tg1 w q = f_tg1 w q := by
  obtain ⟨a, b⟩ := (show e_T 0 × e_T 0 from w)
  show h_tg0 (Nat.rec (motive := fun _ => e_T 0) a (fun _ _ => b) (Nat.mod (Nat.div q 1) 2)) q = (Nat.rec (motive := fun _ => e_C) (f_tg0 a q) (fun _ _ => f_tg0 b q) (Nat.mod (Nat.div q 1) 2) : e_C)
  rw [h_tg0_eq]
  generalize Nat.mod (Nat.div q 1) 2 = n
  cases n <;> rfl
noncomputable def h_tg2 (w : e_T 2) (q : Nat) : e_C := Prod.rec (motive := fun _ => e_C) (fun (a b : e_T 1) => h_tg1 (Nat.rec (motive := fun _ => e_T 1) a (fun _ _ => b) (Nat.mod (Nat.div q 2) 2)) q) (w : e_T 1 × e_T 1)
theorem h_tg2_eq (w : e_T 2) (q : Nat) : h_tg2 w q = f_tg2 w q := by
  obtain ⟨a, b⟩ := (show e_T 1 × e_T 1 from w)
  show h_tg1 (Nat.rec (motive := fun _ => e_T 1) a (fun _ _ => b) (Nat.mod (Nat.div q 2) 2)) q = (Nat.rec (motive := fun _ => e_C) (f_tg1 a q) (fun _ _ => f_tg1 b q) (Nat.mod (Nat.div q 2) 2) : e_C)
  rw [h_tg1_eq]
  generalize Nat.mod (Nat.div q 2) 2 = n
  cases n <;> rfl
noncomputable def h_tg3 (w : e_T 3) (q : Nat) : e_C := Prod.rec (motive := fun _ => e_C) (fun (a b : e_T 2) => h_tg2 (Nat.rec (motive := fun _ => e_T 2) a (fun _ _ => b) (Nat.mod (Nat.div q 4) 2)) q) (w : e_T 2 × e_T 2)
theorem h_tg3_eq (w : e_T 3) (q : Nat) : h_tg3 w q = f_tg3 w q := by
  obtain ⟨a, b⟩ := (show e_T 2 × e_T 2 from w)
  show h_tg2 (Nat.rec (motive := fun _ => e_T 2) a (fun _ _ => b) (Nat.mod (Nat.div q 4) 2)) q = (Nat.rec (motive := fun _ => e_C) (f_tg2 a q) (fun _ _ => f_tg2 b q) (Nat.mod (Nat.div q 4) 2) : e_C)
  rw [h_tg2_eq]
  generalize Nat.mod (Nat.div q 4) 2 = n
  cases n <;> rfl
noncomputable def h_tg4 (w : e_T 4) (q : Nat) : e_C := Prod.rec (motive := fun _ => e_C) (fun (a b : e_T 3) => h_tg3 (Nat.rec (motive := fun _ => e_T 3) a (fun _ _ => b) (Nat.mod (Nat.div q 8) 2)) q) (w : e_T 3 × e_T 3)
theorem h_tg4_eq (w : e_T 4) (q : Nat) : h_tg4 w q = f_tg4 w q := by
  obtain ⟨a, b⟩ := (show e_T 3 × e_T 3 from w)
  show h_tg3 (Nat.rec (motive := fun _ => e_T 3) a (fun _ _ => b) (Nat.mod (Nat.div q 8) 2)) q = (Nat.rec (motive := fun _ => e_C) (f_tg3 a q) (fun _ _ => f_tg3 b q) (Nat.mod (Nat.div q 8) 2) : e_C)
  rw [h_tg3_eq]
  generalize Nat.mod (Nat.div q 8) 2 = n
  cases n <;> rfl
noncomputable def h_tg5 (w : e_T 5) (q : Nat) : e_C := Prod.rec (motive := fun _ => e_C) (fun (a b : e_T 4) => h_tg4 (Nat.rec (motive := fun _ => e_T 4) a (fun _ _ => b) (Nat.mod (Nat.div q 16) 2)) q) (w : e_T 4 × e_T 4)
theorem h_tg5_eq (w : e_T 5) (q : Nat) : h_tg5 w q = f_tg5 w q := by
  obtain ⟨a, b⟩ := (show e_T 4 × e_T 4 from w)
  show h_tg4 (Nat.rec (motive := fun _ => e_T 4) a (fun _ _ => b) (Nat.mod (Nat.div q 16) 2)) q = (Nat.rec (motive := fun _ => e_C) (f_tg4 a q) (fun _ _ => f_tg4 b q) (Nat.mod (Nat.div q 16) 2) : e_C)
  rw [h_tg4_eq]
  generalize Nat.mod (Nat.div q 16) 2 = n
  cases n <;> rfl
noncomputable def h_tg6 (w : e_T 6) (q : Nat) : e_C := Prod.rec (motive := fun _ => e_C) (fun (a b : e_T 5) => h_tg5 (Nat.rec (motive := fun _ => e_T 5) a (fun _ _ => b) (Nat.mod (Nat.div q 32) 2)) q) (w : e_T 5 × e_T 5)
theorem h_tg6_eq (w : e_T 6) (q : Nat) : h_tg6 w q = f_tg6 w q := by
  obtain ⟨a, b⟩ := (show e_T 5 × e_T 5 from w)
  show h_tg5 (Nat.rec (motive := fun _ => e_T 5) a (fun _ _ => b) (Nat.mod (Nat.div q 32) 2)) q = (Nat.rec (motive := fun _ => e_C) (f_tg5 a q) (fun _ _ => f_tg5 b q) (Nat.mod (Nat.div q 32) 2) : e_C)
  rw [h_tg5_eq]
  generalize Nat.mod (Nat.div q 32) 2 = n
  cases n <;> rfl
noncomputable def h_tg7 (w : e_T 7) (q : Nat) : e_C := Prod.rec (motive := fun _ => e_C) (fun (a b : e_T 6) => h_tg6 (Nat.rec (motive := fun _ => e_T 6) a (fun _ _ => b) (Nat.mod (Nat.div q 64) 2)) q) (w : e_T 6 × e_T 6)
theorem h_tg7_eq (w : e_T 7) (q : Nat) : h_tg7 w q = f_tg7 w q := by
  obtain ⟨a, b⟩ := (show e_T 6 × e_T 6 from w)
  show h_tg6 (Nat.rec (motive := fun _ => e_T 6) a (fun _ _ => b) (Nat.mod (Nat.div q 64) 2)) q = (Nat.rec (motive := fun _ => e_C) (f_tg6 a q) (fun _ _ => f_tg6 b q) (Nat.mod (Nat.div q 64) 2) : e_C)
  rw [h_tg6_eq]
  generalize Nat.mod (Nat.div q 64) 2 = n
  cases n <;> rfl
noncomputable def h_tg8 (w : e_T 8) (q : Nat) : e_C := Prod.rec (motive := fun _ => e_C) (fun (a b : e_T 7) => h_tg7 (Nat.rec (motive := fun _ => e_T 7) a (fun _ _ => b) (Nat.mod (Nat.div q 128) 2)) q) (w : e_T 7 × e_T 7)
theorem h_tg8_eq (w : e_T 8) (q : Nat) : h_tg8 w q = f_tg8 w q := by
  obtain ⟨a, b⟩ := (show e_T 7 × e_T 7 from w)
  show h_tg7 (Nat.rec (motive := fun _ => e_T 7) a (fun _ _ => b) (Nat.mod (Nat.div q 128) 2)) q = (Nat.rec (motive := fun _ => e_C) (f_tg7 a q) (fun _ _ => f_tg7 b q) (Nat.mod (Nat.div q 128) 2) : e_C)
  rw [h_tg7_eq]
  generalize Nat.mod (Nat.div q 128) 2 = n
  cases n <;> rfl
noncomputable def h_tg9 (w : e_T 9) (q : Nat) : e_C := Prod.rec (motive := fun _ => e_C) (fun (a b : e_T 8) => h_tg8 (Nat.rec (motive := fun _ => e_T 8) a (fun _ _ => b) (Nat.mod (Nat.div q 256) 2)) q) (w : e_T 8 × e_T 8)
theorem h_tg9_eq (w : e_T 9) (q : Nat) : h_tg9 w q = f_tg9 w q := by
  obtain ⟨a, b⟩ := (show e_T 8 × e_T 8 from w)
  show h_tg8 (Nat.rec (motive := fun _ => e_T 8) a (fun _ _ => b) (Nat.mod (Nat.div q 256) 2)) q = (Nat.rec (motive := fun _ => e_C) (f_tg8 a q) (fun _ _ => f_tg8 b q) (Nat.mod (Nat.div q 256) 2) : e_C)
  rw [h_tg8_eq]
  generalize Nat.mod (Nat.div q 256) 2 = n
  cases n <;> rfl
noncomputable def h_tg10 (w : e_T 10) (q : Nat) : e_C := Prod.rec (motive := fun _ => e_C) (fun (a b : e_T 9) => h_tg9 (Nat.rec (motive := fun _ => e_T 9) a (fun _ _ => b) (Nat.mod (Nat.div q 512) 2)) q) (w : e_T 9 × e_T 9)
theorem h_tg10_eq (w : e_T 10) (q : Nat) : h_tg10 w q = f_tg10 w q := by
  obtain ⟨a, b⟩ := (show e_T 9 × e_T 9 from w)
  show h_tg9 (Nat.rec (motive := fun _ => e_T 9) a (fun _ _ => b) (Nat.mod (Nat.div q 512) 2)) q = (Nat.rec (motive := fun _ => e_C) (f_tg9 a q) (fun _ _ => f_tg9 b q) (Nat.mod (Nat.div q 512) 2) : e_C)
  rw [h_tg9_eq]
  generalize Nat.mod (Nat.div q 512) 2 = n
  cases n <;> rfl
noncomputable def h_tg11 (w : e_T 11) (q : Nat) : e_C := Prod.rec (motive := fun _ => e_C) (fun (a b : e_T 10) => h_tg10 (Nat.rec (motive := fun _ => e_T 10) a (fun _ _ => b) (Nat.mod (Nat.div q 1024) 2)) q) (w : e_T 10 × e_T 10)
theorem h_tg11_eq (w : e_T 11) (q : Nat) : h_tg11 w q = f_tg11 w q := by
  obtain ⟨a, b⟩ := (show e_T 10 × e_T 10 from w)
  show h_tg10 (Nat.rec (motive := fun _ => e_T 10) a (fun _ _ => b) (Nat.mod (Nat.div q 1024) 2)) q = (Nat.rec (motive := fun _ => e_C) (f_tg10 a q) (fun _ _ => f_tg10 b q) (Nat.mod (Nat.div q 1024) 2) : e_C)
  rw [h_tg10_eq]
  generalize Nat.mod (Nat.div q 1024) 2 = n
  cases n <;> rfl
noncomputable def h_tg12 (w : e_T 12) (q : Nat) : e_C := Prod.rec (motive := fun _ => e_C) (fun (a b : e_T 11) => h_tg11 (Nat.rec (motive := fun _ => e_T 11) a (fun _ _ => b) (Nat.mod (Nat.div q 2048) 2)) q) (w : e_T 11 × e_T 11)
theorem h_tg12_eq (w : e_T 12) (q : Nat) : h_tg12 w q = f_tg12 w q := by
  obtain ⟨a, b⟩ := (show e_T 11 × e_T 11 from w)
  show h_tg11 (Nat.rec (motive := fun _ => e_T 11) a (fun _ _ => b) (Nat.mod (Nat.div q 2048) 2)) q = (Nat.rec (motive := fun _ => e_C) (f_tg11 a q) (fun _ _ => f_tg11 b q) (Nat.mod (Nat.div q 2048) 2) : e_C)
  rw [h_tg11_eq]
  generalize Nat.mod (Nat.div q 2048) 2 = n
  cases n <;> rfl
noncomputable def h_tg13 (w : e_T 13) (q : Nat) : e_C := Prod.rec (motive := fun _ => e_C) (fun (a b : e_T 12) => h_tg12 (Nat.rec (motive := fun _ => e_T 12) a (fun _ _ => b) (Nat.mod (Nat.div q 4096) 2)) q) (w : e_T 12 × e_T 12)
theorem h_tg13_eq (w : e_T 13) (q : Nat) : h_tg13 w q = f_tg13 w q := by
  obtain ⟨a, b⟩ := (show e_T 12 × e_T 12 from w)
  show h_tg12 (Nat.rec (motive := fun _ => e_T 12) a (fun _ _ => b) (Nat.mod (Nat.div q 4096) 2)) q = (Nat.rec (motive := fun _ => e_C) (f_tg12 a q) (fun _ _ => f_tg12 b q) (Nat.mod (Nat.div q 4096) 2) : e_C)
  rw [h_tg12_eq]
  generalize Nat.mod (Nat.div q 4096) 2 = n
  cases n <;> rfl
noncomputable def f_tgA (w : e_W) (q : Nat) : e_C := Prod.rec (motive := fun _ => e_C) (fun (a b : e_T 12) => Prod.rec (motive := fun _ => e_C) (fun (a b : e_T 11) => Prod.rec (motive := fun _ => e_C) (fun (a b : e_T 10) => Prod.rec (motive := fun _ => e_C) (fun (a b : e_T 9) => Prod.rec (motive := fun _ => e_C) (fun (a b : e_T 8) => Prod.rec (motive := fun _ => e_C) (fun (a b : e_T 7) => Prod.rec (motive := fun _ => e_C) (fun (a b : e_T 6) => Prod.rec (motive := fun _ => e_C) (fun (a b : e_T 5) => Prod.rec (motive := fun _ => e_C) (fun (a b : e_T 4) => Prod.rec (motive := fun _ => e_C) (fun (a b : e_T 3) => Prod.rec (motive := fun _ => e_C) (fun (a b : e_T 2) => Prod.rec (motive := fun _ => e_C) (fun (a b : e_T 1) => Prod.rec (motive := fun _ => e_C) (fun (a b : e_T 0) => (Nat.rec (motive := fun _ => e_T 0) a (fun _ _ => b) (Nat.mod (Nat.div q 1) 2))) ((Nat.rec (motive := fun _ => e_T 1) a (fun _ _ => b) (Nat.mod (Nat.div q 2) 2)) : e_T 0 × e_T 0)) ((Nat.rec (motive := fun _ => e_T 2) a (fun _ _ => b) (Nat.mod (Nat.div q 4) 2)) : e_T 1 × e_T 1)) ((Nat.rec (motive := fun _ => e_T 3) a (fun _ _ => b) (Nat.mod (Nat.div q 8) 2)) : e_T 2 × e_T 2)) ((Nat.rec (motive := fun _ => e_T 4) a (fun _ _ => b) (Nat.mod (Nat.div q 16) 2)) : e_T 3 × e_T 3)) ((Nat.rec (motive := fun _ => e_T 5) a (fun _ _ => b) (Nat.mod (Nat.div q 32) 2)) : e_T 4 × e_T 4)) ((Nat.rec (motive := fun _ => e_T 6) a (fun _ _ => b) (Nat.mod (Nat.div q 64) 2)) : e_T 5 × e_T 5)) ((Nat.rec (motive := fun _ => e_T 7) a (fun _ _ => b) (Nat.mod (Nat.div q 128) 2)) : e_T 6 × e_T 6)) ((Nat.rec (motive := fun _ => e_T 8) a (fun _ _ => b) (Nat.mod (Nat.div q 256) 2)) : e_T 7 × e_T 7)) ((Nat.rec (motive := fun _ => e_T 9) a (fun _ _ => b) (Nat.mod (Nat.div q 512) 2)) : e_T 8 × e_T 8)) ((Nat.rec (motive := fun _ => e_T 10) a (fun _ _ => b) (Nat.mod (Nat.div q 1024) 2)) : e_T 9 × e_T 9)) ((Nat.rec (motive := fun _ => e_T 11) a (fun _ _ => b) (Nat.mod (Nat.div q 2048) 2)) : e_T 10 × e_T 10)) ((Nat.rec (motive := fun _ => e_T 12) a (fun _ _ => b) (Nat.mod (Nat.div q 4096) 2)) : e_T 11 × e_T 11)) (w : e_T 12 × e_T 12)
noncomputable def f_tgB (w : e_T 9) (q : Nat) : e_C := Prod.rec (motive := fun _ => e_C) (fun (a b : e_T 8) => Prod.rec (motive := fun _ => e_C) (fun (a b : e_T 7) => Prod.rec (motive := fun _ => e_C) (fun (a b : e_T 6) => Prod.rec (motive := fun _ => e_C) (fun (a b : e_T 5) => Prod.rec (motive := fun _ => e_C) (fun (a b : e_T 4) => Prod.rec (motive := fun _ => e_C) (fun (a b : e_T 3) => Prod.rec (motive := fun _ => e_C) (fun (a b : e_T 2) => Prod.rec (motive := fun _ => e_C) (fun (a b : e_T 1) => Prod.rec (motive := fun _ => e_C) (fun (a b : e_T 0) => (Nat.rec (motive := fun _ => e_T 0) a (fun _ _ => b) (Nat.mod (Nat.div q 1) 2))) ((Nat.rec (motive := fun _ => e_T 1) a (fun _ _ => b) (Nat.mod (Nat.div q 2) 2)) : e_T 0 × e_T 0)) ((Nat.rec (motive := fun _ => e_T 2) a (fun _ _ => b) (Nat.mod (Nat.div q 4) 2)) : e_T 1 × e_T 1)) ((Nat.rec (motive := fun _ => e_T 3) a (fun _ _ => b) (Nat.mod (Nat.div q 8) 2)) : e_T 2 × e_T 2)) ((Nat.rec (motive := fun _ => e_T 4) a (fun _ _ => b) (Nat.mod (Nat.div q 16) 2)) : e_T 3 × e_T 3)) ((Nat.rec (motive := fun _ => e_T 5) a (fun _ _ => b) (Nat.mod (Nat.div q 32) 2)) : e_T 4 × e_T 4)) ((Nat.rec (motive := fun _ => e_T 6) a (fun _ _ => b) (Nat.mod (Nat.div q 64) 2)) : e_T 5 × e_T 5)) ((Nat.rec (motive := fun _ => e_T 7) a (fun _ _ => b) (Nat.mod (Nat.div q 128) 2)) : e_T 6 × e_T 6)) ((Nat.rec (motive := fun _ => e_T 8) a (fun _ _ => b) (Nat.mod (Nat.div q 256) 2)) : e_T 7 × e_T 7)) (w : e_T 8 × e_T 8)
theorem f_tgA_eq {w : e_W} {q : Nat} (h : Nat.ble q 8191 = true) : f_tgA w q = e_tget 13 w q := (show f_tgA w q = h_tg13 w q from rfl).trans ((h_tg13_eq w q).trans (f_tget_eq h))
theorem f_tgB_eq {w : e_T 9} {q : Nat} (h : Nat.ble q 511 = true) : f_tgB w q = e_tget 9 w q := (show f_tgB w q = h_tg9 w q from rfl).trans ((h_tg9_eq w q).trans (by rw [f_tg9_eq, Nat.mod_eq_of_lt (show q < 512 from Nat.lt_succ_of_le (Nat.le_of_ble_eq_true h))]))
theorem f_lo {n q : Nat} (h : Nat.ble q 511 = true) (hn : 512 ≤ n) : Nat.blt q n = true := Nat.ble_eq_true_of_le (Nat.le_trans (Nat.succ_le_succ (Nat.le_of_ble_eq_true h)) hn)
theorem f_tl {n : Nat} {a b : e_T n} {q : Nat} (h : Nat.blt q (2 ^ n) = true) : e_tget (n + 1) (show e_T (n + 1) from ((a, b) : e_T n × e_T n)) q = e_tget n a q := by
  show (bif Nat.blt q (2 ^ n) then e_tget n a q else e_tget n b (q - 2 ^ n)) = _
  rw [h, cond_true]
theorem f_pl {x : e_C} {n : Nat} {a b : e_T n} {q : Nat} {k : e_T (n + 1) → Bool} (h : Nat.blt q (2 ^ n) = true) : e_tput x (n + 1) (show e_T (n + 1) from ((a, b) : e_T n × e_T n)) q k = e_tput x n a q (fun a' => k (show e_T (n + 1) from ((a', b) : e_T n × e_T n))) := by
  show (bif Nat.blt q (2 ^ n) then e_tput x n a q (fun a' => k (show e_T (n + 1) from ((a', b) : e_T n × e_T n))) else e_tput x n b (q - 2 ^ n) (fun b' => k (show e_T (n + 1) from ((a, b') : e_T n × e_T n)))) = _
  rw [h, cond_true]
noncomputable def f_tg (w : e_W) (q : Nat) : e_C := Bool.rec (motive := fun _ => e_C) (f_tgA w q) (Prod.rec (motive := fun _ => e_C) (fun (a _ : e_T 12) => Prod.rec (motive := fun _ => e_C) (fun (a _ : e_T 11) => Prod.rec (motive := fun _ => e_C) (fun (a _ : e_T 10) => Prod.rec (motive := fun _ => e_C) (fun (a _ : e_T 9) => f_tgB a q) (a : e_T 9 × e_T 9)) (a : e_T 10 × e_T 10)) (a : e_T 11 × e_T 11)) (w : e_T 12 × e_T 12)) (Nat.ble q 511)
theorem f_tg_eq {w : e_W} {q : Nat} (h : Nat.ble q 8191 = true) : f_tg w q = e_tget 13 w q := by
  unfold f_tg
  cases hl : Nat.ble q 511 with
  | false => exact f_tgA_eq h
  | true =>
    obtain ⟨w, b12⟩ := (show e_T 12 × e_T 12 from w)
    obtain ⟨w, b11⟩ := (show e_T 11 × e_T 11 from w)
    obtain ⟨w, b10⟩ := (show e_T 10 × e_T 10 from w)
    obtain ⟨w, b9⟩ := (show e_T 9 × e_T 9 from w)
    exact (f_tgB_eq hl).trans ((f_tl (n := 12) (f_lo hl (by decide))).trans ((f_tl (n := 11) (f_lo hl (by decide))).trans ((f_tl (n := 10) (f_lo hl (by decide))).trans (f_tl (n := 9) (f_lo hl (by decide)))))).symm
noncomputable def f_tpq (x : e_C) (w : e_W) (q : Nat) (k : e_W → Bool) : Bool := Bool.rec (motive := fun _ => Bool) (f_tp13 x w q k) (Prod.rec (motive := fun _ => Bool) (fun (a d : e_T 12) => Prod.rec (motive := fun _ => Bool) (fun (a c : e_T 11) => Prod.rec (motive := fun _ => Bool) (fun (a b : e_T 10) => Prod.rec (motive := fun _ => Bool) (fun (a z : e_T 9) => f_tp9 x a q (fun t => k (show e_T 13 from (((show e_T 12 from (((show e_T 11 from (((show e_T 10 from ((t, z) : e_T 9 × e_T 9)), b) : e_T 10 × e_T 10)), c) : e_T 11 × e_T 11)), d) : e_T 12 × e_T 12)))) (a : e_T 9 × e_T 9)) (a : e_T 10 × e_T 10)) (a : e_T 11 × e_T 11)) (w : e_T 12 × e_T 12)) (Nat.ble q 511)
theorem f_tpq_eq {x : e_C} {w : e_W} {q : Nat} {k : e_W → Bool} (h : Nat.ble q 8191 = true) : f_tpq x w q k = e_tput x 13 w q k := by
  unfold f_tpq
  cases hl : Nat.ble q 511 with
  | false => exact f_tput_eq h
  | true =>
    obtain ⟨w, b12⟩ := (show e_T 12 × e_T 12 from w)
    obtain ⟨w, b11⟩ := (show e_T 11 × e_T 11 from w)
    obtain ⟨w, b10⟩ := (show e_T 10 × e_T 10 from w)
    obtain ⟨w, b9⟩ := (show e_T 9 × e_T 9 from w)
    have e9 : ∀ k9 : e_T 9 → Bool, f_tp9 x w q k9 = e_tput x 9 w q k9 := fun k9 => by rw [f_tp9_eq, Nat.mod_eq_of_lt (show q < 512 from Nat.lt_succ_of_le (Nat.le_of_ble_eq_true hl))]
    exact (e9 _).trans ((f_pl (n := 12) (f_lo hl (by decide))).trans ((f_pl (n := 11) (f_lo hl (by decide))).trans ((f_pl (n := 10) (f_lo hl (by decide))).trans (f_pl (n := 9) (f_lo hl (by decide)))))).symm
noncomputable def u_g4 (nxt : e_Y) (X : e_P) (ls : e_A) (r : List e_V) (x : Option e_V) : Bool := Option.rec (motive := fun _ => Bool) false (fun v => nxt X ls (v :: r)) x
noncomputable def u_g3 (ci k : Nat) (nxt : e_Y) (X : e_P) (ls : e_A) (r : List e_V) (x : e_C) : Bool := Sum.rec (motive := fun _ => Bool) (fun p => Prod.rec (motive := fun _ => Bool) (fun cj fs => Bool.rec (motive := fun _ => Bool) false (u_g4 nxt X ls r (f_nth fs k)) (Nat.beq cj ci)) p) (fun _ => false) x
noncomputable def u_g2 (ci k : Nat) (slow nxt : e_Y) (X : e_P) (ls : e_A) (st r : List e_V) (q : Nat) : Bool := Bool.rec (motive := fun _ => Bool) (slow X ls st) (u_g3 ci k nxt X ls r (f_tg X.2.2.1 q)) (Nat.ble q 8191)
noncomputable def u_g1 (ci k : Nat) (slow nxt : e_Y) (X : e_P) (ls : e_A) (st r : List e_V) (v : e_V) : Bool := Sum.rec (motive := fun _ => Bool) (fun _ => false) (fun z => Sum.rec (motive := fun _ => Bool) (fun o => Option.rec (motive := fun _ => Bool) false (fun q => u_g2 ci k slow nxt X ls st r q) o) (fun _ => false) z) v
noncomputable def u_getf (ci k : Nat) (slow nxt : e_Y) : e_Y := fun X ls st => List.rec (motive := fun _ => Bool) false (fun v r _ => u_g1 ci k slow nxt X ls st r v) st
theorem u_getfT {ci k nx : Nat} {nxt : e_Y} (ho : e_Sn M pc (o_getf (e_f1 ci k) nx)) (hn : e_Sn M nx (e_un nxt)) : e_Sn M pc (e_un (u_getf ci k (u_old (o_getf (e_f1 ci k) nx) nxt) nxt)) := e_thr ho hn e_congr_getf (fun g F ls st w c K => by
  rcases st with _ | ⟨v, r⟩
  · rfl
  · rcases v with m | (_ | q) | v
    · rfl
    · rfl
    · show u_g2 ci k (u_old (o_getf (e_f1 ci k) nx) nxt) nxt (g, F, w, c, K) ls (.inr (.inl (some q)) :: r) r q = _
      unfold u_g2
      cases hq : Nat.ble q 8191 with
      | false => rfl
      | true =>
        dsimp only
        rw [f_tg_eq hq]
        unfold o_getf e_k e_f1
        dsimp only
        generalize e_tget 13 w q = x
        rcases x with ⟨cj, fs⟩ | ⟨t, rs⟩
        · unfold u_g3
          dsimp only
          cases Nat.beq cj ci
          · rfl
          · dsimp only [cond_true]
            rw [f_nth_eq]
            cases e_nth fs k <;> rfl
        · rfl
    · rfl)
theorem e_congr_aldO {tc nx : Nat} (g1 g2 : e_G) (F : e_F) (ls : e_A) (st : List e_V) (w : e_W) (c : e_Q) (K : e_K) (h : g1 F nx = g2 F nx) : o_aldO tc nx g1 F ls st w c K = o_aldO tc nx g2 F ls st w c K := by unfold o_aldO; simp only [h]
theorem e_congr_ald {fc : List (List (Nat × e_V))} {nx : Nat} (g1 g2 : e_G) (F : e_F) (ls : e_A) (st : List e_V) (w : e_W) (c : e_Q) (K : e_K) (h : g1 F nx = g2 F nx) : o_ald fc nx g1 F ls st w c K = o_ald fc nx g2 F ls st w c K := by
  unfold o_ald
  split
  · simp only [h]
  · exact e_congr_aldO g1 g2 F ls _ w c K h
noncomputable def u_a3 (tc j : Nat) (nxt : e_Y) (X : e_P) (ls : e_A) (r : List e_V) (x : e_C) : Bool := Sum.rec (motive := fun _ => Bool) (fun _ => false) (fun p => Prod.rec (motive := fun _ => Bool) (fun t rs => Bool.rec (motive := fun _ => Bool) false (u_g4 nxt X ls r (f_rg1 rs j)) (Nat.beq t tc)) p) x
noncomputable def u_a2 (tc : Nat) (slow nxt : e_Y) (X : e_P) (ls : e_A) (st r : List e_V) (i q : Nat) : Bool := Bool.rec (motive := fun _ => Bool) (slow X ls st) (u_a3 tc (Nat.sub i 2147483648) nxt X ls r (f_tg X.2.2.1 q)) (Nat.ble q 8191 && Nat.ble 2147483648 i)
noncomputable def u_a1 (tc : Nat) (slow nxt : e_Y) (X : e_P) (ls : e_A) (st r : List e_V) (i : Nat) (v : e_V) : Bool := Sum.rec (motive := fun _ => Bool) (fun _ => slow X ls st) (fun z => Sum.rec (motive := fun _ => Bool) (fun o => Option.rec (motive := fun _ => Bool) (slow X ls st) (fun q => u_a2 tc slow nxt X ls st r i q) o) (fun _ => slow X ls st) z) v
noncomputable def u_a0 (tc : Nat) (slow nxt : e_Y) (X : e_P) (ls : e_A) (st r1 : List e_V) (i : e_V) : Bool := Sum.rec (motive := fun _ => Bool) (fun i => List.rec (motive := fun _ => Bool) (slow X ls st) (fun v r _ => u_a1 tc slow nxt X ls st r i v) r1) (fun _ => slow X ls st) i
noncomputable def u_ald (tc : Nat) (slow nxt : e_Y) : e_Y := fun X ls st => List.rec (motive := fun _ => Bool) (slow X ls st) (fun i r1 _ => u_a0 tc slow nxt X ls st r1 i) st
theorem u_ald_eq {tc : Nat} {o : e_O} {nx : Nat} {nxt : e_Y} (h : ∀ (g : e_G) (F : e_F) (ls : e_A) (r : List e_V) (w : e_W) (c : e_Q) (K : e_K) (i q : Nat), o (e_k (e_un nxt) g) F ls (.inl i :: .inr (.inl (some q)) :: r) w c K = o_aldO tc nx (e_k (e_un nxt) g) F ls (.inl i :: .inr (.inl (some q)) :: r) w c K) (g : e_G) (F : e_F) (ls : e_A) (st : List e_V) (w : e_W) (c : e_Q) (K : e_K) : e_un (u_ald tc (u_old o nxt) nxt) g F ls st w c K = o (e_k (e_un nxt) g) F ls st w c K := by
  rcases st with _ | ⟨i, r1⟩
  · rfl
  · rcases i with i | i
    · rcases r1 with _ | ⟨v, r⟩
      · rfl
      · rcases v with m | (_ | q) | v
        · rfl
        · rfl
        · show u_a2 tc (u_old o nxt) nxt (g, F, w, c, K) ls (.inl i :: .inr (.inl (some q)) :: r) r i q = _
          unfold u_a2
          cases hq : (Nat.ble q 8191 && Nat.ble 2147483648 i) with
          | false => rfl
          | true =>
            obtain ⟨h1, h2⟩ := (Bool.and_eq_true _ _).mp hq
            rw [h]
            dsimp only
            rw [f_tg_eq h1]
            unfold o_aldO e_k
            dsimp only [e_rg]
            show u_a3 tc (i - 2147483648) nxt (g, F, w, c, K) ls r (e_tget 13 w q) = _
            generalize e_tget 13 w q = x
            rcases x with ⟨cj, fs⟩ | ⟨t, rs⟩
            · rfl
            · unfold u_a3
              dsimp only
              rw [f_rg1_eq, h2, Nat.ble_eq_true_of_le (Nat.le_refl i), Bool.and_true, Bool.and_true]
              generalize e_rget rs (i - 2147483648) (i - 2147483648) = y
              cases Nat.beq t tc
              · rfl
              · cases y <;> rfl
        · rfl
    · rfl
theorem u_aldOT {tc nx : Nat} {nxt : e_Y} (ho : e_Sn M pc (o_aldO tc nx)) (hn : e_Sn M nx (e_un nxt)) : e_Sn M pc (e_un (u_ald tc (u_old (o_aldO tc nx) nxt) nxt)) := e_thr ho hn e_congr_aldO (u_ald_eq (nx := nx) (fun _ _ _ _ _ _ _ _ _ => rfl))
theorem u_aldT {fc : List (List (Nat × e_V))} {nx : Nat} {nxt : e_Y} (ho : e_Sn M pc (o_ald fc nx)) (hn : e_Sn M nx (e_un nxt)) : e_Sn M pc (e_un (u_ald 0 (u_old (o_ald fc nx) nxt) nxt)) := e_thr ho hn e_congr_ald (u_ald_eq (nx := nx) (fun _ _ _ _ _ _ _ _ _ => rfl))
noncomputable def f_args (n : Nat) : List e_V → List e_V → (List e_V → List e_V → Bool) → Bool := Nat.rec (motive := fun _ => List e_V → List e_V → (List e_V → List e_V → Bool) → Bool) (fun as st k => k as st) (fun _ ih as st k => List.rec (motive := fun _ => Bool) (false) (fun v r _ => ih (v :: as) r k) st) n
theorem f_args_eq : ∀ (n : Nat) (as st : List e_V) (k : List e_V → List e_V → Bool), f_args n as st k = e_args n as st k
  | 0, _, _, _ => rfl
  | n + 1, as, [], _ => rfl
  | n + 1, as, v :: r, k => f_args_eq n (v :: as) r k
noncomputable def f_rpl (m : Nat) : e_A := Nat.rec (motive := fun _ => e_A) [] (fun _ ih => none :: ih) m
theorem f_rpl_eq : ∀ m : Nat, f_rpl m = List.replicate m none
  | 0 => rfl
  | m + 1 => by
    show none :: f_rpl m = none :: List.replicate m none
    rw [f_rpl_eq m]
noncomputable def f_loc (l : List e_V) : Nat → (e_A → Bool) → Bool := List.rec (motive := fun _ => Nat → (e_A → Bool) → Bool) (fun m k => k (f_rpl m)) (fun v _ ih m k => Nat.rec (motive := fun _ => Bool) false (fun z _ => f_w1 v (ih z (fun a => k (some v :: a))) (Nat.rec (motive := fun _ => Bool) false (fun y _ => ih y (fun a => k (some v :: none :: a))) z)) m) l
theorem f_loc_eq : ∀ (l : List e_V) (m : Nat) (k : e_A → Bool), f_loc l m k = e_loc l m k
  | [], m, k => by
    show k (f_rpl m) = k (List.replicate m none)
    rw [f_rpl_eq]
  | v :: l, 0, k => rfl
  | v :: l, z + 1, k => by
    show f_w1 v (f_loc l z (fun a => k (some v :: a))) (Nat.rec (motive := fun _ => Bool) false (fun y _ => f_loc l y (fun a => k (some v :: none :: a))) z) = (bif e_is1 v then e_loc l z (fun a => k (some v :: a)) else match z with
      | 0 => false
      | y + 1 => e_loc l y (fun a => k (some v :: none :: a)))
    rw [f_w1_eq]
    cases e_is1 v with
    | true => exact f_loc_eq l z _
    | false =>
      cases z with
      | zero => rfl
      | succ y => exact f_loc_eq l y _
noncomputable def f_n1 (v : e_V) : Nat := Sum.rec (motive := fun _ => Nat) (fun _ => 1) (fun v1 => Sum.rec (motive := fun _ => Nat) (fun _ => 1) (fun v2 => Sum.rec (motive := fun _ => Nat) (fun _ => 2) (fun v3 => Sum.rec (motive := fun _ => Nat) (fun _ => 1) (fun v4 => Sum.rec (motive := fun _ => Nat) (fun _ => 2) (fun _ => 1) v4) v3) v2) v1) v
noncomputable def f_stw (r : List e_V) : Nat := List.rec (motive := fun _ => Nat) 0 (fun v _ ih => f_n1 v + ih) r
theorem f_stw_eq : ∀ r : List e_V, f_stw r = e_stw r
  | [] => rfl
  | v :: r => by
    show f_n1 v + f_stw r = (bif e_is1 v then 1 else 2) + e_stw r
    rw [f_stw_eq r]
    rcases v with m | q | m | q | q | q <;> rfl

/-- the callee's first place goes on with ny, all others with nxt -/
noncomputable def e_kc (ny nxt : e_O) (g : e_G) : e_G := fun F pc => bif Nat.beq pc 0 then ny g F else nxt g F
noncomputable def u_ret (nxt : e_Y) (g : e_G) (F : e_F) (ls : e_A) (r : List e_V) (K : e_K) : e_K := fun z w2 c2 => Sum.rec (motive := fun _ => Bool) (fun ov => Option.rec (motive := fun _ => Bool) (nxt (g, F, w2, c2, K) ls r) (fun v => nxt (g, F, w2, c2, K) ls (v :: r)) ov) (fun _ => false) z
noncomputable def u_go2 (y m m19 : Nat) (ny nxt : e_Y) (ls : e_A) (as r : List e_V) (g : e_G) (F : e_F) (w : e_W) (c : e_Q) (K : e_K) (fr lo : Nat) (bx : List (Nat × e_V)) : Bool := f_fo (Nat.sub fr 1) (fun fr2 => f_fo (Nat.sub lo m19) (fun lo2 => f_loc as m (fun la => ny (g, (y, fr2, lo2, bx), w, c, u_ret nxt g F ls r K) la [])))
noncomputable def u_go1 (y m m19 : Nat) (ny nxt : e_Y) (ls : e_A) (as r : List e_V) (g : e_G) (F : e_F) (w : e_W) (c : e_Q) (K : e_K) : Bool := Prod.rec (motive := fun _ => Bool) (fun _ F1 => Prod.rec (motive := fun _ => Bool) (fun fr F2 => Prod.rec (motive := fun _ => Bool) (fun lo bx => Bool.rec (motive := fun _ => Bool) false (u_go2 y m m19 ny nxt ls as r g F w c K fr lo bx) (Nat.ble 1 fr && Nat.ble m19 lo && Nat.ble (f_stw r) 8)) F2) F1) F
noncomputable def u_go (y m m19 : Nat) (ny nxt : e_Y) (X : e_P) (ls : e_A) (as r : List e_V) : Bool := Prod.rec (motive := fun _ => Bool) (fun g X => Prod.rec (motive := fun _ => Bool) (fun F X => Prod.rec (motive := fun _ => Bool) (fun w X => Prod.rec (motive := fun _ => Bool) (fun c K => u_go1 y m m19 ny nxt ls as r g F w c K) X) X) X) X
theorem u_go_eq {y m nx : Nat} {as r : List e_V} {ny nxt : e_Y} {g : e_G} {F : e_F} {ls : e_A} {w : e_W} {c : e_Q} {K : e_K} (hne : Nat.beq nx 0 = false) : u_go y m (m + 19) ny nxt (g, F, w, c, K) ls as r = e_go y m as nx r (e_kc (e_un ny) (e_un nxt) g) F ls w c K (fun _ _ _ => false) := by
  obtain ⟨M, fr, lo, bx⟩ := F
  unfold u_go u_go1 u_go2 e_go e_kc
  dsimp only
  rw [hne, f_stw_eq]
  simp only [f_fo_eq, f_loc_eq, Nat.beq_refl, cond_true, cond_false]
  show Bool.rec (motive := fun _ => Bool) false _ (Nat.blt 0 fr && Nat.ble (m + 19) lo && Nat.ble (e_stw r) 8) = _
  generalize (Nat.blt 0 fr && Nat.ble (m + 19) lo && Nat.ble (e_stw r) 8) = G
  cases G
  · rfl
  · dsimp only [cond_true]
    show e_fo (fr - 1) _ = _
    congr 1
    funext fr2
    show e_fo (lo - (m + 19)) _ = _
    congr 1
    funext lo2
    congr 1
    funext la
    unfold e_un
    congr 1
    refine Prod.ext rfl (Prod.ext rfl (Prod.ext rfl (Prod.ext rfl ?_)))
    funext z w2 c2
    rcases z with (_ | v) | E <;> rfl
theorem e_thrc {y nx : Nat} {f o ny nxt : e_O} (hne : Nat.beq nx 0 = false) (ho : e_Sn M pc o) (hy : e_Sn y 0 ny) (hn : e_Sn M nx nxt) (hc : ∀ (g1 g2 : e_G) (F : e_F) (ls : e_A) (st : List e_V) (w : e_W) (c : e_Q) (K : e_K), (∀ G : Nat × Nat × List (Nat × e_V), g1 (y, G) 0 = g2 (y, G) 0) → g1 F nx = g2 F nx → o g1 F ls st w c K = o g2 F ls st w c K) (hf : ∀ (g : e_G) (F : e_F) (ls : e_A) (st : List e_V) (w : e_W) (c : e_Q) (K : e_K), f g F ls st w c K = o (e_kc ny nxt g) F ls st w c K) : e_Sn M pc f := by
  intro g hg F al st w c K hM h
  rw [hf] at h
  refine ho _ (e_th2_gd hy hn hg) F al st w c K hM ((hc (e_th2 y 0 M nx ny nxt g) (e_kc ny nxt g) F al st w c K (fun G => ?_) ?_).trans h)
  · funext ls st w c K
    unfold e_th2 e_kc
    dsimp only
    rw [Nat.beq_refl, Nat.beq_refl]
    rfl
  · funext ls st w c K
    unfold e_th2 e_kc
    rw [hM, hne, Nat.beq_refl, Nat.beq_refl, Bool.and_false]
    rfl
theorem e_congr_go {y m nx : Nat} {as r : List e_V} (g1 g2 : e_G) (F : e_F) (ls : e_A) (w : e_W) (c : e_Q) (K : e_K) (X : Nat → e_W → e_Q → Bool) (h1 : ∀ G : Nat × Nat × List (Nat × e_V), g1 (y, G) 0 = g2 (y, G) 0) (h2 : g1 F nx = g2 F nx) : e_go y m as nx r g1 F ls w c K X = e_go y m as nx r g2 F ls w c K X := by
  obtain ⟨M, fr, lo, bx⟩ := F
  unfold e_go
  simp only [h1, h2]
theorem e_congr_callS {y m n nx : Nat} (g1 g2 : e_G) (F : e_F) (ls : e_A) (st : List e_V) (w : e_W) (c : e_Q) (K : e_K) (h1 : ∀ G : Nat × Nat × List (Nat × e_V), g1 (y, G) 0 = g2 (y, G) 0) (h2 : g1 F nx = g2 F nx) : o_callS y m n nx g1 F ls st w c K = o_callS y m n nx g2 F ls st w c K := by
  unfold o_callS
  congr 1
  funext as r
  exact e_congr_go g1 g2 F ls w c K _ h1 h2
noncomputable def u_callS (y m m19 n : Nat) (ny nxt : e_Y) : e_Y := fun X ls st => f_args n [] st (fun as r => u_go y m m19 ny nxt X ls as r)
theorem u_callST {y m n nx : Nat} {ny nxt : e_Y} (hne : Nat.beq nx 0 = false) (ho : e_Sn M pc (o_callS y m n nx)) (hy : e_Sn y 0 (e_un ny)) (hn : e_Sn M nx (e_un nxt)) : e_Sn M pc (e_un (u_callS y m (m + 19) n ny nxt)) := e_thrc hne ho hy hn e_congr_callS (fun g F ls st w c K => by
  unfold e_un u_callS o_callS
  rw [f_args_eq]
  congr 1
  funext as r
  exact u_go_eq hne)
theorem e_congr_callV {ci y m n nx : Nat} (g1 g2 : e_G) (F : e_F) (ls : e_A) (st : List e_V) (w : e_W) (c : e_Q) (K : e_K) (h1 : ∀ G : Nat × Nat × List (Nat × e_V), g1 (y, G) 0 = g2 (y, G) 0) (h2 : g1 F nx = g2 F nx) : o_callV (e_s1 ci y m) n nx g1 F ls st w c K = o_callV (e_s1 ci y m) n nx g2 F ls st w c K := by
  unfold o_callV o_callX
  congr 1
  funext as r
  split
  · next q t =>
    split
    · next cj fs hc =>
      unfold e_s1
      cases Nat.beq cj ci
      · rfl
      · exact e_congr_go g1 g2 F ls w c K _ h1 h2
    · rfl
  · rfl
noncomputable def u_v3 (ci y m m19 : Nat) (ny nxt : e_Y) (X : e_P) (ls : e_A) (as r : List e_V) (x : e_C) : Bool := Sum.rec (motive := fun _ => Bool) (fun p => Prod.rec (motive := fun _ => Bool) (fun cj _ => Bool.rec (motive := fun _ => Bool) false (u_go y m m19 ny nxt X ls as r) (Nat.beq cj ci)) p) (fun _ => false) x
noncomputable def u_v2 (ci y m m19 : Nat) (ny nxt : e_Y) (X : e_P) (ls : e_A) (as r : List e_V) (q : Nat) : Bool := Bool.rec (motive := fun _ => Bool) (u_v3 ci y m m19 ny nxt X ls as r (e_tget 13 X.2.2.1 q)) (u_v3 ci y m m19 ny nxt X ls as r (f_tg X.2.2.1 q)) (Nat.ble q 8191)
noncomputable def u_v1 (ci y m m19 : Nat) (ny nxt : e_Y) (X : e_P) (ls : e_A) (as r : List e_V) (v : e_V) : Bool := Sum.rec (motive := fun _ => Bool) (fun _ => false) (fun z => Sum.rec (motive := fun _ => Bool) (fun o => Option.rec (motive := fun _ => Bool) false (fun q => u_v2 ci y m m19 ny nxt X ls as r q) o) (fun _ => false) z) v
noncomputable def u_v0 (ci y m m19 : Nat) (ny nxt : e_Y) (X : e_P) (ls : e_A) (as r : List e_V) : Bool := List.rec (motive := fun _ => Bool) false (fun v _ _ => u_v1 ci y m m19 ny nxt X ls as r v) as
noncomputable def u_callV (ci y m m19 n : Nat) (ny nxt : e_Y) : e_Y := fun X ls st => f_args n [] st (fun as r => u_v0 ci y m m19 ny nxt X ls as r)
theorem u_callVT {ci y m n nx : Nat} {ny nxt : e_Y} (hne : Nat.beq nx 0 = false) (ho : e_Sn M pc (o_callV (e_s1 ci y m) n nx)) (hy : e_Sn y 0 (e_un ny)) (hn : e_Sn M nx (e_un nxt)) : e_Sn M pc (e_un (u_callV ci y m (m + 19) n ny nxt)) := e_thrc hne ho hy hn e_congr_callV (fun g F ls st w c K => by
  unfold e_un u_callV o_callV o_callX
  rw [f_args_eq]
  congr 1
  funext as r
  rcases as with _ | ⟨v, as⟩
  · rfl
  · rcases v with a | (_ | q) | v
    · rfl
    · rfl
    · have key : ∀ x : e_C, u_v3 ci y m (m + 19) ny nxt (g, F, w, c, K) ls (.inr (.inl (some q)) :: as) r x = (match x with
        | .inl (cj, _) => match e_s1 ci y m cj with
          | some (y, m) => e_go y m (.inr (.inl (some q)) :: as) nx r (e_kc (e_un ny) (e_un nxt) g) F ls w c K (fun _ _ _ => false)
          | none => false
        | _ => false) := by
        intro x
        unfold u_v3
        rw [u_go_eq hne]
        rcases x with ⟨cj, fs⟩ | x
        · unfold e_s1
          dsimp only
          cases Nat.beq cj ci <;> rfl
        · rfl
      show u_v2 ci y m (m + 19) ny nxt (g, F, w, c, K) ls (.inr (.inl (some q)) :: as) r q = _
      unfold u_v2
      cases hq : Nat.ble q 8191 with
      | false => exact key _
      | true =>
        dsimp only
        rw [f_tg_eq hq]
        exact key _
    · rfl)
theorem e_eqS {f o : e_O} (ho : e_Sn M pc o) (hf : ∀ (g : e_G) (F : e_F) (ls : e_A) (st : List e_V) (w : e_W) (c : e_Q) (K : e_K), f g F ls st w c K = o g F ls st w c K) : e_Sn M pc f := by
  intro g hg F al st w c K hM h
  rw [hf] at h
  exact ho g hg F al st w c K hM h
noncomputable def u_r1 (X : e_P) (v : e_V) : Bool := Prod.rec (motive := fun _ => Bool) (fun _ X1 => Prod.rec (motive := fun _ => Bool) (fun _ X1 => Prod.rec (motive := fun _ => Bool) (fun w X1 => Prod.rec (motive := fun _ => Bool) (fun c K => K (.inl (some v)) w c) X1) X1) X1) X
noncomputable def u_retI : e_Y := fun X ls st => List.rec (motive := fun _ => Bool) false (fun v r _ => List.rec (motive := fun _ => Bool) (Bool.rec (motive := fun _ => Bool) false (u_r1 X v) (f_okI v)) (fun _ _ _ => false) r) st
theorem u_retIT (ho : e_Sn M pc (o_ret e_okI)) : e_Sn M pc (e_un u_retI) := e_eqS ho (fun g F ls st w c K => by
  rcases st with _ | ⟨v, _ | ⟨u, r⟩⟩
  · rfl
  · unfold e_un u_retI o_ret
    dsimp only
    rw [f_okI_eq]
    cases e_okI v <;> rfl
  · rfl)
noncomputable def u_retA : e_Y := fun X ls st => List.rec (motive := fun _ => Bool) false (fun v r _ => List.rec (motive := fun _ => Bool) (Bool.rec (motive := fun _ => Bool) false (u_r1 X v) (f_okA v)) (fun _ _ _ => false) r) st
theorem u_retAT (ho : e_Sn M pc (o_ret e_okR)) : e_Sn M pc (e_un u_retA) := e_eqS ho (fun g F ls st w c K => by
  rcases st with _ | ⟨v, _ | ⟨u, r⟩⟩
  · rfl
  · unfold e_un u_retA o_ret
    dsimp only
    rw [f_okA_eq]
    cases e_okR v <;> rfl
  · rfl)
theorem e_cg_idiv  {nx : Nat} (g1 g2 : e_G) (F : e_F) (ls : e_A) (st : List e_V) (w : e_W) (c : e_Q) (K : e_K) (h : g1 F nx = g2 F nx) : o_idiv  nx g1 F ls st w c K = o_idiv  nx g2 F ls st w c K := by unfold o_idiv; simp only [h]
theorem e_cg_irem  {nx : Nat} (g1 g2 : e_G) (F : e_F) (ls : e_A) (st : List e_V) (w : e_W) (c : e_Q) (K : e_K) (h : g1 F nx = g2 F nx) : o_irem  nx g1 F ls st w c K = o_irem  nx g2 F ls st w c K := by unfold o_irem; simp only [h]
theorem e_cg_ishr  {nx : Nat} (g1 g2 : e_G) (F : e_F) (ls : e_A) (st : List e_V) (w : e_W) (c : e_Q) (K : e_K) (h : g1 F nx = g2 F nx) : o_ishr  nx g1 F ls st w c K = o_ishr  nx g2 F ls st w c K := by unfold o_ishr; simp only [h]
theorem e_cg_ineg  {nx : Nat} (g1 g2 : e_G) (F : e_F) (ls : e_A) (st : List e_V) (w : e_W) (c : e_Q) (K : e_K) (h : g1 F nx = g2 F nx) : o_ineg  nx g1 F ls st w c K = o_ineg  nx g2 F ls st w c K := by unfold o_ineg; simp only [h]
theorem e_cg_l2i  {nx : Nat} (g1 g2 : e_G) (F : e_F) (ls : e_A) (st : List e_V) (w : e_W) (c : e_Q) (K : e_K) (h : g1 F nx = g2 F nx) : o_l2i  nx g1 F ls st w c K = o_l2i  nx g2 F ls st w c K := by unfold o_l2i; simp only [h]
theorem e_cg_ladd  {nx : Nat} (g1 g2 : e_G) (F : e_F) (ls : e_A) (st : List e_V) (w : e_W) (c : e_Q) (K : e_K) (h : g1 F nx = g2 F nx) : o_ladd  nx g1 F ls st w c K = o_ladd  nx g2 F ls st w c K := by unfold o_ladd; simp only [h]
theorem e_cg_lsub  {nx : Nat} (g1 g2 : e_G) (F : e_F) (ls : e_A) (st : List e_V) (w : e_W) (c : e_Q) (K : e_K) (h : g1 F nx = g2 F nx) : o_lsub  nx g1 F ls st w c K = o_lsub  nx g2 F ls st w c K := by unfold o_lsub; simp only [h]
theorem e_cg_lmul  {nx : Nat} (g1 g2 : e_G) (F : e_F) (ls : e_A) (st : List e_V) (w : e_W) (c : e_Q) (K : e_K) (h : g1 F nx = g2 F nx) : o_lmul  nx g1 F ls st w c K = o_lmul  nx g2 F ls st w c K := by unfold o_lmul; simp only [h]
theorem e_cg_ldiv  {nx : Nat} (g1 g2 : e_G) (F : e_F) (ls : e_A) (st : List e_V) (w : e_W) (c : e_Q) (K : e_K) (h : g1 F nx = g2 F nx) : o_ldiv  nx g1 F ls st w c K = o_ldiv  nx g2 F ls st w c K := by unfold o_ldiv; simp only [h]
theorem e_cg_lcmp  {nx : Nat} (g1 g2 : e_G) (F : e_F) (ls : e_A) (st : List e_V) (w : e_W) (c : e_Q) (K : e_K) (h : g1 F nx = g2 F nx) : o_lcmp  nx g1 F ls st w c K = o_lcmp  nx g2 F ls st w c K := by unfold o_lcmp; simp only [h]
theorem e_cg_dup  {nx : Nat} (g1 g2 : e_G) (F : e_F) (ls : e_A) (st : List e_V) (w : e_W) (c : e_Q) (K : e_K) (h : g1 F nx = g2 F nx) : o_dup  nx g1 F ls st w c K = o_dup  nx g2 F ls st w c K := by unfold o_dup; simp only [h]
theorem e_cg_dup2  {nx : Nat} (g1 g2 : e_G) (F : e_F) (ls : e_A) (st : List e_V) (w : e_W) (c : e_Q) (K : e_K) (h : g1 F nx = g2 F nx) : o_dup2  nx g1 F ls st w c K = o_dup2  nx g2 F ls st w c K := by unfold o_dup2; simp only [h]
theorem e_cg_dup_x1  {nx : Nat} (g1 g2 : e_G) (F : e_F) (ls : e_A) (st : List e_V) (w : e_W) (c : e_Q) (K : e_K) (h : g1 F nx = g2 F nx) : o_dup_x1  nx g1 F ls st w c K = o_dup_x1  nx g2 F ls st w c K := by unfold o_dup_x1; simp only [h]
theorem e_cg_storeL (n : Nat) {nx : Nat} (g1 g2 : e_G) (F : e_F) (ls : e_A) (st : List e_V) (w : e_W) (c : e_Q) (K : e_K) (h : g1 F nx = g2 F nx) : o_storeL n nx g1 F ls st w c K = o_storeL n nx g2 F ls st w c K := by unfold o_storeL; simp only [h]
theorem e_cg_alen (fc : List (List (Nat × e_V))) {nx : Nat} (g1 g2 : e_G) (F : e_F) (ls : e_A) (st : List e_V) (w : e_W) (c : e_Q) (K : e_K) (h : g1 F nx = g2 F nx) : o_alen fc nx g1 F ls st w c K = o_alen fc nx g2 F ls st w c K := by unfold o_alen; simp only [h]
theorem e_cg_ast (tc : Nat) (ok : e_V → Bool) {nx : Nat} (g1 g2 : e_G) (F : e_F) (ls : e_A) (st : List e_V) (w : e_W) (c : e_Q) (K : e_K) (h : g1 F nx = g2 F nx) : o_ast tc ok nx g1 F ls st w c K = o_ast tc ok nx g2 F ls st w c K := by unfold o_ast; simp only [h]
theorem e_cg_astR (tc : Nat) (okc : Nat → Bool) {nx : Nat} (g1 g2 : e_G) (F : e_F) (ls : e_A) (st : List e_V) (w : e_W) (c : e_Q) (K : e_K) (h : g1 F nx = g2 F nx) : o_astR tc okc nx g1 F ls st w c K = o_astR tc okc nx g2 F ls st w c K := by unfold o_astR; simp only [h]
theorem e_cg_putf (fi : Nat → Option Nat) (ok : e_V → Bool) {nx : Nat} (g1 g2 : e_G) (F : e_F) (ls : e_A) (st : List e_V) (w : e_W) (c : e_Q) (K : e_K) (h : g1 F nx = g2 F nx) : o_putf fi ok nx g1 F ls st w c K = o_putf fi ok nx g2 F ls st w c K := by unfold o_putf; simp only [h]
theorem e_cg_cast (k : Nat) {nx : Nat} (g1 g2 : e_G) (F : e_F) (ls : e_A) (st : List e_V) (w : e_W) (c : e_Q) (K : e_K) (h : g1 F nx = g2 F nx) : o_cast k nx g1 F ls st w c K = o_cast k nx g2 F ls st w c K := by unfold o_cast; simp only [h]
noncomputable def f_rep {α : Type} (x : α) (l : List α) : Nat → (List α → Bool) → Bool := List.rec (motive := fun _ => Nat → (List α → Bool) → Bool) (fun _ _ => false) (fun a l ih n k => Nat.rec (motive := fun _ => Bool) (k (x :: l)) (fun m _ => ih m (fun l' => k (a :: l'))) n) l
theorem f_rep_eq {α : Type} {x : α} : ∀ {l : List α} {n : Nat} {k : List α → Bool}, f_rep x l n k = e_rep x l n k
  | [], _, _ => rfl
  | _ :: _, 0, _ => rfl
  | a :: l, n + 1, k => (show f_rep x (a :: l) (n + 1) k = f_rep x l n (fun l' => k (a :: l')) from rfl).trans (f_rep_eq (l := l))
noncomputable def u_p5 (v : e_V) (k q : Nat) (nxt : e_Y) (ls : e_A) (r : List e_V) (g : e_G) (F : e_F) (w : e_W) (c : e_Q) (K : e_K) (cj : Nat) (fs : List e_V) : Bool := f_rep v fs k (fun fs' => f_tpq (.inl (cj, fs')) w q (fun w' => nxt (g, F, w', c, K) ls r))
noncomputable def u_p4 (ci : Nat) (v : e_V) (k q : Nat) (nxt : e_Y) (ls : e_A) (r : List e_V) (g : e_G) (F : e_F) (w : e_W) (c : e_Q) (K : e_K) (x : e_C) : Bool := Sum.rec (motive := fun _ => Bool) (fun p => Prod.rec (motive := fun _ => Bool) (fun cj fs => Bool.rec (motive := fun _ => Bool) false (u_p5 v k q nxt ls r g F w c K cj fs) (Nat.beq cj ci)) p) (fun _ => false) x
noncomputable def u_p3 (ci : Nat) (v : e_V) (k q : Nat) (nxt : e_Y) (ls : e_A) (r : List e_V) (X : e_P) : Bool := Prod.rec (motive := fun _ => Bool) (fun g X => Prod.rec (motive := fun _ => Bool) (fun F X => Prod.rec (motive := fun _ => Bool) (fun w X => Prod.rec (motive := fun _ => Bool) (fun c K => u_p4 ci v k q nxt ls r g F w c K (f_tg w q)) X) X) X) X
noncomputable def u_p2 (ci k : Nat) (ok : e_V → Bool) (slow nxt : e_Y) (X : e_P) (ls : e_A) (st r : List e_V) (v : e_V) (q : Nat) : Bool := Bool.rec (motive := fun _ => Bool) (slow X ls st) (Bool.rec (motive := fun _ => Bool) (slow X ls st) (u_p3 ci v k q nxt ls r X) (ok v)) (Nat.ble q 8191)
noncomputable def u_p1 (ci k : Nat) (ok : e_V → Bool) (slow nxt : e_Y) (X : e_P) (ls : e_A) (st r : List e_V) (v u : e_V) : Bool := Sum.rec (motive := fun _ => Bool) (fun _ => false) (fun z => Sum.rec (motive := fun _ => Bool) (fun o => Option.rec (motive := fun _ => Bool) false (fun q => u_p2 ci k ok slow nxt X ls st r v q) o) (fun _ => false) z) u
noncomputable def u_putf (ci k : Nat) (ok : e_V → Bool) (slow nxt : e_Y) : e_Y := fun X ls st => List.rec (motive := fun _ => Bool) false (fun v r1 _ => List.rec (motive := fun _ => Bool) false (fun u r _ => u_p1 ci k ok slow nxt X ls st r v u) r1) st
theorem u_putfT {ci k nx : Nat} {ok fok : e_V → Bool} {nxt : e_Y} (hf : ∀ v, fok v = ok v) (ho : e_Sn M pc (o_putf (e_f1 ci k) ok nx)) (hn : e_Sn M nx (e_un nxt)) : e_Sn M pc (e_un (u_putf ci k fok (u_old (o_putf (e_f1 ci k) ok nx) nxt) nxt)) := e_thr ho hn (e_cg_putf (e_f1 ci k) ok) (fun g F ls st w c K => by
  rcases st with _ | ⟨v, _ | ⟨u, r⟩⟩
  · rfl
  · rfl
  · rcases u with m | (_ | q) | u
    · rfl
    · rfl
    · show u_p2 ci k fok (u_old (o_putf (e_f1 ci k) ok nx) nxt) nxt (g, F, w, c, K) ls (v :: .inr (.inl (some q)) :: r) r v q = _
      unfold u_p2
      cases hq : Nat.ble q 8191 with
      | false => rfl
      | true =>
        dsimp only
        rw [hf]
        cases hv : ok v with
        | false => rfl
        | true =>
          show u_p4 ci v k q nxt ls r g F w c K (f_tg w q) = _
          rw [f_tg_eq hq]
          unfold o_putf e_k e_f1
          dsimp only
          rw [hv, show Nat.blt q 8192 = true from hq, Bool.and_self, cond_true]
          generalize e_tget 13 w q = x
          rcases x with ⟨cj, fs⟩ | ⟨t, rs⟩
          · unfold u_p4
            dsimp only
            cases Nat.beq cj ci
            · rfl
            · dsimp only [cond_true]
              unfold u_p5
              rw [f_rep_eq]
              congr 1
              funext fs'
              exact f_tpq_eq hq
          · rfl
    · rfl)
noncomputable def u_s5 (v : e_V) (i q : Nat) (nxt : e_Y) (ls : e_A) (r : List e_V) (g : e_G) (F : e_F) (w : e_W) (c : e_Q) (K : e_K) (t : Nat) (rs : List (Nat × e_V)) : Bool := e_rset v rs (i - 2147483648) (fun rs' => f_tpq (.inr (t, rs')) w q (fun w' => nxt (g, F, w', c, K) ls r))
noncomputable def u_s4 (tc : Nat) (v : e_V) (i q : Nat) (nxt : e_Y) (ls : e_A) (r : List e_V) (g : e_G) (F : e_F) (w : e_W) (c : e_Q) (K : e_K) (x : e_C) : Bool := Sum.rec (motive := fun _ => Bool) (fun _ => false) (fun p => Prod.rec (motive := fun _ => Bool) (fun t rs => Bool.rec (motive := fun _ => Bool) false (u_s5 v i q nxt ls r g F w c K t rs) (Nat.beq t tc)) p) x
noncomputable def u_s3 (tc : Nat) (v : e_V) (i q : Nat) (nxt : e_Y) (ls : e_A) (r : List e_V) (X : e_P) : Bool := Prod.rec (motive := fun _ => Bool) (fun g X => Prod.rec (motive := fun _ => Bool) (fun F X => Prod.rec (motive := fun _ => Bool) (fun w X => Prod.rec (motive := fun _ => Bool) (fun c K => u_s4 tc v i q nxt ls r g F w c K (f_tg w q)) X) X) X) X
noncomputable def u_s2 (tc : Nat) (ok : e_V → Bool) (slow nxt : e_Y) (X : e_P) (ls : e_A) (st r : List e_V) (v : e_V) (i q : Nat) : Bool := Bool.rec (motive := fun _ => Bool) (slow X ls st) (Bool.rec (motive := fun _ => Bool) (slow X ls st) (Bool.rec (motive := fun _ => Bool) (slow X ls st) (u_s3 tc v i q nxt ls r X) (ok v)) (Nat.ble 2147483648 i)) (Nat.ble q 8191)
noncomputable def u_s1 (tc : Nat) (ok : e_V → Bool) (slow nxt : e_Y) (X : e_P) (ls : e_A) (st r : List e_V) (v : e_V) (i : Nat) (u : e_V) : Bool := Sum.rec (motive := fun _ => Bool) (fun _ => false) (fun z => Sum.rec (motive := fun _ => Bool) (fun o => Option.rec (motive := fun _ => Bool) false (fun q => u_s2 tc ok slow nxt X ls st r v i q) o) (fun _ => false) z) u
noncomputable def u_s0 (tc : Nat) (ok : e_V → Bool) (slow nxt : e_Y) (X : e_P) (ls : e_A) (st r : List e_V) (v b u : e_V) : Bool := Sum.rec (motive := fun _ => Bool) (fun i => u_s1 tc ok slow nxt X ls st r v i u) (fun _ => false) b
noncomputable def u_ast (tc : Nat) (ok : e_V → Bool) (slow nxt : e_Y) : e_Y := fun X ls st => List.rec (motive := fun _ => Bool) false (fun v r1 _ => List.rec (motive := fun _ => Bool) false (fun b r2 _ => List.rec (motive := fun _ => Bool) false (fun u r _ => u_s0 tc ok slow nxt X ls st r v b u) r2) r1) st
theorem u_astT {tc nx : Nat} {ok fok : e_V → Bool} {nxt : e_Y} (hf : ∀ v, fok v = ok v) (ho : e_Sn M pc (o_ast tc ok nx)) (hn : e_Sn M nx (e_un nxt)) : e_Sn M pc (e_un (u_ast tc fok (u_old (o_ast tc ok nx) nxt) nxt)) := e_thr ho hn (e_cg_ast tc ok) (fun g F ls st w c K => by
  rcases st with _ | ⟨v, _ | ⟨b, _ | ⟨u, r⟩⟩⟩
  · rfl
  · rfl
  · rcases b with i | b <;> rfl
  · rcases b with i | b
    · rcases u with m | (_ | q) | u
      · rfl
      · rfl
      · show u_s2 tc fok (u_old (o_ast tc ok nx) nxt) nxt (g, F, w, c, K) ls (v :: .inl i :: .inr (.inl (some q)) :: r) r v i q = _
        unfold u_s2
        cases hq : Nat.ble q 8191 with
        | false => rfl
        | true =>
          dsimp only
          cases hi : Nat.ble 2147483648 i with
          | false => rfl
          | true =>
            dsimp only
            rw [hf]
            cases hv : ok v with
            | false => rfl
            | true =>
              show u_s4 tc v i q nxt ls r g F w c K (f_tg w q) = _
              rw [f_tg_eq hq]
              unfold o_ast e_k
              dsimp only
              rw [hv, hi, show Nat.blt q 8192 = true from hq, Bool.and_self, Bool.and_self, cond_true]
              generalize e_tget 13 w q = x
              rcases x with ⟨cj, fs⟩ | ⟨t, rs⟩
              · rfl
              · unfold u_s4
                dsimp only
                cases Nat.beq t tc
                · rfl
                · dsimp only [cond_true]
                  unfold u_s5
                  congr 1
                  funext rs'
                  exact f_tpq_eq hq
      · rfl
    · rfl)
theorem e_congr_callI {y m n nx : Nat} (g1 g2 : e_G) (F : e_F) (ls : e_A) (st : List e_V) (w : e_W) (c : e_Q) (K : e_K) (h1 : ∀ G : Nat × Nat × List (Nat × e_V), g1 (y, G) 0 = g2 (y, G) 0) (h2 : g1 F nx = g2 F nx) : o_callI y m n nx g1 F ls st w c K = o_callI y m n nx g2 F ls st w c K := by
  unfold o_callI
  congr 1
  funext as r
  split
  · exact e_congr_go g1 g2 F ls w c K _ h1 h2
  · rfl
noncomputable def u_i1 (y m m19 : Nat) (ny nxt : e_Y) (X : e_P) (ls : e_A) (as r : List e_V) (v : e_V) : Bool := Sum.rec (motive := fun _ => Bool) (fun _ => false) (fun z => Sum.rec (motive := fun _ => Bool) (fun o => Option.rec (motive := fun _ => Bool) false (fun _ => u_go y m m19 ny nxt X ls as r) o) (fun _ => false) z) v
noncomputable def u_i0 (y m m19 : Nat) (ny nxt : e_Y) (X : e_P) (ls : e_A) (as r : List e_V) : Bool := List.rec (motive := fun _ => Bool) false (fun v _ _ => u_i1 y m m19 ny nxt X ls as r v) as
noncomputable def u_callI (y m m19 n : Nat) (ny nxt : e_Y) : e_Y := fun X ls st => f_args n [] st (fun as r => u_i0 y m m19 ny nxt X ls as r)
theorem u_callIT {y m n nx : Nat} {ny nxt : e_Y} (hne : Nat.beq nx 0 = false) (ho : e_Sn M pc (o_callI y m n nx)) (hy : e_Sn y 0 (e_un ny)) (hn : e_Sn M nx (e_un nxt)) : e_Sn M pc (e_un (u_callI y m (m + 19) n ny nxt)) := e_thrc hne ho hy hn e_congr_callI (fun g F ls st w c K => by
  unfold e_un u_callI o_callI
  rw [f_args_eq]
  congr 1
  funext as r
  rcases as with _ | ⟨v, as⟩
  · rfl
  · rcases v with a | (_ | q) | v
    · rfl
    · rfl
    · show u_go y m (m + 19) ny nxt (g, F, w, c, K) ls (.inr (.inl (some q)) :: as) r = _
      exact u_go_eq hne
    · rfl)
noncomputable def u_rv (X : e_P) : Bool := Prod.rec (motive := fun _ => Bool) (fun _ X1 => Prod.rec (motive := fun _ => Bool) (fun _ X1 => Prod.rec (motive := fun _ => Bool) (fun w X1 => Prod.rec (motive := fun _ => Bool) (fun c K => K (.inl none) w c) X1) X1) X1) X
noncomputable def u_retV : e_Y := fun X _ st => List.rec (motive := fun _ => Bool) (u_rv X) (fun _ _ _ => false) st
theorem u_retVT (ho : e_Sn M pc o_retv) : e_Sn M pc (e_un u_retV) := e_eqS ho (fun g F ls st w c K => by rcases st with _ | ⟨v, r⟩ <;> rfl)
end FS
