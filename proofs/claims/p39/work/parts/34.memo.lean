/-! WALKS IN PIECES -/
noncomputable def e_sameU (a b : e_V) : Bool := e_sameB a b || (match a, b with
  | .inr (.inr (.inr (.inl (l, h)))), .inr (.inr (.inr (.inl (m, n)))) => Nat.beq l m && Nat.beq h n
  | _, _ => false)
theorem e_sameU_t {a b : e_V} (h : e_sameU a b = true) : a = b := by
  unfold e_sameU at h
  cases h1 : e_sameB a b with
  | true => exact e_sameB_t h1
  | false =>
    rw [h1, Bool.false_or] at h
    split at h
    · obtain ⟨h2, h3⟩ := (Bool.and_eq_true _ _).mp h
      rw [Nat.eq_of_beq_eq_true h2, Nat.eq_of_beq_eq_true h3]
    · cases h
noncomputable def e_sameAl : e_A → e_A → Bool
  | [], [] => true
  | none :: a, none :: b => e_sameAl a b
  | some u :: a, some v :: b => e_sameU u v && e_sameAl a b
  | _, _ => false
theorem e_sameAl_t : ∀ {a b : e_A}, e_sameAl a b = true → a = b
  | [], [], _ => rfl
  | none :: a, none :: b, h => by
    have h' : e_sameAl a b = true := h
    rw [e_sameAl_t h']
  | some u :: a, some v :: b, h => by
    obtain ⟨h1, h2⟩ := (Bool.and_eq_true _ _).mp (show (e_sameU u v && e_sameAl a b) = true from h)
    rw [e_sameU_t h1, e_sameAl_t h2]
  | [], none :: _, h => by cases h
  | [], some _ :: _, h => by cases h
  | none :: _, [], h => by cases h
  | some _ :: _, [], h => by cases h
  | none :: _, some _ :: _, h => by cases h
  | some _ :: _, none :: _, h => by cases h
noncomputable def e_sameBx : List (Nat × e_V) → List (Nat × e_V) → Bool
  | [], [] => true
  | (m, u) :: a, (n, v) :: b => Nat.beq m n && e_sameU u v && e_sameBx a b
  | _, _ => false
theorem e_sameBx_t : ∀ {a b : List (Nat × e_V)}, e_sameBx a b = true → a = b
  | [], [], _ => rfl
  | (m, u) :: a, (n, v) :: b, h => by
    obtain ⟨h1, h3⟩ := (Bool.and_eq_true _ _).mp (show (Nat.beq m n && e_sameU u v && e_sameBx a b) = true from h)
    obtain ⟨h1, h2⟩ := (Bool.and_eq_true _ _).mp h1
    rw [Nat.eq_of_beq_eq_true h1, e_sameU_t h2, e_sameBx_t h3]
  | [], _ :: _, h => by cases h
  | _ :: _, [], h => by cases h
noncomputable def e_sameQ (a b : e_Q) : Bool := Nat.beq a.1 b.1 && (Nat.beq a.2.1 b.2.1 && Nat.beq a.2.2 b.2.2)
theorem e_sameQ_t {a b : e_Q} (h : e_sameQ a b = true) : a = b := by
  obtain ⟨a1, a2, a3⟩ := a
  obtain ⟨b1, b2, b3⟩ := b
  obtain ⟨h1, h2⟩ := (Bool.and_eq_true _ _).mp (show (Nat.beq a1 b1 && (Nat.beq a2 b2 && Nat.beq a3 b3)) = true from h)
  obtain ⟨h2, h3⟩ := (Bool.and_eq_true _ _).mp h2
  rw [Nat.eq_of_beq_eq_true h1, Nat.eq_of_beq_eq_true h2, Nat.eq_of_beq_eq_true h3]
noncomputable def e_sameZ (a b : e_Z) : Bool := match a, b with
  | .inl (some u), .inl (some v) => e_sameU u v
  | .inl none, .inl none => true
  | _, _ => false
theorem e_sameZ_t {a b : e_Z} (h : e_sameZ a b = true) : a = b := by
  unfold e_sameZ at h
  split at h
  · rw [e_sameU_t h]
  · rfl
  · cases h
noncomputable def e_Kc (z : e_Z) (w1 : e_W) (c1 : e_Q) : e_K := fun z' w' c' => e_sameZ z' z && (e_sameQ c' c1 && e_weq 13 w' w1)
theorem e_piece {tab : Nat → e_X} {n : Nat} {F : e_F} {pc : Nat} {al : e_A} {w : e_W} {c : e_Q} {z : e_Z} {w1 : e_W} {c1 : e_Q} (ht : e_TT tab) (h : e_run tab n F pc al [] w c (e_Kc z w1 c1) = true) : e_Ok F pc al [] w c z w1 c1 := by
  obtain ⟨z', w', c', h1, h2⟩ := e_sound ht n _ _ _ _ _ _ _ h
  unfold e_Kc at h1
  obtain ⟨h3, h4⟩ := (Bool.and_eq_true _ _).mp h1
  obtain ⟨h4, h5⟩ := (Bool.and_eq_true _ _).mp h4
  obtain rfl := e_sameZ_t h3
  obtain rfl := e_sameQ_t h4
  obtain rfl := e_weq_t 13 _ _ h5
  exact h2
theorem e_Ok_room {M a b a' b' : Nat} {bx : List (Nat × e_V)} {pc : Nat} {al : e_A} {st : List e_V} {w : e_W} {c : e_Q} {z : e_Z} {w1 : e_W} {c1 : e_Q} (ha : a ≤ a') (hb : b ≤ b') (h : e_Ok (M, a, b, bx) pc al st w c z w1 c1) : e_Ok (M, a', b', bx) pc al st w c z w1 c1 :=
  ⟨h.1, h.2.1, h.2.2.1, fun p l e R s m args below meth cd Q ad D tys base nL as0 k0 s0 hC h1 h2 => h.2.2.2 p l e R s m args below meth cd Q ad D tys base nL as0 k0 s0 hC (Nat.le_trans ha h1) (Nat.le_trans hb h2)⟩
noncomputable def e_isnil (st : List e_V) : Bool := match st with
  | [] => true
  | _ :: _ => false
/-- at a known state a known end -/
noncomputable def e_cutO (a b : Nat) (bx : List (Nat × e_V)) (al0 : e_A) (w0 : e_W) (c0 : e_Q) (z : e_Z) (w1 : e_W) (c1 : e_Q) (old : Option e_O) : e_O := fun g F al st w c K => bif e_sameAl al al0 && (e_isnil st && (e_sameQ c c0 && (Nat.ble a F.2.1 && (Nat.ble b F.2.2.1 && (e_sameBx F.2.2.2 bx && e_weq 13 w w0))))) then K z w1 c1 else (match old with
  | some o => o g F al st w c K
  | none => false)
noncomputable def e_cutT (M pc a b : Nat) (bx : List (Nat × e_V)) (al0 : e_A) (w0 : e_W) (c0 : e_Q) (z : e_Z) (w1 : e_W) (c1 : e_Q) (tab : Nat → e_X) : Nat → e_X := fun N p => bif Nat.beq N M && Nat.beq p pc then some (e_cutO a b bx al0 w0 c0 z w1 c1 (tab N p)) else tab N p
theorem e_cutTT {M pc a b : Nat} {bx : List (Nat × e_V)} {al0 : e_A} {w0 : e_W} {c0 : e_Q} {z : e_Z} {w1 : e_W} {c1 : e_Q} {tab : Nat → e_X} (ht : e_TT tab) (hok : e_Ok (M, a, b, bx) pc al0 [] w0 c0 z w1 c1) : e_TT (e_cutT M pc a b bx al0 w0 c0 z w1 c1 tab) := by
  intro N p o ho
  unfold e_cutT at ho
  cases hb : (Nat.beq N M && Nat.beq p pc) with
  | false => rw [hb, cond_false] at ho; exact ht N p o ho
  | true =>
    rw [hb, cond_true] at ho
    obtain ⟨hb1, hb2⟩ := (Bool.and_eq_true _ _).mp hb
    obtain rfl := Nat.eq_of_beq_eq_true hb1
    obtain rfl := Nat.eq_of_beq_eq_true hb2
    obtain rfl := Option.some.inj ho
    intro g hg F al st w c K hF h
    unfold e_cutO at h
    cases hc : (e_sameAl al al0 && (e_isnil st && (e_sameQ c c0 && (Nat.ble a F.2.1 && (Nat.ble b F.2.2.1 && (e_sameBx F.2.2.2 bx && e_weq 13 w w0)))))) with
    | true =>
      rw [hc, cond_true] at h
      obtain ⟨k1, hc⟩ := (Bool.and_eq_true _ _).mp hc
      obtain ⟨k2, hc⟩ := (Bool.and_eq_true _ _).mp hc
      obtain ⟨k3, hc⟩ := (Bool.and_eq_true _ _).mp hc
      obtain ⟨k4, hc⟩ := (Bool.and_eq_true _ _).mp hc
      obtain ⟨k5, hc⟩ := (Bool.and_eq_true _ _).mp hc
      obtain ⟨k6, k7⟩ := (Bool.and_eq_true _ _).mp hc
      obtain rfl := e_sameAl_t k1
      obtain rfl := e_sameQ_t k3
      obtain rfl := e_weq_t 13 _ _ k7
      have hst : st = [] := by
        cases st with
        | nil => rfl
        | cons x l => cases k2
      subst hst
      obtain ⟨F1, F2, F3, F4⟩ := F
      have k6' : F4 = bx := e_sameBx_t k6
      have hF' : F1 = N := hF
      subst k6'
      subst hF'
      exact ⟨z, w1, c1, h, e_Ok_room (Nat.le_of_ble_eq_true k4) (Nat.le_of_ble_eq_true k5) hok⟩
    | false =>
      rw [hc, cond_false] at h
      cases hq : tab N p with
      | none => rw [hq] at h; cases h
      | some o' => rw [hq] at h; exact ht N p o' hq g hg F al st w c K hF h
