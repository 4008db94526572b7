/-! LITERAL PICTURES -/
noncomputable def e_t0 (n : Nat) : e_T n := Nat.rec (motive := fun n => e_T n) (.inr (99, []) : e_C) (fun n t => (show e_T (n + 1) from ((t, t) : e_T n × e_T n))) n
noncomputable def e_lc (x : e_C) : e_T 0 := x
noncomputable def e_pr (n : Nat) (a b : e_T n) : e_T (n + 1) := ((a, b) : e_T n × e_T n)
noncomputable def e_sameR : List (Nat × e_V) → List (Nat × e_V) → Bool
  | [], [] => true
  | (m, u) :: a, (n, v) :: b => Nat.beq m n && e_sameB u v && e_sameR a b
  | _, _ => false
theorem e_sameR_t : ∀ {a b : List (Nat × e_V)}, e_sameR a b = true → a = b
  | [], [], _ => rfl
  | (m, u) :: a, (n, v) :: b, h => by
    obtain ⟨h1, h3⟩ := (Bool.and_eq_true _ _).mp h
    obtain ⟨h1, h2⟩ := (Bool.and_eq_true _ _).mp h1
    rw [Nat.eq_of_beq_eq_true h1, e_sameB_t h2, e_sameR_t h3]
  | [], _ :: _, h => by cases h
  | _ :: _, [], h => by cases h
noncomputable def e_ceq (x y : e_C) : Bool := match x, y with
  | .inl (a, b), .inl (c, d) => Nat.beq a c && e_sameS b d
  | .inr (a, b), .inr (c, d) => Nat.beq a c && e_sameR b d
  | _, _ => false
theorem e_ceq_t {x y : e_C} (h : e_ceq x y = true) : x = y := by
  unfold e_ceq at h
  split at h
  · obtain ⟨h1, h2⟩ := (Bool.and_eq_true _ _).mp h
    rw [Nat.eq_of_beq_eq_true h1, e_sameS_t h2]
  · obtain ⟨h1, h2⟩ := (Bool.and_eq_true _ _).mp h
    rw [Nat.eq_of_beq_eq_true h1, e_sameR_t h2]
  · cases h
noncomputable def e_weq (n : Nat) : e_T n → e_T n → Bool := Nat.rec (motive := fun n => e_T n → e_T n → Bool) e_ceq (fun n ih a b => ih (show e_T n × e_T n from a).1 (show e_T n × e_T n from b).1 && ih (show e_T n × e_T n from a).2 (show e_T n × e_T n from b).2) n
theorem e_weq_t : ∀ (n : Nat) (a b : e_T n), e_weq n a b = true → a = b
  | 0, a, b, h => e_ceq_t h
  | n + 1, a, b, h => by
    have h' : (e_weq n (show e_T n × e_T n from a).1 (show e_T n × e_T n from b).1 && e_weq n (show e_T n × e_T n from a).2 (show e_T n × e_T n from b).2) = true := h
    obtain ⟨h1, h2⟩ := (Bool.and_eq_true _ _).mp h'
    have e1 := e_weq_t n _ _ h1
    have e2 := e_weq_t n _ _ h2
    exact (Prod.ext e1 e2 : (show e_T n × e_T n from a) = (show e_T n × e_T n from b))
noncomputable def e_al0 : e_A := [some (e_B 0), none, none, none, none, none, none]
noncomputable def e_okz (z : e_Z) : Bool := match z with
  | .inl (some (.inl m)) => Nat.beq m 2147483649
  | _ => false
noncomputable def e_fl (bx : List (Nat × e_V)) : e_F := (119, 100, 60000, bx)
theorem e_okz_t {z : e_Z} (h : e_okz z = true) : z = .inl (some (.inl 2147483649)) := by
  unfold e_okz at h
  split at h
  · rw [Nat.eq_of_beq_eq_true h]
  · cases h
