/-! WHAT THE EVALUATOR'S VALUES STAND FOR -/
noncomputable def e_i (m : Nat) : Int32 := Int32.ofInt ((m : Int) - 2147483648)
noncomputable def e_l (m : Nat) : Int64 := Int64.ofInt ((m : Int) - 9223372036854775808)
theorem e_i_int {m : Nat} (h : m < 4294967296) : (e_i m).toInt = (m : Int) - 2147483648 := by
  unfold e_i
  rw [Int32.toInt_ofInt]
  have : Int32.size = 4294967296 := rfl
  simp only [this]
  rw [Int.bmod_eq_of_le_mul_two] <;> omega
theorem e_l_int {m : Nat} (h : m < 18446744073709551616) : (e_l m).toInt = (m : Int) - 9223372036854775808 := by
  unfold e_l
  rw [Int64.toInt_ofInt]
  have : Int64.size = 18446744073709551616 := rfl
  simp only [this]
  rw [Int.bmod_eq_of_le_mul_two] <;> omega
theorem e_i_of (x : Int32) : ∃ m : Nat, m < 4294967296 ∧ x = e_i m := by
  refine ⟨(x.toInt + 2147483648).toNat, ?_, ?_⟩
  · have h1 := x.toInt_lt
    have h2 := x.le_toInt
    omega
  · have h1 := x.toInt_lt
    have h2 := x.le_toInt
    apply Int32.toInt_inj.mp
    rw [e_i_int (by omega)]
    omega
theorem e_i_eq {x : Int32} {m : Nat} (h : m < 4294967296) (e : x.toInt = (m : Int) - 2147483648) : x = e_i m := Int32.toInt_inj.mp (by rw [e_i_int h, e])
theorem e_l_eq {x : Int64} {m : Nat} (h : m < 18446744073709551616) (e : x.toInt = (m : Int) - 9223372036854775808) : x = e_l m := Int64.toInt_inj.mp (by rw [e_l_int h, e])
theorem e_i_lt {a b : Nat} (ha : a < 4294967296) (hb : b < 4294967296) : e_i a < e_i b ↔ a < b := by rw [Int32.lt_iff_toInt_lt, e_i_int ha, e_i_int hb]; omega
theorem e_i_le {a b : Nat} (ha : a < 4294967296) (hb : b < 4294967296) : e_i a ≤ e_i b ↔ a ≤ b := by rw [Int32.le_iff_toInt_le, e_i_int ha, e_i_int hb]; omega
theorem e_i_inj {a b : Nat} (ha : a < 4294967296) (hb : b < 4294967296) : e_i a = e_i b ↔ a = b := by
  constructor
  · intro h
    have := congrArg Int32.toInt h
    rw [e_i_int ha, e_i_int hb] at this
    omega
  · rintro rfl; rfl
theorem e_l_lt {a b : Nat} (ha : a < 18446744073709551616) (hb : b < 18446744073709551616) : e_l a < e_l b ↔ a < b := by rw [Int64.lt_iff_toInt_lt, e_l_int ha, e_l_int hb]; omega
theorem e_l_inj {a b : Nat} (ha : a < 18446744073709551616) (hb : b < 18446744073709551616) : e_l a = e_l b ↔ a = b := by
  constructor
  · intro h
    have := congrArg Int64.toInt h
    rw [e_l_int ha, e_l_int hb] at this
    omega
  · rintro rfl; rfl
theorem e_i0 : e_i 2147483648 = 0 := by decide
theorem e_i_nn {m : Nat} (h : m < 4294967296) (h2 : 2147483648 ≤ m) : e_i m = nI (m - 2147483648) := by
  symm
  apply e_i_eq h
  rw [nI_toInt (by omega)]
  omega
theorem e_i_cl {m : Nat} (h : m < 4294967296) (h2 : 2147483648 ≤ m) : (e_i m).toNatClampNeg = m - 2147483648 := by rw [e_i_nn h h2, nI_clamp (by omega)]
theorem e_i_neg {m : Nat} (h : m < 4294967296) (h2 : 2147483648 ≤ m) : ¬ e_i m < 0 := by rw [← e_i0, e_i_lt h (by omega)]; omega
theorem e_i_u {m : Nat} (h : m < 4294967296) : (e_i m).toBitVec.toNat = e_u m := by
  have h1 := e_i_int h
  have h2 : (e_i m).toInt = (e_i m).toBitVec.toInt := rfl
  rw [h2, BitVec.toInt_eq_toNat_cond] at h1
  have h3 := (e_i m).toBitVec.isLt
  unfold e_u
  split at h1 <;> omega
theorem e_i_ofu {x : Int32} : x = e_i (e_u x.toBitVec.toNat) := by
  obtain ⟨m, h, rfl⟩ := e_i_of x
  rw [e_i_u h]
  have h9 : m = e_u (e_u m) := by unfold e_u; omega
  exact congrArg e_i h9
theorem e_u_lt (m : Nat) : e_u m < 4294967296 := Nat.mod_lt _ (by decide)
/-- a value of the evaluator, and one of the machine -/
noncomputable def e_rel (ad : Nat → Nat) (as : List Nat) (v : e_V) (x : Value) : Prop := match v with
  | .inl m => m < 4294967296 ∧ x = .int (e_i m)
  | .inr (.inl (some i)) => ∃ a, as[i]? = some a ∧ x = .ref a
  | .inr (.inl none) => x = .null
  | .inr (.inr (.inl m)) => m < 18446744073709551616 ∧ x = .long (e_l m)
  | .inr (.inr (.inr (.inl q))) => ∃ m, q.1 ≤ m ∧ m ≤ q.2 ∧ m < 4294967296 ∧ x = .int (e_i m)
  | .inr (.inr (.inr (.inr (.inl q)))) => ∃ m, q.1 ≤ m ∧ m ≤ q.2 ∧ m < 18446744073709551616 ∧ x = .long (e_l m)
  | .inr (.inr (.inr (.inr (.inr (.inl k))))) => x = .ref (ad k)
  | .inr (.inr (.inr (.inr (.inr (.inr _))))) => ∃ a, x = .ref a
theorem e_rel_rg {ad : Nat → Nat} {as : List Nat} {v : e_V} {x : Value} {q : Nat × Nat} (h : e_rel ad as v x) (hq : e_rg v = some q) : ∃ m, q.1 ≤ m ∧ m ≤ q.2 ∧ m < 4294967296 ∧ x = .int (e_i m) := by
  unfold e_rg at hq
  split at hq
  · cases hq
    obtain ⟨h1, h2⟩ := h
    exact ⟨_, Nat.le_refl _, Nat.le_refl _, h1, h2⟩
  · cases hq
    exact h
  · cases hq
theorem e_rel_rgL {ad : Nat → Nat} {as : List Nat} {v : e_V} {x : Value} {q : Nat × Nat} (h : e_rel ad as v x) (hq : e_rgL v = some q) : ∃ m, q.1 ≤ m ∧ m ≤ q.2 ∧ m < 18446744073709551616 ∧ x = .long (e_l m) := by
  unfold e_rgL at hq
  split at hq
  · cases hq
    obtain ⟨h1, h2⟩ := h
    exact ⟨_, Nat.le_refl _, Nat.le_refl _, h1, h2⟩
  · cases hq
    exact h
  · cases hq
theorem e_rel_I {ad : Nat → Nat} {as : List Nat} {v : e_V} {x : Value} (h : e_rel ad as v x) (hq : e_okI v = true) : ∃ z, x = .int z := by
  unfold e_okI at hq
  split at hq
  · next q hq2 =>
    obtain ⟨m, -, -, -, h2⟩ := e_rel_rg h hq2
    exact ⟨_, h2⟩
  · cases hq
theorem e_rel_L {ad : Nat → Nat} {as : List Nat} {v : e_V} {x : Value} (h : e_rel ad as v x) (hq : e_okL v = true) : ∃ z, x = .long z := by
  unfold e_okL at hq
  split at hq
  · next q hq2 =>
    obtain ⟨m, -, -, -, h2⟩ := e_rel_rgL h hq2
    exact ⟨_, h2⟩
  · cases hq
theorem e_rel_R {ad : Nat → Nat} {as : List Nat} {v : e_V} {x : Value} (h : e_rel ad as v x) (hq : e_okR v = true) : x = .null ∨ ∃ a, x = .ref a := by
  unfold e_okR at hq
  split at hq
  · next r =>
    cases r with
    | none => exact Or.inl h
    | some i => obtain ⟨a, -, h⟩ := h; exact Or.inr ⟨a, h⟩
  · next q =>
    cases q with
    | inl k => exact Or.inr ⟨_, h⟩
    | inr u => exact Or.inr h
  · cases hq
theorem e_rel_1 {ad : Nat → Nat} {as : List Nat} {v w : e_V} {x : Value} (h : e_rel ad as v x) (hq : e_c1 (some v) = some w) : w = v ∧ x.category = 1 := by
  unfold e_c1 at hq
  split at hq
  · next m e => cases e; cases hq; obtain ⟨-, rfl⟩ := h; exact ⟨rfl, rfl⟩
  · next r e =>
    cases e; cases hq
    refine ⟨rfl, ?_⟩
    cases r with
    | none => rw [show x = .null from h]; rfl
    | some i => obtain ⟨a, -, rfl⟩ := h; rfl
  · next q e => cases e; cases hq; obtain ⟨m, -, -, -, rfl⟩ := h; exact ⟨rfl, rfl⟩
  · next q e =>
    cases e; cases hq
    refine ⟨rfl, ?_⟩
    cases q with
    | inl k => rw [show x = .ref (ad k) from h]; rfl
    | inr u => obtain ⟨a, rfl⟩ := h; rfl
  · cases hq
theorem e_rel_mono {ad : Nat → Nat} {as as' : List Nat} {v : e_V} {x : Value} (h : e_rel ad as v x) (hp : as <+: as') : e_rel ad as' v x := by
  obtain ⟨t, rfl⟩ := hp
  unfold e_rel at h ⊢
  split
  · exact h
  · obtain ⟨a, h1, h2⟩ := h
    exact ⟨a, by rw [List.getElem?_append_left (List.getElem?_eq_some_iff.mp h1).1]; exact h1, h2⟩
  all_goals exact h
/-- a stack -/
noncomputable def e_st (ad : Nat → Nat) (as : List Nat) : List e_V → List Value → Prop
  | [], [] => True
  | v :: r, x :: y => e_rel ad as v x ∧ e_st ad as r y
  | _, _ => False
theorem e_st_nil {ad : Nat → Nat} {as : List Nat} {ys : List Value} (h : e_st ad as [] ys) : ys = [] := by
  cases ys with
  | nil => rfl
  | cons a l => exact h.elim
theorem e_st_cons {ad : Nat → Nat} {as : List Nat} {v : e_V} {r : List e_V} {ys : List Value} (h : e_st ad as (v :: r) ys) : ∃ x y, ys = x :: y ∧ e_rel ad as v x ∧ e_st ad as r y := by
  cases ys with
  | nil => exact h.elim
  | cons a l => exact ⟨a, l, rfl, h.1, h.2⟩
theorem e_st_mono {ad : Nat → Nat} {as as' : List Nat} (hp : as <+: as') : ∀ {st : List e_V} {ys : List Value}, e_st ad as st ys → e_st ad as' st ys
  | [], [], _ => trivial
  | _ :: _, _ :: _, h => ⟨e_rel_mono h.1 hp, e_st_mono hp h.2⟩
/-- locals -/
noncomputable def e_lo (ad : Nat → Nat) (as : List Nat) (al : e_A) (ls : Array Slot) (nL : Nat) : Prop :=
  al.length = nL ∧ ∃ lv, lv_has ls nL lv ∧ ∀ (i : Nat) (v : e_V), al[i]? = some (some v) → ∃ x, (i, x) ∈ lv ∧ e_rel ad as v x
theorem e_lo_mono {ad : Nat → Nat} {as as' : List Nat} {al : e_A} {ls : Array Slot} {nL : Nat} (h : e_lo ad as al ls nL) (hp : as <+: as') : e_lo ad as' al ls nL := by
  obtain ⟨h1, lv, h2, h3⟩ := h
  exact ⟨h1, lv, h2, fun i v hv => by obtain ⟨x, a, b⟩ := h3 i v hv; exact ⟨x, a, e_rel_mono b hp⟩⟩
theorem e_nth_eq {α : Type} : ∀ (l : List α) (n : Nat), e_nth l n = l[n]?
  | [], n => by cases n <;> rfl
  | a :: l, 0 => rfl
  | a :: l, n + 1 => by rw [show e_nth (a :: l) (n + 1) = e_nth l n from rfl, e_nth_eq l n]; rfl
theorem e_lo_at {ad : Nat → Nat} {as : List Nat} {al : e_A} {ls : Array Slot} {nL n : Nat} {v : e_V} (h : e_lo ad as al ls nL) (hv : e_nth al n = some (some v)) : ∃ x, ls[n]? = some (.val x) ∧ e_rel ad as v x := by
  obtain ⟨h1, lv, h2, h3⟩ := h
  rw [e_nth_eq] at hv
  obtain ⟨x, a, b⟩ := h3 n v hv
  exact ⟨x, h2.2.2 _ a, b⟩
theorem e_fo_t {n : Nat} {k : Nat → Bool} (h : e_fo n k = true) : k n = true := by
  unfold e_fo at h
  split at h <;> exact h
/-- a store: what the list of locals is behind it -/
theorem e_lst_t {x : Option e_V} : ∀ {l : e_A} {n : Nat} {k : e_A → Bool}, e_lst x l n k = true → ∃ l', k l' = true ∧ l'.length = l.length ∧ n < l.length ∧ ∀ (j : Nat) (v : e_V), l'[j]? = some (some v) → (j = n ∧ x = some v) ∨ (j ≠ n ∧ ∃ u, l[j]? = some (some u) ∧ (j + 1 ≠ n → u = v) ∧ (j + 1 = n → e_c1 (some u) = some v))
  | [], n, k, h => by unfold e_lst at h; cases h
  | a :: l, 0, k, h => by
    unfold e_lst at h
    refine ⟨_, h, rfl, by simp, fun j v hj => ?_⟩
    cases j with
    | zero =>
      simp only [List.getElem?_cons_zero, Option.some.injEq] at hj
      exact Or.inl ⟨rfl, hj⟩
    | succ j => exact Or.inr ⟨by omega, v, hj, fun _ => rfl, fun z => by omega⟩
  | a :: l, 1, k, h => by
    rw [show e_lst x (a :: l) 1 k = e_lst x l 0 (fun l' => k (e_c1 a :: l')) from rfl] at h
    obtain ⟨l', h1, h2, h3, h4⟩ := e_lst_t h
    refine ⟨_, h1, by simp [h2], by simp; omega, fun j v hj => ?_⟩
    cases j with
    | zero =>
      simp only [List.getElem?_cons_zero, Option.some.injEq] at hj
      cases a with
      | none => cases hj
      | some u => exact Or.inr ⟨by omega, u, rfl, fun z => (z rfl).elim, fun _ => hj⟩
    | succ j =>
      rcases h4 j v hj with ⟨e1, e2⟩ | ⟨e1, u, e2, e3, e4⟩
      · exact Or.inl ⟨by omega, e2⟩
      · exact Or.inr ⟨by omega, u, e2, fun z => e3 (by omega), fun z => e4 (by omega)⟩
  | a :: l, n + 2, k, h => by
    rw [show e_lst x (a :: l) (n + 2) k = e_lst x l (n + 1) (fun l' => k (a :: l')) from rfl] at h
    obtain ⟨l', h1, h2, h3, h4⟩ := e_lst_t h
    refine ⟨_, h1, by simp [h2], by simp; omega, fun j v hj => ?_⟩
    cases j with
    | zero => exact Or.inr ⟨by omega, v, hj, fun _ => rfl, fun z => by omega⟩
    | succ j =>
      rcases h4 j v hj with ⟨e1, e2⟩ | ⟨e1, u, e2, e3, e4⟩
      · exact Or.inl ⟨by omega, e2⟩
      · exact Or.inr ⟨by omega, u, e2, fun z => e3 (by omega), fun z => e4 (by omega)⟩
