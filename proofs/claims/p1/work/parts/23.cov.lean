/-! BOXES -/
def e_mkv (l h : Nat) : e_V := bif Nat.beq l h then .inl l else .inr (.inr (.inr (.inl (l, h))))
def e_frs : List (Nat × Nat) → (List (Nat × e_V) → Bool) → Bool
  | [], k => k []
  | (l, h) :: t, k => e_mk l h (fun v => e_frs t (fun r => k ((1, v) :: r)))
def e_bxo (rs : List (Nat × Nat)) : List (Nat × e_V) := rs.map (fun q => (1, e_mkv q.1 q.2))
theorem e_mk_t2 {l h : Nat} {k : e_V → Bool} (hk : e_mk l h k = true) : k (e_mkv l h) = true := by
  unfold e_mk at hk
  have h1 := e_fo_t (e_fo_t hk)
  unfold e_mkv
  cases hb : Nat.beq l h with
  | true => rw [hb, cond_true] at h1; rw [cond_true]; exact h1
  | false => rw [hb, cond_false] at h1; rw [cond_false]; exact h1
theorem e_frs_t : ∀ {rs : List (Nat × Nat)} {k : List (Nat × e_V) → Bool}, e_frs rs k = true → k (e_bxo rs) = true
  | [], _, h => h
  | (l, h) :: t, k, hk => by
    have h1 := e_mk_t2 (k := fun v => e_frs t (fun r => k ((1, v) :: r))) hk
    exact e_frs_t (rs := t) (k := fun r => k ((1, e_mkv l h) :: r)) h1
/-- the run of case k on a box -/
noncomputable def e_go1 (k : Nat) (rs : List (Nat × Nat)) : Bool := e_frs rs (fun bx => e_run e_tab 4000000 (e_fl ((1, e_any) :: bx)) 40 e_spA [.inl (k + 2147483648)] e_w1 e_c1q e_Kz)
def e_Gk (k : Nat) (rs : List (Nat × Nat)) : Prop := ∃ w' c', c'.2.1 ≤ 600002 ∧ c'.2.2 ≤ 7302232 ∧ e_Ok (e_fl ((1, e_any) :: e_bxo rs)) 40 e_spA [.inl (k + 2147483648)] e_w1 e_c1q (.inl (some (.inl 2147483649))) w' c'
theorem e_okz_t {z : e_Z} (h : e_okz z = true) : z = .inl (some (.inl 2147483649)) := by
  unfold e_okz at h
  split at h
  · rw [Nat.eq_of_beq_eq_true h]
  · cases h
theorem e_Kz_t {F : e_F} {pc : Nat} {al : e_A} {st : List e_V} {w : e_W} {c : e_Q} {n : Nat} (h : e_run e_tab n F pc al st w c e_Kz = true) : ∃ w' c', c'.2.1 ≤ 600002 ∧ c'.2.2 ≤ 7302232 ∧ e_Ok F pc al st w c (.inl (some (.inl 2147483649))) w' c' := by
  obtain ⟨z, w', c', h1, h2⟩ := e_sound e_tabT n _ _ _ _ _ _ _ h
  unfold e_Kz at h1
  obtain ⟨h3, h4⟩ := (Bool.and_eq_true _ _).mp h1
  obtain ⟨h3, h5⟩ := (Bool.and_eq_true _ _).mp h3
  obtain rfl := e_okz_t h3
  exact ⟨w', c', Nat.le_of_ble_eq_true h5, Nat.le_of_ble_eq_true h4, h2⟩
def e_In (rs : List (Nat × Nat)) (ns : Nat → Nat) : Prop := ∀ (j : Nat) (q : Nat × Nat), rs[j]? = some q → q.1 ≤ ns j ∧ ns j ≤ q.2
def e_Cov (k : Nat) (rs : List (Nat × Nat)) : Prop := ∀ ns : Nat → Nat, e_In rs ns → ∃ rs' : List (Nat × Nat), rs'.length = rs.length ∧ e_In rs' ns ∧ e_Gk k rs'
theorem e_go1_t {k : Nat} {rs : List (Nat × Nat)} (h : e_go1 k rs = true) : e_Cov k rs := fun ns hn => ⟨rs, rfl, hn, e_Kz_t (e_frs_t h)⟩
def e_sH : Nat → Nat → List (Nat × Nat) → (List (Nat × Nat) → Bool) → Bool
  | _, _, [], _ => false
  | 0, c, (l, _) :: t, k => k ((l, c) :: t)
  | j + 1, c, q :: t, k => e_sH j c t (fun r => k (q :: r))
def e_sL : Nat → Nat → List (Nat × Nat) → (List (Nat × Nat) → Bool) → Bool
  | _, _, [], _ => false
  | 0, c, (_, h) :: t, k => k ((c, h) :: t)
  | j + 1, c, q :: t, k => e_sL j c t (fun r => k (q :: r))
/-- a box cut at the place j: up to c, from c + 1 -/
def e_nd (j c c1 : Nat) (a b : List (Nat × Nat) → Bool) : List (Nat × Nat) → Bool := fun rs => Nat.beq (c + 1) c1 && (e_sH j c rs a && e_sL j c1 rs b)
def e_CT (k : Nat) (f : List (Nat × Nat) → Bool) : Prop := ∀ rs, f rs = true → e_Cov k rs
theorem e_sH_t : ∀ {j c : Nat} {rs : List (Nat × Nat)} {k : List (Nat × Nat) → Bool}, e_sH j c rs k = true → ∃ r2, k r2 = true ∧ r2.length = rs.length ∧ ∀ ns : Nat → Nat, e_In rs ns → ns j ≤ c → e_In r2 ns
  | _, _, [], _, h => by unfold e_sH at h; cases h
  | 0, c, (l, u) :: t, k, h => ⟨(l, c) :: t, h, rfl, fun ns hn hc j q hq => by
    cases j with
    | zero => cases hq; exact ⟨(hn 0 (l, u) rfl).1, hc⟩
    | succ j => exact hn (j + 1) q hq⟩
  | j + 1, c, q0 :: t, k, h => by
    obtain ⟨r2, h1, h2, h3⟩ := e_sH_t (j := j) (c := c) (rs := t) (k := fun r => k (q0 :: r)) h
    refine ⟨q0 :: r2, h1, by simp [h2], fun ns hn hc i q hq => ?_⟩
    cases i with
    | zero => cases hq; exact hn 0 q0 rfl
    | succ i => exact h3 (fun z => ns (z + 1)) (fun i q hq => hn (i + 1) q hq) hc i q hq
theorem e_sL_t : ∀ {j c : Nat} {rs : List (Nat × Nat)} {k : List (Nat × Nat) → Bool}, e_sL j c rs k = true → ∃ r2, k r2 = true ∧ r2.length = rs.length ∧ ∀ ns : Nat → Nat, e_In rs ns → c ≤ ns j → e_In r2 ns
  | _, _, [], _, h => by unfold e_sL at h; cases h
  | 0, c, (l, u) :: t, k, h => ⟨(c, u) :: t, h, rfl, fun ns hn hc j q hq => by
    cases j with
    | zero => cases hq; exact ⟨hc, (hn 0 (l, u) rfl).2⟩
    | succ j => exact hn (j + 1) q hq⟩
  | j + 1, c, q0 :: t, k, h => by
    obtain ⟨r2, h1, h2, h3⟩ := e_sL_t (j := j) (c := c) (rs := t) (k := fun r => k (q0 :: r)) h
    refine ⟨q0 :: r2, h1, by simp [h2], fun ns hn hc i q hq => ?_⟩
    cases i with
    | zero => cases hq; exact hn 0 q0 rfl
    | succ i => exact h3 (fun z => ns (z + 1)) (fun i q hq => hn (i + 1) q hq) hc i q hq
theorem e_leafT (k : Nat) : e_CT k (e_go1 k) := fun _ h => e_go1_t h
theorem e_ndT {k j c c1 : Nat} {a b : List (Nat × Nat) → Bool} (ha : e_CT k a) (hb : e_CT k b) : e_CT k (e_nd j c c1 a b) := by
  intro rs h ns hn
  unfold e_nd at h
  obtain ⟨h0, h⟩ := (Bool.and_eq_true _ _).mp h
  obtain ⟨h1, h2⟩ := (Bool.and_eq_true _ _).mp h
  have hc := Nat.eq_of_beq_eq_true h0
  by_cases hl : ns j ≤ c
  · obtain ⟨r2, g1, g2, g3⟩ := e_sH_t h1
    obtain ⟨r3, g4, g5, g6⟩ := ha r2 g1 ns (g3 ns hn hl)
    exact ⟨r3, g4.trans g2, g5, g6⟩
  · obtain ⟨r2, g1, g2, g3⟩ := e_sL_t h2
    obtain ⟨r3, g4, g5, g6⟩ := hb r2 g1 ns (g3 ns hn (by omega))
    exact ⟨r3, g4.trans g2, g5, g6⟩
/-- two boxes beside each other, as statements -/
theorem e_CovJ {k : Nat} {rs a b : List (Nat × Nat)} (j c : Nat) (ha : e_Cov k a) (hb : e_Cov k b) (h1 : e_sH j c rs (fun r => decide (r = a)) = true) (h2 : e_sL j (c + 1) rs (fun r => decide (r = b)) = true) : e_Cov k rs := by
  intro ns hn
  by_cases hl : ns j ≤ c
  · obtain ⟨r2, g1, g2, g3⟩ := e_sH_t h1
    obtain rfl := of_decide_eq_true g1
    obtain ⟨r3, g4, g5, g6⟩ := ha ns (g3 ns hn hl)
    exact ⟨r3, g4.trans g2, g5, g6⟩
  · obtain ⟨r2, g1, g2, g3⟩ := e_sL_t h2
    obtain rfl := of_decide_eq_true g1
    obtain ⟨r3, g4, g5, g6⟩ := hb ns (g3 ns hn (by omega))
    exact ⟨r3, g4.trans g2, g5, g6⟩
def e_all6 : List (Nat × Nat) := [(0, 4294967295), (0, 4294967295), (0, 4294967295), (0, 4294967295), (0, 4294967295), (0, 4294967295)]
