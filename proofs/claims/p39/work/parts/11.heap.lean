/-! THE PICTURE'S CELLS -/
theorem e_tput_t {x : e_C} : ∀ (n : Nat) (t : e_T n) (i : Nat) (k : e_T n → Bool), i < 2 ^ n → e_tput x n t i k = true → ∃ t', k t' = true ∧ ∀ j, j < 2 ^ n → e_tget n t' j = if j = i then x else e_tget n t j
  | 0, t, i, k, hi, h => ⟨x, h, fun j hj => by
    have h1 : j = i := by simp at hi hj; omega
    rw [if_pos h1]; rfl⟩
  | n + 1, t, i, k, hi, h => by
    have hp : (2 : Nat) ^ (n + 1) = 2 ^ n + 2 ^ n := by rw [Nat.pow_succ]; omega
    obtain ⟨a, b⟩ : e_T n × e_T n := t
    replace h : (bif Nat.blt i (2 ^ n) then e_tput x n a i (fun a' => k (show e_T (n + 1) from ((a', b) : e_T n × e_T n))) else e_tput x n b (i - 2 ^ n) (fun b' => k (show e_T (n + 1) from ((a, b') : e_T n × e_T n)))) = true := h
    have hg : ∀ (a b : e_T n) (j : Nat), e_tget (n + 1) (show e_T (n + 1) from ((a, b) : e_T n × e_T n)) j = bif Nat.blt j (2 ^ n) then e_tget n a j else e_tget n b (j - 2 ^ n) := fun _ _ _ => rfl
    cases hb : Nat.blt i (2 ^ n) with
    | true =>
      rw [hb, cond_true] at h
      replace hb : i < 2 ^ n := Nat.le_of_ble_eq_true hb
      obtain ⟨a', h1, h2⟩ := e_tput_t n a i _ hb h
      refine ⟨_, h1, fun j hj => ?_⟩
      rw [hg]
      refine Eq.trans ?_ (congrArg (fun z => if j = i then x else z) (hg a b j).symm)
      cases hc : Nat.blt j (2 ^ n) with
      | true =>
        replace hc : j < 2 ^ n := Nat.le_of_ble_eq_true hc
        rw [cond_true, cond_true]
        exact h2 j hc
      | false =>
        have hc2 : ¬ j < 2 ^ n := fun q => by rw [show Nat.blt j (2 ^ n) = true from Nat.ble_eq_true_of_le q] at hc; cases hc
        rw [cond_false, cond_false, if_neg (by omega)]
    | false =>
      rw [hb, cond_false] at h
      have hb2 : ¬ i < 2 ^ n := fun q => by rw [show Nat.blt i (2 ^ n) = true from Nat.ble_eq_true_of_le q] at hb; cases hb
      obtain ⟨b', h1, h2⟩ := e_tput_t n b (i - 2 ^ n) _ (by omega) h
      refine ⟨_, h1, fun j hj => ?_⟩
      rw [hg]
      refine Eq.trans ?_ (congrArg (fun z => if j = i then x else z) (hg a b j).symm)
      cases hc : Nat.blt j (2 ^ n) with
      | true =>
        replace hc : j < 2 ^ n := Nat.le_of_ble_eq_true hc
        rw [cond_true, cond_true, if_neg (by omega)]
      | false =>
        have hc2 : ¬ j < 2 ^ n := fun q => by rw [show Nat.blt j (2 ^ n) = true from Nat.ble_eq_true_of_le q] at hc; cases hc
        rw [cond_false, cond_false, h2 (j - 2 ^ n) (by omega)]
        by_cases hj2 : j = i
        · rw [if_pos hj2, if_pos (by omega)]
        · rw [if_neg hj2, if_neg (by omega)]
theorem e_blt_f {a b : Nat} (h : Nat.blt a b = false) : ¬ a < b := fun q => by rw [show Nat.blt a b = true from Nat.ble_eq_true_of_le q] at h; cases h
theorem e_rep_t {α : Type} {x : α} : ∀ {l : List α} {n : Nat} {k : List α → Bool}, e_rep x l n k = true → n < l.length ∧ k (l.set n x) = true
  | [], _, _, h => by unfold e_rep at h; cases h
  | _ :: l, 0, k, h => ⟨by simp, h⟩
  | a :: l, n + 1, k, h => by
    obtain ⟨h1, h2⟩ := e_rep_t (l := l) (n := n) (k := fun l' => k (a :: l')) h
    exact ⟨by simp; omega, h2⟩
-- runs
theorem e_rget_t : ∀ {rs : List (Nat × e_V)} {i j : Nat} {v : e_V}, e_rget rs i j = some v → i ≤ j → ∀ k, i ≤ k → k ≤ j → e_rat rs k = some v ∧ k < e_rlen rs
  | [], _, _, _, h, _, _, _, _ => by cases h
  | (n, u) :: l, i, j, v, h, hij, k, h1, h2 => by
    unfold e_rget at h
    unfold e_rat e_rget
    cases hb : Nat.blt i n with
    | true =>
      rw [hb, cond_true] at h
      cases hb2 : Nat.blt j n with
      | true =>
        rw [hb2, cond_true] at h
        replace hb2 : j < n := Nat.le_of_ble_eq_true hb2
        have hk : Nat.blt k n = true := Nat.ble_eq_true_of_le (show k < n by omega)
        rw [hk, cond_true, cond_true]
        exact ⟨h, show k < n + e_rlen l by omega⟩
      | false => rw [hb2, cond_false] at h; cases h
    | false =>
      rw [hb, cond_false] at h
      have hb2 := e_blt_f hb
      have hk : Nat.blt k n = false := by
        cases hc : Nat.blt k n with
        | false => rfl
        | true => exact absurd (Nat.le_of_ble_eq_true hc : k < n) (by omega)
      obtain ⟨g1, g2⟩ := e_rget_t h (by omega) (k - n) (by omega) (by omega)
      rw [hk, cond_false]
      exact ⟨g1, show k < n + e_rlen l by omega⟩
theorem e_rat_lt {rs : List (Nat × e_V)} {j : Nat} {v : e_V} (h : e_rat rs j = some v) : j < e_rlen rs := (e_rget_t h (Nat.le_refl _) j (Nat.le_refl _) (Nat.le_refl _)).2
theorem e_rat_cons (n : Nat) (v : e_V) (l : List (Nat × e_V)) (j : Nat) : e_rat ((n, v) :: l) j = if j < n then some v else e_rat l (j - n) := by
  unfold e_rat
  rw [show e_rget ((n, v) :: l) j j = bif Nat.blt j n then (bif Nat.blt j n then some v else none) else e_rget l (j - n) (j - n) from rfl]
  cases hb : Nat.blt j n with
  | true =>
    have hb' : j < n := Nat.le_of_ble_eq_true hb
    rw [if_pos hb']; rfl
  | false => rw [if_neg (e_blt_f hb)]; rfl
theorem e_same_t {a b : e_V} (h : e_same a b = true) : a = b := by
  unfold e_same at h
  split at h
  · rw [Nat.eq_of_beq_eq_true h]
  · rw [Nat.eq_of_beq_eq_true h]
  · rfl
  · rw [Nat.eq_of_beq_eq_true h]
  · cases h
theorem e_cons_t {n : Nat} {v : e_V} {l : List (Nat × e_V)} {k : List (Nat × e_V) → Bool} (h : e_cons n v l k = true) : ∃ l', k l' = true ∧ e_rlen l' = n + e_rlen l ∧ ∀ j, e_rat l' j = if j < n then some v else e_rat l (j - n) := by
  cases n with
  | zero => exact ⟨l, h, by omega, fun j => by rw [if_neg (by omega), Nat.sub_zero]⟩
  | succ z =>
    cases l with
    | nil => exact ⟨[(Nat.succ z, v)], h, by simp [e_rlen], fun j => by rw [e_rat_cons]⟩
    | cons q t =>
      obtain ⟨m, u⟩ := q
      replace h : (bif e_same v u then e_fo (z + 1 + m) (fun q => k ((q, u) :: t)) else k ((Nat.succ z, v) :: (m, u) :: t)) = true := h
      cases hb : e_same v u with
      | true =>
        rw [hb, cond_true] at h
        have hv := e_same_t hb
        subst hv
        refine ⟨_, e_fo_t h, by simp only [e_rlen]; omega, fun j => ?_⟩
        rw [e_rat_cons, e_rat_cons]
        by_cases h1 : j < z + 1
        · rw [if_pos (by omega), if_pos h1]
        · rw [if_neg h1]
          by_cases h2 : j - (z + 1) < m
          · rw [if_pos (by omega), if_pos h2]
          · rw [if_neg (by omega), if_neg h2]
            congr 1
            omega
      | false =>
        rw [hb, cond_false] at h
        exact ⟨_, h, by simp only [e_rlen], fun j => by rw [e_rat_cons]⟩
theorem e_rset_t {x : e_V} : ∀ {rs : List (Nat × e_V)} {i : Nat} {k : List (Nat × e_V) → Bool}, e_rset x rs i k = true → ∃ rs', k rs' = true ∧ i < e_rlen rs ∧ e_rlen rs' = e_rlen rs ∧ ∀ j, e_rat rs' j = if j = i then some x else e_rat rs j
  | [], _, _, h => by cases h
  | (n, v) :: l, i, k, h => by
    unfold e_rset at h
    cases hb : Nat.blt i n with
    | true =>
      rw [hb, cond_true] at h
      replace hb : i < n := Nat.le_of_ble_eq_true hb
      obtain ⟨l1, h, a1, b1⟩ := e_cons_t h
      obtain ⟨l2, h, a2, b2⟩ := e_cons_t h
      obtain ⟨l3, h, a3, b3⟩ := e_cons_t h
      refine ⟨l3, h, show i < n + e_rlen l by omega, show e_rlen l3 = n + e_rlen l by omega, fun j => ?_⟩
      rw [b3, e_rat_cons]
      by_cases h1 : j < i
      · rw [if_pos h1, if_neg (by omega), if_pos (by omega)]
      · rw [if_neg h1, b2]
        by_cases h2 : j = i
        · rw [if_pos (by omega), if_pos h2]
        · rw [if_neg (by omega), if_neg h2, b1]
          by_cases h3 : j < n
          · rw [if_pos (by omega), if_pos h3]
          · rw [if_neg (by omega), if_neg h3]
            congr 1
            omega
    | false =>
      rw [hb, cond_false] at h
      have hb2 := e_blt_f hb
      obtain ⟨l1, h, a1, a2, b1⟩ := e_rset_t h
      obtain ⟨l2, h, a3, b2⟩ := e_cons_t h
      refine ⟨l2, h, show i < n + e_rlen l by omega, show e_rlen l2 = n + e_rlen l by omega, fun j => ?_⟩
      rw [b2, e_rat_cons]
      by_cases h1 : j < n
      · rw [if_pos h1, if_neg (by omega), if_pos h1]
      · rw [if_neg h1, if_neg h1, b1]
        by_cases h2 : j = i
        · rw [if_pos (by omega), if_pos h2]
        · rw [if_neg (by omega), if_neg h2]
-- the world
theorem e_wk_set {ad : Nat → Nat} {as : List Nat} {tys : List (ClassId × FieldType)} {w w' : e_W} {n q a : Nat} {ws : va_W} {e0 e' : va_E} {x : e_C} (h : e_wk ad as tys w n ws) (hq : ws[q]? = some (a, e0)) (hw : ∀ j, j < 2 ^ 13 → e_tget 13 w' j = if j = q then x else e_tget 13 w j) (hx : e_ent ad as tys x e') : e_wk ad as tys w' n (ws.set q (a, e')) := by
  obtain ⟨h1, h2, h3, h4⟩ := h
  have hlt : q < ws.length := (List.getElem?_eq_some_iff.mp hq).1
  refine ⟨?_, by simp [h2], h3, fun i z hz => ?_⟩
  · rw [← h1, List.map_set]
    apply List.ext_getElem?
    intro j
    rw [List.getElem?_set]
    split
    · next hj =>
      subst hj
      split
      · rw [List.getElem?_map, hq]; rfl
      · next hn => simp at hn; omega
    · rfl
  · have hi : i < 8192 := by
      have := (List.getElem?_eq_some_iff.mp hz).1
      simp at this
      omega
    rw [hw i hi]
    rw [List.getElem?_set] at hz
    by_cases hiq : q = i
    · subst hiq
      rw [if_pos rfl, if_pos hlt] at hz
      cases hz
      rw [if_pos rfl]
      exact hx
    · rw [if_neg hiq] at hz
      rw [if_neg (fun z => hiq z.symm)]
      exact h4 i z hz
theorem e_wk_push {ad : Nat → Nat} {as : List Nat} {tys : List (ClassId × FieldType)} {w w' : e_W} {n a : Nat} {ws : va_W} {e' : va_E} {x : e_C} (h : e_wk ad as tys w n ws) (hn : n < 8192) (hw : ∀ j, j < 2 ^ 13 → e_tget 13 w' j = if j = n then x else e_tget 13 w j) (hx : e_ent ad (as ++ [a]) tys x e') : e_wk ad (as ++ [a]) tys w' (n + 1) (ws ++ [(a, e')]) := by
  obtain ⟨h1, h2, h3, h4⟩ := h
  refine ⟨by simp [h1], by simp [h2], by omega, fun i z hz => ?_⟩
  have hi : i < n + 1 := by
    have := (List.getElem?_eq_some_iff.mp hz).1
    simp at this
    omega
  rw [hw i (show i < 8192 by omega)]
  by_cases hin : i = n
  · subst hin
    rw [if_pos rfl]
    rw [List.getElem?_append_right (by omega), h2, Nat.sub_self] at hz
    cases hz
    exact hx
  · rw [if_neg hin]
    rw [List.getElem?_append_left (by omega)] at hz
    exact e_ent_mono ⟨[a], rfl⟩ (h4 i z hz)
theorem e_wk_at {ad : Nat → Nat} {as : List Nat} {tys : List (ClassId × FieldType)} {w : e_W} {n i a : Nat} {ws : va_W} (h : e_wk ad as tys w n ws) (ha : as[i]? = some a) : ∃ e', ws[i]? = some (a, e') ∧ e_ent ad as tys (e_tget 13 w i) e' := by
  obtain ⟨h1, h2, h3, h4⟩ := h
  subst h1
  rw [List.getElem?_map] at ha
  cases hz : ws[i]? with
  | none => rw [hz] at ha; cases ha
  | some q =>
    rw [hz] at ha
    obtain ⟨a', e'⟩ := q
    cases ha
    exact ⟨e', rfl, h4 i _ hz⟩
theorem e_uws {C : String} {T : u_T} {N : Nat} (h : ∀ w ∈ u_ws C T N, w ∈ lw_tbl) : ∀ w ∈ u_ws C T N, w ∈ e_ws := by
  intro w hw
  refine List.mem_filter.mpr ⟨h w hw, ?_⟩
  obtain ⟨k, -, rfl⟩ := List.mem_map.mp hw
  unfold u_lay
  split <;> rfl
