/-! HOW MUCH THE CELLS OF A PICTURE HOLD -/
section RC
noncomputable def r_al (x : e_C) : Nat := match x with
  | .inl _ => 0
  | .inr (_, rs) => e_rlen rs
/-- what the arrays among the first lim cells hold -/
noncomputable def r_sm (lim d : Nat) : e_T d → Nat → Nat := Nat.rec (motive := fun d => e_T d → Nat → Nat) (fun t o => bif Nat.blt o lim then r_al t else 0) (fun d ih t o => ih (show e_T d × e_T d from t).1 o + ih (show e_T d × e_T d from t).2 (o + 2 ^ d)) d
/-- a sum from o on, so many -/
noncomputable def r_S (f : Nat → Nat) : Nat → Nat → Nat
  | _, 0 => 0
  | o, n + 1 => f o + r_S f (o + 1) n
theorem r_S_add (f : Nat → Nat) : ∀ (a b o : Nat), r_S f o (a + b) = r_S f o a + r_S f (o + a) b
  | 0, b, o => by
    rw [Nat.zero_add, Nat.add_zero]
    show _ = 0 + _
    rw [Nat.zero_add]
  | a + 1, b, o => by
    rw [show a + 1 + b = (a + b) + 1 by omega]
    show f o + r_S f (o + 1) (a + b) = (f o + r_S f (o + 1) a) + r_S f (o + (a + 1)) b
    rw [r_S_add f a b (o + 1), show o + 1 + a = o + (a + 1) by omega, Nat.add_assoc]
theorem r_S_congr {f g : Nat → Nat} : ∀ (n o : Nat), (∀ j, o ≤ j → j < o + n → f j = g j) → r_S f o n = r_S g o n
  | 0, _, _ => rfl
  | n + 1, o, h => by
    show f o + r_S f (o + 1) n = g o + r_S g (o + 1) n
    rw [h o (Nat.le_refl _) (by omega), r_S_congr n (o + 1) (fun j h1 h2 => h j (by omega) (by omega))]
theorem r_S_le {f g : Nat → Nat} : ∀ (n o : Nat), (∀ j, o ≤ j → j < o + n → f j ≤ g j) → r_S f o n ≤ r_S g o n
  | 0, _, _ => Nat.le_refl _
  | n + 1, o, h => Nat.add_le_add (h o (Nat.le_refl _) (by omega)) (r_S_le n (o + 1) (fun j h1 h2 => h j (by omega) (by omega)))
theorem r_S_zero {f : Nat → Nat} : ∀ (n o : Nat), (∀ j, o ≤ j → j < o + n → f j = 0) → r_S f o n = 0
  | 0, _, _ => rfl
  | n + 1, o, h => by
    show f o + r_S f (o + 1) n = 0
    rw [h o (Nat.le_refl _) (by omega), r_S_zero n (o + 1) (fun j h1 h2 => h j (by omega) (by omega))]
theorem r_S_shift (f : Nat → Nat) (q : Nat) : ∀ (n o : Nat), r_S (fun j => f (j + q)) o n = r_S f (o + q) n
  | 0, _ => rfl
  | n + 1, o => by
    show f (o + q) + r_S (fun j => f (j + q)) (o + 1) n = f (o + q) + r_S f (o + q + 1) n
    rw [r_S_shift f q n (o + 1), show o + 1 + q = o + q + 1 by omega]
theorem r_blt_f {a b : Nat} (h : b ≤ a) : Nat.blt a b = false := by
  cases hb : Nat.blt a b with
  | false => rfl
  | true =>
    have : a < b := Nat.le_of_ble_eq_true hb
    omega
theorem r_blt_t {a b : Nat} (h : a < b) : Nat.blt a b = true := Nat.ble_eq_true_of_le h
/-- one leaf -/
noncomputable def r_lf (lim o : Nat) (x : e_C) (j : Nat) : Nat := bif Nat.blt (o + j) lim then r_al x else 0
theorem r_sm_eq (lim : Nat) : ∀ (d : Nat) (t : e_T d) (o : Nat), r_sm lim d t o = r_S (fun j => r_lf lim o (e_tget d t j) j) 0 (2 ^ d)
  | 0, t, o => by
    show (bif Nat.blt o lim then r_al t else 0) = r_lf lim o (e_tget 0 t 0) 0 + 0
    rw [Nat.add_zero]
    show _ = (bif Nat.blt (o + 0) lim then r_al t else 0)
    rw [Nat.add_zero]
  | d + 1, t, o => by
    obtain ⟨a, b⟩ : e_T d × e_T d := t
    have hg : ∀ j, e_tget (d + 1) (show e_T (d + 1) from ((a, b) : e_T d × e_T d)) j = bif Nat.blt j (2 ^ d) then e_tget d a j else e_tget d b (j - 2 ^ d) := fun _ => rfl
    have hp : 2 ^ (d + 1) = 2 ^ d + 2 ^ d := by rw [Nat.pow_succ]; omega
    show r_sm lim d a o + r_sm lim d b (o + 2 ^ d) = r_S (fun j => r_lf lim o (e_tget (d + 1) (show e_T (d + 1) from ((a, b) : e_T d × e_T d)) j) j) 0 (2 ^ (d + 1))
    generalize hF : (fun j => r_lf lim o (e_tget (d + 1) (show e_T (d + 1) from ((a, b) : e_T d × e_T d)) j) j) = F
    rw [hp, r_S_add, Nat.zero_add, r_sm_eq lim d a o, r_sm_eq lim d b (o + 2 ^ d)]
    have e1 : r_S (fun j => r_lf lim o (e_tget d a j) j) 0 (2 ^ d) = r_S F 0 (2 ^ d) := r_S_congr _ _ (fun j _ h2 => by
      rw [← hF]
      show r_lf lim o (e_tget d a j) j = r_lf lim o (e_tget (d + 1) (show e_T (d + 1) from ((a, b) : e_T d × e_T d)) j) j
      rw [hg, r_blt_t (by omega), cond_true])
    have e2 := r_S_shift F (2 ^ d) (2 ^ d) 0
    rw [Nat.zero_add] at e2
    have e3 : r_S (fun j => r_lf lim (o + 2 ^ d) (e_tget d b j) j) 0 (2 ^ d) = r_S (fun j => F (j + 2 ^ d)) 0 (2 ^ d) := r_S_congr _ _ (fun j _ h2 => by
      rw [← hF]
      show (bif Nat.blt (o + 2 ^ d + j) lim then r_al (e_tget d b j) else 0) = (bif Nat.blt (o + (j + 2 ^ d)) lim then r_al (e_tget (d + 1) (show e_T (d + 1) from ((a, b) : e_T d × e_T d)) (j + 2 ^ d)) else 0)
      rw [hg, r_blt_f (by omega : 2 ^ d ≤ j + 2 ^ d), cond_false, Nat.add_sub_cancel, show o + 2 ^ d + j = o + (j + 2 ^ d) by omega])
    rw [e1, e3, e2]
/-- the sum over a list -/
theorem r_S_list {α : Type} (f : α → Nat) : ∀ (l : List α) (o : Nat) (g : Nat → Nat), (∀ j x, l[j]? = some x → g (o + j) = f x) → r_S g o l.length = (l.map f).sum
  | [], _, _, _ => rfl
  | x :: l, o, g, h => by
    show g o + r_S g (o + 1) l.length = f x + (l.map f).sum
    rw [show g o = f x from h 0 x rfl, r_S_list f l (o + 1) g (fun j y hj => by rw [show o + 1 + j = o + (j + 1) by omega]; exact h (j + 1) y hj)]
/-- numbers that are apart, all below n: what f sums to over them is no more than over all below n -/
theorem r_apart (f : Nat → Nat) : ∀ (n : Nat) (l : List Nat), l.Nodup → (∀ a ∈ l, a < n) → (l.map f).sum ≤ r_S f 0 n
  | 0, l, _, h => by
    cases l with
    | nil => exact Nat.le_refl _
    | cons a l => exact absurd (h a List.mem_cons_self) (Nat.not_lt_zero a)
  | n + 1, l, hn, h => by
    have e0 : r_S f 0 (n + 1) = r_S f 0 n + f n := by
      rw [r_S_add f n 1 0, Nat.zero_add]
      rfl
    rw [e0]
    by_cases hm : n ∈ l
    · have h1 := ((List.perm_cons_erase hm).map f).sum_nat
      have h3 : ((n :: l.erase n).map f).sum = f n + ((l.erase n).map f).sum := rfl
      have h2 := r_apart f n (l.erase n) (List.Nodup.erase n hn) (fun a ha => by
        have h4 := h a (List.mem_of_mem_erase ha)
        have h5 : a ≠ n := fun q => by
          rw [q] at ha
          exact hn.not_mem_erase ha
        omega)
      omega
    · have h2 := r_apart f n l hn (fun a ha => by
        have h4 := h a ha
        have h5 : a ≠ n := fun q => by
          rw [q] at ha
          exact hm ha
        omega)
      omega
theorem r_nd {l : List Nat} (h : ∀ (i j a : Nat), l[i]? = some a → l[j]? = some a → i = j) : l.Nodup :=
  List.pairwise_iff_getElem.mpr (fun i j hi hj hij he => by
    have h1 := h i j l[i] (List.getElem?_eq_getElem hi) (by rw [List.getElem?_eq_getElem hj, he])
    omega)
theorem r_nodup {base : Nat} {ws : va_W} (hD : va_D (e_A0 base) ws) : (ws.map (·.1 - base)).Nodup := r_nd (fun i j a hi hj => by
  rw [List.getElem?_map] at hi hj
  cases hx : ws[i]? with
  | none => rw [hx] at hi; cases hi
  | some p =>
    cases hy : ws[j]? with
    | none => rw [hy] at hj; cases hj
    | some q =>
      rw [hx] at hi
      rw [hy] at hj
      have h1 : p.1 - base = a := Option.some.inj hi
      have h2 : q.1 - base = a := Option.some.inj hj
      have h3 : base ≤ p.1 := hD.2 i p hx
      have h4 : base ≤ q.1 := hD.2 j q hy
      exact hD.1 i j p q hx hy (by omega))
noncomputable def r_sz (H : Heap) (a : Nat) : Nat := match H[a]? with
  | some c => c.slots.size
  | none => 0
theorem r_sz_some {H : Heap} {a : Nat} {c : Cell} (h : H[a]? = some c) : r_sz H a = c.slots.size := by
  unfold r_sz
  rw [h]
noncomputable def r_at (H : Heap) (ws : va_W) (j : Nat) : Nat := match ws[j]? with
  | some q => r_sz H q.1
  | none => 0
theorem r_at_some {H : Heap} {ws : va_W} {j : Nat} {q : Nat × va_E} (h : ws[j]? = some q) : r_at H ws j = r_sz H q.1 := by
  unfold r_at
  rw [h]
theorem r_drop (H : Heap) (base : Nat) : ((H.toList.drop base).map (·.slots.size)).sum = r_S (r_sz H) base (H.size - base) := by
  have h1 : H.size - base = (H.toList.drop base).length := by rw [List.length_drop, Array.length_toList]
  rw [h1]
  refine (r_S_list (fun c : Cell => c.slots.size) (H.toList.drop base) base (r_sz H) (fun j x hj => ?_)).symm
  rw [List.getElem?_drop, Array.getElem?_toList] at hj
  exact r_sz_some hj
theorem r_cell {D : va_G} {cl : List vw_C} {ad : Nat → Nat} {as : List Nat} {tys : List (ClassId × FieldType)} {x : e_C} {a : Nat} {e : va_E} {H : Heap} (h3 : e_ent ad as tys x e) (h4 : va_at D cl (a, e) H) : r_al x ≤ r_sz H a := by
  match x, e, h3, h4 with
  | .inl (_, _), _, _, _ => exact Nat.zero_le _
  | .inr (tc, rs), .inl (cA, k, f), h3, h4 =>
    have h3' : (∃ ty, tys[tc]? = some (cA, ty)) ∧ k = e_rlen rs ∧ k < 2147483648 ∧ e_arr ad as rs tc f := h3
    have h5 : H[a]? = some (vp_cell cA (k, f)) := h4
    have h6 : (vp_cell cA (k, f)).slots.size = k := by
      rcases f with f | f | f | f | f <;> exact arrV_size _ _ _
    rw [r_sz_some h5, h6]
    show e_rlen rs ≤ k
    rw [h3'.2.1]
    exact Nat.le_refl _
  | .inr (_, _), .inr (_, _), h3, _ => exact h3.elim
theorem r_count {D : va_G} {cl : List vw_C} {ad : Nat → Nat} {as : List Nat} {tys : List (ClassId × FieldType)} {w : e_W} {n base : Nat} {ws : va_W} {H : Heap} (hk : e_wk ad as tys w n ws) (hP : va_P D cl ws H) (hD : va_D (e_A0 base) ws) (hb : base ≤ H.size) : r_sm n 13 w 0 ≤ ((H.toList.drop base).map (·.slots.size)).sum := by
  obtain ⟨k1, k2, k3, k4⟩ := hk
  have hlt : ∀ (k : Nat) (q : Nat × va_E), ws[k]? = some q → q.1 < H.size := fun k q h => vx_lt hP h
  have h0 : r_sm n 13 w 0 = r_S (fun j => r_lf n 0 (e_tget 13 w j) j) 0 8192 := r_sm_eq n 13 w 0
  have hz : r_S (fun j => r_lf n 0 (e_tget 13 w j) j) n (8192 - n) = 0 := r_S_zero _ _ (fun j h1 _ => by
    show (bif Nat.blt (0 + j) n then r_al (e_tget 13 w j) else 0) = 0
    rw [Nat.zero_add, r_blt_f h1, cond_false])
  have h1 : r_S (fun j => r_lf n 0 (e_tget 13 w j) j) 0 8192 = r_S (fun j => r_lf n 0 (e_tget 13 w j) j) 0 n := by
    have e1 := r_S_add (fun j => r_lf n 0 (e_tget 13 w j) j) n (8192 - n) 0
    rw [Nat.zero_add, hz, Nat.add_zero, show n + (8192 - n) = 8192 by omega] at e1
    exact e1
  have h2 : r_S (fun j => r_lf n 0 (e_tget 13 w j) j) 0 n ≤ r_S (r_at H ws) 0 n := r_S_le _ _ (fun j _ hj => by
    have hj' : j < ws.length := by omega
    obtain ⟨q, hq⟩ : ∃ q, ws[j]? = some q := ⟨_, List.getElem?_eq_getElem hj'⟩
    show (bif Nat.blt (0 + j) n then r_al (e_tget 13 w j) else 0) ≤ r_at H ws j
    rw [r_blt_t (by omega), cond_true, r_at_some hq]
    exact r_cell (k4 j q hq) (hP j q hq))
  have h7 : r_S (r_at H ws) 0 n = ((ws.map (·.1 - base)).map (fun a => r_sz H (a + base))).sum := by
    rw [List.map_map, ← k2]
    refine r_S_list _ ws 0 _ (fun j x hj => ?_)
    rw [Nat.zero_add, r_at_some hj]
    show r_sz H x.1 = r_sz H (x.1 - base + base)
    have h8 : base ≤ x.1 := hD.2 j x hj
    rw [Nat.sub_add_cancel h8]
  have h9 : ((ws.map (·.1 - base)).map (fun a => r_sz H (a + base))).sum ≤ r_S (fun a => r_sz H (a + base)) 0 (H.size - base) := r_apart _ _ _ (r_nodup hD) (fun a ha => by
    obtain ⟨q, hq, rfl⟩ := List.mem_map.mp ha
    obtain ⟨k, hk⟩ := List.getElem?_of_mem hq
    have h10 := hlt k q hk
    have h11 : base ≤ q.1 := hD.2 k q hk
    omega)
  have h12 := r_S_shift (r_sz H) base (H.size - base) 0
  rw [Nat.zero_add] at h12
  rw [r_drop H base, h0, h1, ← h12]
  exact Nat.le_trans h2 (Nat.le_trans (Nat.le_of_eq h7) h9)
end RC
