section RQ
noncomputable def rq_kk (nx : Nat) (r : List e_V) (F : e_F) (ls : e_A) (g : e_G) (K : e_K) : e_K := fun z w c => match z with
  | .inl (some v) => g F nx ls (v :: r) w c K
  | .inl none => g F nx ls r w c K
  | .inr _ => false
theorem rq_go {y m nx M fr lo : Nat} {bx : List (Nat × e_V)} {as r : List e_V} {la ls : e_A} {g : e_G} {w : e_W} {c : e_Q} {K : e_K} (hfr : 0 < fr) (hlo : m + 19 ≤ lo) (hr : e_stw r ≤ 8) (hla : ∀ k : e_A → Bool, e_loc as m k = k la) : e_go y m as nx r g (M, fr, lo, bx) ls w c K (fun _ _ _ => false) = g (y, fr - 1, lo - (m + 19), bx) 0 la [] w c (rq_kk nx r (M, fr, lo, bx) ls g K) := by
  show (bif Nat.blt 0 fr && Nat.ble (m + 19) lo && Nat.ble (e_stw r) 8 then e_fo (fr - 1) (fun fr' => e_fo (lo - (m + 19)) (fun lo' => e_loc as m (fun la =>
    g (y, fr', lo', bx) 0 la [] w c (rq_kk nx r (M, fr, lo, bx) ls g K)))) else false) = _
  rw [r_blt hfr, Nat.ble_eq_true_of_le hlo, Nat.ble_eq_true_of_le hr, Bool.and_self, Bool.and_self, cond_true, r_fo, r_fo, hla]
theorem rq_callS {y m n nx M fr lo : Nat} {bx : List (Nat × e_V)} {as r st : List e_V} {la ls : e_A} {w : e_W} {c : e_Q} (hfr : 0 < fr) (hlo : m + 19 ≤ lo) (hr : e_stw r ≤ 8) (ha : ∀ k : List e_V → List e_V → Bool, e_args n [] st k = k as r) (hla : ∀ k : e_A → Bool, e_loc as m k = k la) (g : e_G) (K : e_K) : o_callS y m n nx g (M, fr, lo, bx) ls st w c K = g (y, fr - 1, lo - (m + 19), bx) 0 la [] w c (rq_kk nx r (M, fr, lo, bx) ls g K) := by
  unfold o_callS
  rw [ha]
  exact rq_go hfr hlo hr hla
theorem rq_callV {y m n nx M fr lo q ci : Nat} {sel : Nat → Option (Nat × Nat)} {bx : List (Nat × e_V)} {as r st fs : List e_V} {la ls : e_A} {w : e_W} {c : e_Q} (hw : e_tget 13 w q = .inl (ci, fs)) (hs : sel ci = some (y, m)) (hfr : 0 < fr) (hlo : m + 19 ≤ lo) (hr : e_stw r ≤ 8) (ha : ∀ k : List e_V → List e_V → Bool, e_args n [] st k = k (.inr (.inl (some q)) :: as) r) (hla : ∀ k : e_A → Bool, e_loc (.inr (.inl (some q)) :: as) m k = k la) (g : e_G) (K : e_K) : o_callV sel n nx g (M, fr, lo, bx) ls st w c K = g (y, fr - 1, lo - (m + 19), bx) 0 la [] w c (rq_kk nx r (M, fr, lo, bx) ls g K) := by
  unfold o_callV o_callX
  rw [ha]
  show (match e_tget 13 w q with
    | .inl (ci, _) => match sel ci with
      | some (y, m) => e_go y m (.inr (.inl (some q)) :: as) nx r g (M, fr, lo, bx) ls w c K (fun _ _ _ => false)
      | none => false
    | _ => false) = _
  rw [hw]
  show (match sel ci with
      | some (y, m) => e_go y m (.inr (.inl (some q)) :: as) nx r g (M, fr, lo, bx) ls w c K (fun _ _ _ => false)
      | none => false) = _
  rw [hs]
  exact rq_go hfr hlo hr hla
end RQ
