section RQ
theorem r_getf {nx a ci k : Nat} {fs : List e_V} {v : e_V} {w : e_W} (hw : e_tget 13 w a = .inl (ci, fs)) (hv : e_nth fs k = some v) (g : e_G) (F : e_F) (al : e_A) (r : List e_V) (c : e_Q) (K : e_K) : o_getf (e_f1 ci k) nx g F al (.inr (.inl (some a)) :: r) w c K = g F nx al (v :: r) w c K := by
  unfold o_getf
  show (match e_tget 13 w a with
    | .inl (cj, fs) => match e_f1 ci k cj with
      | some i => match e_nth fs i with
        | some v => g F nx al (v :: r) w c K
        | none => false
      | none => false
    | _ => false) = _
  rw [hw]
  show (match (bif Nat.beq ci ci then some k else none) with
      | some i => match e_nth fs i with
        | some v => g F nx al (v :: r) w c K
        | none => false
      | none => false) = _
  rw [Nat.beq_refl, cond_true]
  show (match e_nth fs k with
        | some v => g F nx al (v :: r) w c K
        | none => false) = _
  rw [hv]
end RQ
