section RQ
theorem r_fo (n : Nat) (k : Nat → Bool) : e_fo n k = k n := by cases n <;> rfl
theorem r_blt {a b : Nat} (h : a < b) : Nat.blt a b = true := Nat.ble_eq_true_of_le h
theorem r_clt {tg nx m n : Nat} (h : m < n) (g : e_G) (F : e_F) (al : e_A) (r : List e_V) (w : e_W) (c : e_Q) (K : e_K) : o_clt tg nx g F al (.inl n :: .inl m :: r) w c K = g F tg al r w c K := by
  show (bif Nat.blt m n then g F tg al r w c K else bif Nat.ble n m then g F nx al r w c K else false) = _
  rw [r_blt h, cond_true]
end RQ
