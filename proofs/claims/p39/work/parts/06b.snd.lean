section SN
theorem e_lfT {M q : Nat} {o : e_O} (h : e_Sn M q o) : e_Tb M (e_lf q o) := by
  intro pc o' ho
  unfold e_lf at ho
  cases hb : Nat.beq pc q with
  | false => rw [hb, cond_false] at ho; cases ho
  | true =>
    rw [hb, cond_true] at ho
    cases ho
    cases Nat.eq_of_beq_eq_true hb
    exact h
theorem e_brT {M k : Nat} {a b : e_X} (ha : e_Tb M a) (hb : e_Tb M b) : e_Tb M (e_br k a b) := by
  intro pc o ho
  unfold e_br at ho
  cases hc : Nat.ble k pc with
  | false => rw [hc, cond_false] at ho; exact ha pc o ho
  | true => rw [hc, cond_true] at ho; exact hb pc o ho
theorem e_noT {M : Nat} : e_Tb M e_no := fun _ _ h => by cases h
theorem e_lmT {q : Nat} {f : e_X} (h : e_Tb q f) : e_TT (e_lm q f) := by
  intro M
  unfold e_lm
  cases hb : Nat.beq M q with
  | false => rw [cond_false]; exact e_noT
  | true => rw [cond_true]; cases Nat.eq_of_beq_eq_true hb; exact h
theorem e_bmT {k : Nat} {a b : Nat → e_X} (ha : e_TT a) (hb : e_TT b) : e_TT (e_bm k a b) := by
  intro M
  unfold e_bm
  cases hc : Nat.ble k M with
  | false => rw [cond_false]; exact ha M
  | true => rw [cond_true]; exact hb M
end SN
