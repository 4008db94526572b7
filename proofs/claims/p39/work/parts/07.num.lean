/-! NUMBERS BY THEIR CODES -/
theorem n_add {m n : Nat} (hm : m < 4294967296) (hn : n < 4294967296) : e_i m + e_i n = e_i ((m + n + 2147483648) % 4294967296) := by
  apply e_i_eq (Nat.mod_lt _ (by decide))
  rw [Int32.toInt_add, e_i_int hm, e_i_int hn, Int.bmod_def]
  split <;> omega
theorem n_addR {m n : Nat} (hm : m < 4294967296) (hn : n < 4294967296) (h1 : 2147483648 ≤ m + n) (h2 : m + n < 6442450944) : e_i m + e_i n = e_i (m + n - 2147483648) := by
  apply e_i_eq (by omega)
  rw [Int32.toInt_add, e_i_int hm, e_i_int hn, Int.bmod_def]
  split <;> omega
theorem n_sub {m n : Nat} (hm : m < 4294967296) (hn : n < 4294967296) : e_i m - e_i n = e_i ((m + 6442450944 - n) % 4294967296) := by
  apply e_i_eq (Nat.mod_lt _ (by decide))
  rw [Int32.toInt_sub, e_i_int hm, e_i_int hn, Int.bmod_def]
  split <;> omega
theorem n_subR {m n : Nat} (hm : m < 4294967296) (hn : n < 4294967296) (h1 : n ≤ m + 2147483648) (h2 : m + 2147483648 - n < 4294967296) : e_i m - e_i n = e_i (m + 2147483648 - n) := by
  apply e_i_eq (by omega)
  rw [Int32.toInt_sub, e_i_int hm, e_i_int hn, Int.bmod_def]
  split <;> omega
theorem n_neg {m : Nat} (hm : m < 4294967296) : - e_i m = e_i ((4294967296 - m) % 4294967296) := by
  apply e_i_eq (Nat.mod_lt _ (by decide))
  rw [Int32.toInt_neg, e_i_int hm, Int.bmod_def]
  split <;> omega
theorem n_ofu {x : Int32} {k : Nat} (h : x.toBitVec.toNat = k) : x = e_i (e_u k) := by rw [← h]; exact e_i_ofu
theorem n_mul {m n : Nat} (hm : m < 4294967296) (hn : n < 4294967296) : e_i m * e_i n = e_i (e_u (e_u m * e_u n % 4294967296)) := by
  apply n_ofu
  rw [Int32.toBitVec_mul, BitVec.toNat_mul, e_i_u hm, e_i_u hn]
theorem n_and {m n : Nat} (hm : m < 4294967296) (hn : n < 4294967296) : e_i m &&& e_i n = e_i (e_u (Nat.land (e_u m) (e_u n) % 4294967296)) := by
  apply n_ofu
  rw [Int32.toBitVec_and, BitVec.toNat_and, e_i_u hm, e_i_u hn]
  exact (Nat.mod_eq_of_lt (Nat.lt_of_le_of_lt Nat.and_le_left (e_u_lt m))).symm
theorem n_or {m n : Nat} (hm : m < 4294967296) (hn : n < 4294967296) : e_i m ||| e_i n = e_i (e_u (Nat.lor (e_u m) (e_u n) % 4294967296)) := by
  apply n_ofu
  rw [Int32.toBitVec_or, BitVec.toNat_or, e_i_u hm, e_i_u hn]
  exact (Nat.mod_eq_of_lt (Nat.or_lt_two_pow (n := 32) (e_u_lt m) (e_u_lt n))).symm
theorem n_xor {m n : Nat} (hm : m < 4294967296) (hn : n < 4294967296) : e_i m ^^^ e_i n = e_i (e_u (Nat.xor (e_u m) (e_u n) % 4294967296)) := by
  apply n_ofu
  rw [Int32.toBitVec_xor, BitVec.toNat_xor, e_i_u hm, e_i_u hn]
  exact (Nat.mod_eq_of_lt (Nat.xor_lt_two_pow (n := 32) (e_u_lt m) (e_u_lt n))).symm
theorem n_sm {n : Nat} (hn : n < 4294967296) : ((e_i n &&& 31).toBitVec.smod 32).toNat = e_u n % 32 := by
  have h1 : (e_i n &&& 31).toBitVec.toNat = e_u n % 32 := by
    rw [Int32.toBitVec_and, BitVec.toNat_and, e_i_u hn]
    exact Nat.and_two_pow_sub_one_eq_mod (e_u n) 5
  have h2 : (e_i n &&& 31).toBitVec = BitVec.ofNat 32 (e_u n % 32) := by
    apply BitVec.eq_of_toNat_eq
    rw [h1, BitVec.toNat_ofNat]
    omega
  rw [h2]
  have h3 : ∀ k : Nat, k < 32 → ((BitVec.ofNat 32 k).smod 32).toNat = k := by decide +kernel
  exact h3 _ (Nat.mod_lt _ (by decide))
theorem n_shl {m n : Nat} (hm : m < 4294967296) (hn : n < 4294967296) : e_i m <<< (e_i n &&& 31) = e_i (e_u (e_u m * 2 ^ (e_u n % 32) % 4294967296)) := by
  apply n_ofu
  rw [pk_shl _ _ _ (n_sm hn), e_i_u hm]
theorem n_ushr {m n : Nat} (hm : m < 4294967296) (hn : n < 4294967296) : ((e_i m).toUInt32 >>> ((e_i n).toUInt32 &&& Int32.toUInt32 31)).toInt32 = e_i (e_u (e_u m / 2 ^ (e_u n % 32))) := by
  apply n_ofu
  rw [pk_ushr _ _ (e_u n % 32) ?_, e_i_u hm]
  have h1 : ((e_i n).toUInt32 &&& Int32.toUInt32 31).toBitVec.toNat = e_u n % 32 := by
    have h0 : ((e_i n).toUInt32).toBitVec.toNat = e_u n := e_i_u hn
    rw [UInt32.toBitVec_and, BitVec.toNat_and, h0]
    exact Nat.and_two_pow_sub_one_eq_mod (e_u n) 5
  rw [BitVec.toNat_umod, h1]
  exact Nat.mod_mod _ _
theorem n_shr {m n : Nat} (hm : m < 4294967296) (hn : n < 4294967296) (h : 2147483648 ≤ m) : e_i m >>> (e_i n &&& 31) = e_i ((m - 2147483648) / 2 ^ (e_u n % 32) + 2147483648) := by
  rw [e_i_nn hm h, pk_shrN (by omega) _ _ (n_sm hn)]
  have h2 : (m - 2147483648) / 2 ^ (e_u n % 32) ≤ m - 2147483648 := Nat.div_le_self _ _
  generalize (m - 2147483648) / 2 ^ (e_u n % 32) = q at h2 ⊢
  rw [e_i_nn (by omega) (by omega), Nat.add_sub_cancel]
theorem n_div {m n : Nat} (hm : m < 4294967296) (hn : n < 4294967296) (h : 2147483648 ≤ m) (h0 : 2147483648 < n) : e_i m / e_i n = e_i ((m - 2147483648) / (n - 2147483648) + 2147483648) := by
  rw [e_i_nn hm h, e_i_nn hn (by omega), pk_div (by omega) (by omega) (by omega)]
  have h2 : (m - 2147483648) / (n - 2147483648) ≤ m - 2147483648 := Nat.div_le_self _ _
  generalize (m - 2147483648) / (n - 2147483648) = q at h2 ⊢
  rw [e_i_nn (by omega) (by omega), Nat.add_sub_cancel]
theorem n_rem {m n : Nat} (hm : m < 4294967296) (hn : n < 4294967296) (h : 2147483648 ≤ m) (h0 : 2147483648 < n) : e_i m - e_i m / e_i n * e_i n = e_i ((m - 2147483648) % (n - 2147483648) + 2147483648) := by
  rw [e_i_nn hm h, e_i_nn hn (by omega), pk_rem (by omega) (by omega) (by omega)]
  have h2 : (m - 2147483648) % (n - 2147483648) < n - 2147483648 := Nat.mod_lt _ (by omega)
  rw [e_i_nn (by omega) (by omega), Nat.add_sub_cancel]
theorem n_ne0 {n : Nat} (hn : n < 4294967296) (h0 : 2147483648 < n) : ¬ e_i n = 0 := by
  rw [← e_i0, e_i_inj hn (by decide)]
  omega
theorem n_mulR {m l h n : Nat} (hm : m < 4294967296) (hl : l ≤ m) (hh : m ≤ h) (hn : n < 4294967296) (h1 : 2147483648 ≤ n) (h2 : 2147483648 * (n - 2147483648) ≤ l * (n - 2147483648) + 2147483648) (h3 : h * (n - 2147483648) + 2147483648 - 2147483648 * (n - 2147483648) < 4294967296) :
    ∃ k, l * (n - 2147483648) + 2147483648 - 2147483648 * (n - 2147483648) ≤ k ∧ k ≤ h * (n - 2147483648) + 2147483648 - 2147483648 * (n - 2147483648) ∧ k < 4294967296 ∧ e_i m * e_i n = e_i k := by
  obtain ⟨k, rfl⟩ : ∃ k, n = k + 2147483648 := ⟨n - 2147483648, by omega⟩
  rw [Nat.add_sub_cancel] at *
  have a1 : l * k ≤ m * k := Nat.mul_le_mul_right k hl
  have a2 : m * k ≤ h * k := Nat.mul_le_mul_right k hh
  refine ⟨m * k + 2147483648 - 2147483648 * k, by omega, by omega, by omega, ?_⟩
  apply e_i_eq (by omega)
  rw [Int32.toInt_mul, e_i_int hm, e_i_int hn]
  have a3 : ((m : Int) - 2147483648) * (((k + 2147483648 : Nat) : Int) - 2147483648) = ((m * k : Nat) : Int) - ((2147483648 * k : Nat) : Int) := by
    rw [show (((k + 2147483648 : Nat) : Int) - 2147483648) = (k : Int) by omega, Int.sub_mul]
    simp
  rw [a3, Int.bmod_def]
  split <;> omega
theorem n_i2l {m : Nat} (hm : m < 4294967296) : (e_i m).toInt64 = e_l (m + 9223372034707292160) := by
  apply e_l_eq (by omega)
  rw [Int32.toInt_toInt64, e_i_int hm]
  omega
theorem n_l2i {m : Nat} (hm : m < 18446744073709551616) : (e_l m).toInt32 = e_i (e_u (e_uL m % 4294967296)) := by
  apply e_i_eq (e_u_lt _)
  rw [Int64.toInt_toInt32, e_l_int hm, Int.bmod_def]
  unfold e_u e_uL
  split <;> omega
theorem n_ladd {m n : Nat} (hm : m < 18446744073709551616) (hn : n < 18446744073709551616) : e_l m + e_l n = e_l ((m + n + 9223372036854775808) % 18446744073709551616) := by
  apply e_l_eq (Nat.mod_lt _ (by decide))
  rw [Int64.toInt_add, e_l_int hm, e_l_int hn, Int.bmod_def]
  split <;> omega
theorem n_lsub {m n : Nat} (hm : m < 18446744073709551616) (hn : n < 18446744073709551616) : e_l m - e_l n = e_l ((m + 27670116110564327424 - n) % 18446744073709551616) := by
  apply e_l_eq (Nat.mod_lt _ (by decide))
  rw [Int64.toInt_sub, e_l_int hm, e_l_int hn, Int.bmod_def]
  split <;> omega
theorem n_lu {m : Nat} (h : m < 18446744073709551616) : (e_l m).toBitVec.toNat = e_uL m := by
  have h1 := e_l_int h
  have h2 : (e_l m).toInt = (e_l m).toBitVec.toInt := rfl
  rw [h2, BitVec.toInt_eq_toNat_cond] at h1
  have h3 := (e_l m).toBitVec.isLt
  unfold e_uL
  split at h1 <;> omega
theorem n_lof (x : Int64) : ∃ m : Nat, m < 18446744073709551616 ∧ x = e_l m := by
  have h1 := x.toInt_lt
  have h2 := x.le_toInt
  refine ⟨(x.toInt + 9223372036854775808).toNat, by omega, ?_⟩
  apply e_l_eq (by omega)
  omega
theorem n_lofu {x : Int64} {k : Nat} (h : x.toBitVec.toNat = k) : x = e_l (e_uL k) := by
  obtain ⟨m, hm, rfl⟩ := n_lof x
  rw [n_lu hm] at h
  subst h
  have h9 : m = e_uL (e_uL m) := by unfold e_uL; omega
  exact congrArg e_l h9
theorem n_lmul {m n : Nat} (hm : m < 18446744073709551616) (hn : n < 18446744073709551616) : e_l m * e_l n = e_l (e_uL (e_uL m * e_uL n % 18446744073709551616)) := by
  apply n_lofu
  rw [Int64.toBitVec_mul, BitVec.toNat_mul, n_lu hm, n_lu hn]
theorem n_lnn {m : Nat} (h : m < 18446744073709551616) (h2 : 9223372036854775808 ≤ m) : e_l m = lN (m - 9223372036854775808) := by
  symm
  apply e_l_eq h
  rw [pk_lT (by omega)]
  omega
theorem n_ldiv {m n : Nat} (hm : m < 18446744073709551616) (hn : n < 18446744073709551616) (h : 9223372036854775808 ≤ m) (h0 : 9223372036854775808 < n) : e_l m / e_l n = e_l ((m - 9223372036854775808) / (n - 9223372036854775808) + 9223372036854775808) := by
  rw [n_lnn hm h, n_lnn hn (by omega), pk_lDiv (by omega) (by omega) (by omega)]
  have h2 : (m - 9223372036854775808) / (n - 9223372036854775808) ≤ m - 9223372036854775808 := Nat.div_le_self _ _
  generalize (m - 9223372036854775808) / (n - 9223372036854775808) = q at h2 ⊢
  rw [n_lnn (by omega) (by omega), Nat.add_sub_cancel]
theorem n_l0 : e_l 9223372036854775808 = 0 := by decide
theorem n_lne0 {n : Nat} (hn : n < 18446744073709551616) (h0 : 9223372036854775808 < n) : ¬ e_l n = 0 := by
  rw [← n_l0, e_l_inj hn (by decide)]
  omega
theorem n_cmp {a b : Nat} (ha : a < 18446744073709551616) (hb : b < 18446744073709551616) : lg_cmp (e_l a) (e_l b) = if b < a then e_i 2147483649 else if a = b then e_i 2147483648 else e_i 2147483647 := by
  unfold lg_cmp
  have h1 : (e_l a > e_l b) ↔ b < a := e_l_lt hb ha
  have h2 : (e_l a = e_l b) ↔ a = b := e_l_inj ha hb
  simp only [h1, h2]
  split
  · decide
  · split <;> decide
