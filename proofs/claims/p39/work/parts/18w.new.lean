/-! NEW OBJECTS; what is called; by program -/
section SN
noncomputable def r_eqL : List UInt8 → List UInt8 → Bool
  | [], [] => true
  | a :: l, b :: r => Nat.beq a.toNat b.toNat && r_eqL l r
  | _, _ => false
theorem r_eqL_t : ∀ {l r : List UInt8}, r_eqL l r = true → l = r
  | [], [], _ => rfl
  | a :: l, b :: r, h => by
    obtain ⟨h1, h2⟩ := (Bool.and_eq_true _ _).mp h
    rw [UInt8.toNat_inj.mp (Nat.eq_of_beq_eq_true h1), r_eqL_t h2]
  | [], _ :: _, h => by cases h
  | _ :: _, [], h => by cases h
noncomputable def r_eqB (a b : ByteArray) : Bool := r_eqL a.data.toList b.data.toList
theorem r_eqB_t {a b : ByteArray} (h : r_eqB a b = true) : a = b := by
  obtain ⟨⟨l⟩⟩ := a
  obtain ⟨⟨r⟩⟩ := b
  rw [show l = r from r_eqL_t h]
noncomputable def r_ck (c : Cond) (x : MethodName) (b : ByteArray) (n : Nat) (t : Option FieldType) : Bool := match c with
  | .code x1 b1 n1 t1 => decide (x1 = x) && (r_eqB b1 b && (Nat.beq n1 n && decide (t1 = t)))
  | _ => false
theorem r_ck_t {c : Cond} {x : MethodName} {b : ByteArray} {n : Nat} {t : Option FieldType} (h : r_ck c x b n t = true) : c = .code x b n t := by
  cases c <;> first | exact Bool.noConfusion h | skip
  obtain ⟨h1, h⟩ := (Bool.and_eq_true _ _).mp h
  obtain ⟨h2, h⟩ := (Bool.and_eq_true _ _).mp h
  obtain ⟨h3, h4⟩ := (Bool.and_eq_true _ _).mp h
  rw [of_decide_eq_true h1, r_eqB_t h2, Nat.eq_of_beq_eq_true h3, of_decide_eq_true h4]
noncomputable def r_cat (l : List Cond) (i : Nat) (x : MethodName) (b : ByteArray) (n : Nat) (t : Option FieldType) : Bool := match l[i]? with
  | some c => r_ck c x b n t
  | none => false
theorem r_hc {l : List Cond} {i : Nat} {x : MethodName} {b : ByteArray} {n : Nat} {t : Option FieldType} (h : r_cat l i x b n t = true) : Jvm.Cond.code x b n t ∈ l := by
  unfold r_cat at h
  cases hc : l[i]? with
  | none => rw [hc] at h; cases h
  | some c =>
    rw [hc] at h
    rw [← r_ck_t h]
    exact List.mem_of_getElem? hc
noncomputable def r_mlt (k : Nat) (x : MethodName) (b : ByteArray) (n : Nat) (t : Option FieldType) : Bool := match e_ml[k]? with
  | some (x1, b1, n1, t1) => r_ck (.code x1 b1 n1 t1) x b n t
  | none => false
theorem r_hy {k : Nat} {x : MethodName} {b : ByteArray} {n : Nat} {t : Option FieldType} (h : r_mlt k x b n t = true) : e_ml[k]? = some (x, b, n, t) := by
  unfold r_mlt at h
  cases hc : e_ml[k]? with
  | none => rw [hc] at h; cases h
  | some c =>
    rw [hc] at h
    obtain ⟨x1, b1, n1, t1⟩ := c
    have h2 := r_ck_t (show r_ck (.code x1 b1 n1 t1) x b n t = true from h)
    injection h2 with g1 g2 g3 g4
    rw [g1, g2, g3, g4]
noncomputable def e_d0 (t : Nat) : e_V := match t with | 0 => e_I 2147483648 | 1 => e_L 9223372036854775808 | _ => e_N
noncomputable def e_d1 (t : Nat) : Value := match t with | 0 => .int 0 | 1 => .long 0 | _ => .null
theorem e_newrel {ts : List Nat} {fs : List e_V} {fv : List Value} (h : fs = ts.map e_d0 ∧ fv = ts.map e_d1) : ∀ (ad : Nat → Nat) (as : List Nat) (k : Nat) (v : e_V), fs[k]? = some v → ∃ y, fv[k]? = some y ∧ e_rel ad as v y := by
  obtain ⟨rfl, rfl⟩ := h
  intro ad as k v hv
  rw [List.getElem?_map] at hv ⊢
  cases ht : ts[k]? with
  | none => rw [ht] at hv; cases hv
  | some t =>
    rw [ht] at hv
    simp only [Option.map_some, Option.some.injEq] at hv ⊢
    refine ⟨_, rfl, ?_⟩
    subst hv
    match t with
    | 0 => exact ⟨by decide, by decide⟩
    | 1 => exact ⟨by decide, by decide⟩
    | _ + 2 => exact (rfl : Value.null = .null)
noncomputable def ef_0 : List e_V := [e_N, e_N, e_N, e_N, e_N, e_N, e_N, e_N, e_N, e_N, e_N, e_N, e_N, e_I 2147483648, e_I 2147483648, e_I 2147483648, e_I 2147483648]
noncomputable def eg_0 : List Value := [.null, .null, .null, .null, .null, .null, .null, .null, .null, .null, .null, .null, .null, .int 0, .int 0, .int 0, .int 0]
theorem ek_0 : ef_0 = [2, 2, 2, 2, 2, 2, 2, 2, 2, 2, 2, 2, 2, 0, 0, 0, 0].map e_d0 ∧ eg_0 = [2, 2, 2, 2, 2, 2, 2, 2, 2, 2, 2, 2, 2, 0, 0, 0, 0].map e_d1 := ⟨rfl, rfl⟩
theorem eh_0 : ∀ j, j < 17 → defaultValue (ey_0 j) = vp_V eg_0 j := by decide +kernel
noncomputable def ef_1 : List e_V := [e_N, e_N, e_I 2147483648, e_I 2147483648]
noncomputable def eg_1 : List Value := [.null, .null, .int 0, .int 0]
theorem ek_1 : ef_1 = [2, 2, 0, 0].map e_d0 ∧ eg_1 = [2, 2, 0, 0].map e_d1 := ⟨rfl, rfl⟩
theorem eh_1 : ∀ j, j < 4 → defaultValue (ey_1 j) = vp_V eg_1 j := by decide +kernel
noncomputable def ef_2 : List e_V := [e_N, e_N, e_N, e_N, e_N, e_N, e_N, e_N, e_N, e_N, e_N, e_N, e_N, e_I 2147483648, e_I 2147483648, e_I 2147483648, e_I 2147483648, e_I 2147483648, e_I 2147483648]
noncomputable def eg_2 : List Value := [.null, .null, .null, .null, .null, .null, .null, .null, .null, .null, .null, .null, .null, .int 0, .int 0, .int 0, .int 0, .int 0, .int 0]
theorem ek_2 : ef_2 = [2, 2, 2, 2, 2, 2, 2, 2, 2, 2, 2, 2, 2, 0, 0, 0, 0, 0, 0].map e_d0 ∧ eg_2 = [2, 2, 2, 2, 2, 2, 2, 2, 2, 2, 2, 2, 2, 0, 0, 0, 0, 0, 0].map e_d1 := ⟨rfl, rfl⟩
theorem eh_2 : ∀ j, j < 19 → defaultValue (ey_2 j) = vp_V eg_2 j := by decide +kernel
noncomputable def ef_3 : List e_V := [e_N, e_N, e_N, e_N, e_I 2147483648]
noncomputable def eg_3 : List Value := [.null, .null, .null, .null, .int 0]
theorem ek_3 : ef_3 = [2, 2, 2, 2, 0].map e_d0 ∧ eg_3 = [2, 2, 2, 2, 0].map e_d1 := ⟨rfl, rfl⟩
theorem eh_3 : ∀ j, j < 5 → defaultValue (ey_3 j) = vp_V eg_3 j := by decide +kernel
noncomputable def ef_4 : List e_V := [e_I 2147483648, e_N, e_N, e_N, e_I 2147483648]
noncomputable def eg_4 : List Value := [.int 0, .null, .null, .null, .int 0]
theorem ek_4 : ef_4 = [0, 2, 2, 2, 0].map e_d0 ∧ eg_4 = [0, 2, 2, 2, 0].map e_d1 := ⟨rfl, rfl⟩
theorem eh_4 : ∀ j, j < 5 → defaultValue (ey_4 j) = vp_V eg_4 j := by decide +kernel
noncomputable def ef_5 : List e_V := [e_N, e_N, e_L 9223372036854775808, e_L 9223372036854775808, e_L 9223372036854775808]
noncomputable def eg_5 : List Value := [.null, .null, .long 0, .long 0, .long 0]
theorem ek_5 : ef_5 = [2, 2, 1, 1, 1].map e_d0 ∧ eg_5 = [2, 2, 1, 1, 1].map e_d1 := ⟨rfl, rfl⟩
theorem eh_5 : ∀ j, j < 5 → defaultValue (ey_5 j) = vp_V eg_5 j := by decide +kernel
noncomputable def ef_6 : List e_V := [e_N, e_N, e_N, e_N, e_I 2147483648, e_I 2147483648, e_I 2147483648, e_I 2147483648, e_I 2147483648, e_N, e_N, e_N, e_N, e_N, e_N, e_N, e_I 2147483648]
noncomputable def eg_6 : List Value := [.null, .null, .null, .null, .int 0, .int 0, .int 0, .int 0, .int 0, .null, .null, .null, .null, .null, .null, .null, .int 0]
theorem ek_6 : ef_6 = [2, 2, 2, 2, 0, 0, 0, 0, 0, 2, 2, 2, 2, 2, 2, 2, 0].map e_d0 ∧ eg_6 = [2, 2, 2, 2, 0, 0, 0, 0, 0, 2, 2, 2, 2, 2, 2, 2, 0].map e_d1 := ⟨rfl, rfl⟩
theorem eh_6 : ∀ j, j < 17 → defaultValue (ey_6 j) = vp_V eg_6 j := by decide +kernel
noncomputable def ef_7 : List e_V := [e_N, e_N, e_N, e_N, e_I 2147483648, e_I 2147483648]
noncomputable def eg_7 : List Value := [.null, .null, .null, .null, .int 0, .int 0]
theorem ek_7 : ef_7 = [2, 2, 2, 2, 0, 0].map e_d0 ∧ eg_7 = [2, 2, 2, 2, 0, 0].map e_d1 := ⟨rfl, rfl⟩
theorem eh_7 : ∀ j, j < 6 → defaultValue (ey_7 j) = vp_V eg_7 j := by decide +kernel
noncomputable def ef_8 : List e_V := [e_N, e_I 2147483648, e_I 2147483648]
noncomputable def eg_8 : List Value := [.null, .int 0, .int 0]
theorem ek_8 : ef_8 = [2, 0, 0].map e_d0 ∧ eg_8 = [2, 0, 0].map e_d1 := ⟨rfl, rfl⟩
theorem eh_8 : ∀ j, j < 3 → defaultValue (ey_8 j) = vp_V eg_8 j := by decide +kernel
noncomputable def ef_9 : List e_V := [e_N]
noncomputable def eg_9 : List Value := [.null]
theorem ek_9 : ef_9 = [2].map e_d0 ∧ eg_9 = [2].map e_d1 := ⟨rfl, rfl⟩
theorem eh_9 : ∀ j, j < 1 → defaultValue (ey_9 j) = vp_V eg_9 j := by decide +kernel
noncomputable def ef_10 : List e_V := [e_N, e_N, e_N, e_N, e_I 2147483648, e_I 2147483648, e_I 2147483648, e_I 2147483648, e_I 2147483648, e_I 2147483648, e_I 2147483648]
noncomputable def eg_10 : List Value := [.null, .null, .null, .null, .int 0, .int 0, .int 0, .int 0, .int 0, .int 0, .int 0]
theorem ek_10 : ef_10 = [2, 2, 2, 2, 0, 0, 0, 0, 0, 0, 0].map e_d0 ∧ eg_10 = [2, 2, 2, 2, 0, 0, 0, 0, 0, 0, 0].map e_d1 := ⟨rfl, rfl⟩
theorem eh_10 : ∀ j, j < 11 → defaultValue (ey_10 j) = vp_V eg_10 j := by decide +kernel
noncomputable def ef_11 : List e_V := [e_N, e_N, e_N, e_N, e_I 2147483648, e_N, e_N, e_N, e_N, e_N, e_I 2147483648, e_N, e_I 2147483648, e_I 2147483648, e_I 2147483648]
noncomputable def eg_11 : List Value := [.null, .null, .null, .null, .int 0, .null, .null, .null, .null, .null, .int 0, .null, .int 0, .int 0, .int 0]
theorem ek_11 : ef_11 = [2, 2, 2, 2, 0, 2, 2, 2, 2, 2, 0, 2, 0, 0, 0].map e_d0 ∧ eg_11 = [2, 2, 2, 2, 0, 2, 2, 2, 2, 2, 0, 2, 0, 0, 0].map e_d1 := ⟨rfl, rfl⟩
theorem eh_11 : ∀ j, j < 15 → defaultValue (ey_11 j) = vp_V eg_11 j := by decide +kernel
noncomputable def ef_12 : List e_V := [e_I 2147483648, e_N, e_N, e_N, e_I 2147483648]
noncomputable def eg_12 : List Value := [.int 0, .null, .null, .null, .int 0]
theorem ek_12 : ef_12 = [0, 2, 2, 2, 0].map e_d0 ∧ eg_12 = [0, 2, 2, 2, 0].map e_d1 := ⟨rfl, rfl⟩
theorem eh_12 : ∀ j, j < 5 → defaultValue (ey_12 j) = vp_V eg_12 j := by decide +kernel
noncomputable def ef_13 : List e_V := [e_I 2147483648, e_I 2147483648, e_N]
noncomputable def eg_13 : List Value := [.int 0, .int 0, .null]
theorem ek_13 : ef_13 = [0, 0, 2].map e_d0 ∧ eg_13 = [0, 0, 2].map e_d1 := ⟨rfl, rfl⟩
theorem eh_13 : ∀ j, j < 3 → defaultValue (ey_13 j) = vp_V eg_13 j := by decide +kernel
noncomputable def ef_14 : List e_V := [e_N, e_N, e_N, e_N, e_N, e_N, e_N, e_N, e_I 2147483648, e_I 2147483648, e_I 2147483648, e_I 2147483648, e_N]
noncomputable def eg_14 : List Value := [.null, .null, .null, .null, .null, .null, .null, .null, .int 0, .int 0, .int 0, .int 0, .null]
theorem ek_14 : ef_14 = [2, 2, 2, 2, 2, 2, 2, 2, 0, 0, 0, 0, 2].map e_d0 ∧ eg_14 = [2, 2, 2, 2, 2, 2, 2, 2, 0, 0, 0, 0, 2].map e_d1 := ⟨rfl, rfl⟩
theorem eh_14 : ∀ j, j < 13 → defaultValue (ey_14 j) = vp_V eg_14 j := by decide +kernel
noncomputable def ef_15 : List e_V := [e_N, e_I 2147483648, e_I 2147483648, e_I 2147483648, e_I 2147483648, e_L 9223372036854775808, e_L 9223372036854775808, e_L 9223372036854775808]
noncomputable def eg_15 : List Value := [.null, .int 0, .int 0, .int 0, .int 0, .long 0, .long 0, .long 0]
theorem ek_15 : ef_15 = [2, 0, 0, 0, 0, 1, 1, 1].map e_d0 ∧ eg_15 = [2, 0, 0, 0, 0, 1, 1, 1].map e_d1 := ⟨rfl, rfl⟩
theorem eh_15 : ∀ j, j < 8 → defaultValue (ey_15 j) = vp_V eg_15 j := by decide +kernel
noncomputable def ef_16 : List e_V := [e_N, e_N, e_I 2147483648, e_I 2147483648, e_I 2147483648]
noncomputable def eg_16 : List Value := [.null, .null, .int 0, .int 0, .int 0]
theorem ek_16 : ef_16 = [2, 2, 0, 0, 0].map e_d0 ∧ eg_16 = [2, 2, 0, 0, 0].map e_d1 := ⟨rfl, rfl⟩
theorem eh_16 : ∀ j, j < 5 → defaultValue (ey_16 j) = vp_V eg_16 j := by decide +kernel
noncomputable def ef_17 : List e_V := [e_N, e_N, e_N, e_N, e_N, e_N]
noncomputable def eg_17 : List Value := [.null, .null, .null, .null, .null, .null]
theorem ek_17 : ef_17 = [2, 2, 2, 2, 2, 2].map e_d0 ∧ eg_17 = [2, 2, 2, 2, 2, 2].map e_d1 := ⟨rfl, rfl⟩
theorem eh_17 : ∀ j, j < 6 → defaultValue (ey_17 j) = vp_V eg_17 j := by decide +kernel
noncomputable def ef_18 : List e_V := [e_I 2147483648]
noncomputable def eg_18 : List Value := [.int 0]
theorem ek_18 : ef_18 = [0].map e_d0 ∧ eg_18 = [0].map e_d1 := ⟨rfl, rfl⟩
theorem eh_18 : ∀ j, j < 1 → defaultValue (ey_18 j) = vp_V eg_18 j := by decide +kernel
noncomputable def ef_19 : List e_V := [e_N, e_I 2147483648, e_I 2147483648]
noncomputable def eg_19 : List Value := [.null, .int 0, .int 0]
theorem ek_19 : ef_19 = [2, 0, 0].map e_d0 ∧ eg_19 = [2, 0, 0].map e_d1 := ⟨rfl, rfl⟩
theorem eh_19 : ∀ j, j < 3 → defaultValue (ey_19 j) = vp_V eg_19 j := by decide +kernel
theorem hy_0 : e_ml[0]? = some ((⟨"Plateroomprinter", "<init>", "()V"⟩ : MethodName), prog_1_method_1_code, 1, none) := r_hy (by decide +kernel)
theorem hp_0 : plainName "Plateroomprinter" = true := by decide +kernel
theorem hc_0 : Jvm.Cond.code (⟨"Plateroomprinter", "<init>", "()V"⟩ : MethodName) prog_1_method_1_code 1 none ∈ lw_tbl := r_k1 (r_hc (l := tables_1_1) (i := 51) (by decide +kernel))
theorem hd_0 : "Plateroomprinter" ≠ "java/lang/invoke/MethodHandle" ∧ "Plateroomprinter" ≠ "java/lang/invoke/VarHandle" ∧ (parseMethodDescriptor "()V").map (fun d => d.parameters.length) = some 0 := ⟨by decide +kernel, by decide +kernel, by decide +kernel⟩
theorem hi_0 : Jvm.Cond.initialized "Plateroomprinter" ∈ lw_tbl := r_m_1_1
theorem hs_0 : Jvm.Cond.instanceMethod (⟨"Plateroomprinter", "<init>", "()V"⟩ : MethodName) ∈ lw_tbl := (r_k1 (List.mem_of_getElem? (i := 50) (by decide +kernel)))
theorem hy_1 : e_ml[1]? = some ((⟨"Plateroomprinter", "clearRows", "([I)V"⟩ : MethodName), prog_1_method_35_code, 2, none) := r_hy (by decide +kernel)
theorem hp_1 : plainName "Plateroomprinter" = true := by decide +kernel
theorem hc_1 : Jvm.Cond.code (⟨"Plateroomprinter", "clearRows", "([I)V"⟩ : MethodName) prog_1_method_35_code 2 none ∈ lw_tbl := r_k2 (r_hc (l := tables_1_2) (i := 81) (by decide +kernel))
theorem hd_1 : "Plateroomprinter" ≠ "java/lang/invoke/MethodHandle" ∧ "Plateroomprinter" ≠ "java/lang/invoke/VarHandle" ∧ (parseMethodDescriptor "([I)V").map (fun d => d.parameters.length) = some 1 := ⟨by decide +kernel, by decide +kernel, by decide +kernel⟩
theorem hi_1 : Jvm.Cond.initialized "Plateroomprinter" ∈ lw_tbl := r_m_1_1
theorem hs_1 : Jvm.Cond.static (⟨"Plateroomprinter", "clearRows", "([I)V"⟩ : MethodName) ∈ lw_tbl := (r_k2 (List.mem_of_getElem? (i := 80) (by decide +kernel)))
theorem hy_2 : e_ml[2]? = some ((⟨"Plateroomprinter", "isToken", "(II)Z"⟩ : MethodName), prog_1_method_10_code, 2, (some .boolean)) := r_hy (by decide +kernel)
theorem hp_2 : plainName "Plateroomprinter" = true := by decide +kernel
theorem hc_2 : Jvm.Cond.code (⟨"Plateroomprinter", "isToken", "(II)Z"⟩ : MethodName) prog_1_method_10_code 2 (some .boolean) ∈ lw_tbl := r_k6 (r_hc (l := tables_1_6) (i := 235) (by decide +kernel))
theorem hd_2 : "Plateroomprinter" ≠ "java/lang/invoke/MethodHandle" ∧ "Plateroomprinter" ≠ "java/lang/invoke/VarHandle" ∧ (parseMethodDescriptor "(II)Z").map (fun d => d.parameters.length) = some 2 := ⟨by decide +kernel, by decide +kernel, by decide +kernel⟩
theorem hi_2 : Jvm.Cond.initialized "Plateroomprinter" ∈ lw_tbl := r_m_1_1
theorem hs_2 : Jvm.Cond.static (⟨"Plateroomprinter", "isToken", "(II)Z"⟩ : MethodName) ∈ lw_tbl := (r_k6 (List.mem_of_getElem? (i := 234) (by decide +kernel)))
theorem hy_3 : e_ml[3]? = some ((⟨"Plateroomprinter", "run", "()I"⟩ : MethodName), prog_1_method_6_code, 3, (some .int)) := r_hy (by decide +kernel)
theorem hp_3 : plainName "Plateroomprinter" = true := by decide +kernel
theorem hc_3 : Jvm.Cond.code (⟨"Plateroomprinter", "run", "()I"⟩ : MethodName) prog_1_method_6_code 3 (some .int) ∈ lw_tbl := r_k3 (r_hc (l := tables_1_3) (i := 122) (by decide +kernel))
theorem hd_3 : "Plateroomprinter" ≠ "java/lang/invoke/MethodHandle" ∧ "Plateroomprinter" ≠ "java/lang/invoke/VarHandle" ∧ (parseMethodDescriptor "()I").map (fun d => d.parameters.length) = some 0 := ⟨by decide +kernel, by decide +kernel, by decide +kernel⟩
theorem hi_3 : Jvm.Cond.initialized "Plateroomprinter" ∈ lw_tbl := r_m_1_1
theorem hs_3 : Jvm.Cond.instanceMethod (⟨"Plateroomprinter", "run", "()I"⟩ : MethodName) ∈ lw_tbl := (r_k3 (List.mem_of_getElem? (i := 120) (by decide +kernel)))
theorem hy_4 : e_ml[4]? = some ((⟨"Plateroomprinter", "setFault", "(III)V"⟩ : MethodName), prog_1_method_9_code, 4, none) := r_hy (by decide +kernel)
theorem hp_4 : plainName "Plateroomprinter" = true := by decide +kernel
theorem hc_4 : Jvm.Cond.code (⟨"Plateroomprinter", "setFault", "(III)V"⟩ : MethodName) prog_1_method_9_code 4 none ∈ lw_tbl := r_k5 (r_hc (l := tables_1_5) (i := 131) (by decide +kernel))
theorem hd_4 : "Plateroomprinter" ≠ "java/lang/invoke/MethodHandle" ∧ "Plateroomprinter" ≠ "java/lang/invoke/VarHandle" ∧ (parseMethodDescriptor "(III)V").map (fun d => d.parameters.length) = some 3 := ⟨by decide +kernel, by decide +kernel, by decide +kernel⟩
theorem hi_4 : Jvm.Cond.initialized "Plateroomprinter" ∈ lw_tbl := r_m_1_1
theorem hs_4 : Jvm.Cond.instanceMethod (⟨"Plateroomprinter", "setFault", "(III)V"⟩ : MethodName) ∈ lw_tbl := (r_k5 (List.mem_of_getElem? (i := 130) (by decide +kernel)))
theorem hy_5 : e_ml[5]? = some ((⟨"Plateroomprinter", "three", "(IIIIII)I"⟩ : MethodName), prog_1_method_3_code, 7, (some .int)) := r_hy (by decide +kernel)
theorem hp_5 : plainName "Plateroomprinter" = true := by decide +kernel
theorem hc_5 : Jvm.Cond.code (⟨"Plateroomprinter", "three", "(IIIIII)I"⟩ : MethodName) prog_1_method_3_code 7 (some .int) ∈ lw_tbl := r_k7 (r_hc (l := tables_1_7) (i := 23) (by decide +kernel))
theorem hd_5 : "Plateroomprinter" ≠ "java/lang/invoke/MethodHandle" ∧ "Plateroomprinter" ≠ "java/lang/invoke/VarHandle" ∧ (parseMethodDescriptor "(IIIIII)I").map (fun d => d.parameters.length) = some 6 := ⟨by decide +kernel, by decide +kernel, by decide +kernel⟩
theorem hi_5 : Jvm.Cond.initialized "Plateroomprinter" ∈ lw_tbl := r_m_1_1
theorem hs_5 : Jvm.Cond.instanceMethod (⟨"Plateroomprinter", "three", "(IIIIII)I"⟩ : MethodName) ∈ lw_tbl := (r_k7 (List.mem_of_getElem? (i := 21) (by decide +kernel)))
theorem hy_6 : e_ml[6]? = some ((⟨"Plateroomprinter", "token", "(II)I"⟩ : MethodName), prog_1_method_2_code, 3, (some .int)) := r_hy (by decide +kernel)
theorem hp_6 : plainName "Plateroomprinter" = true := by decide +kernel
theorem hc_6 : Jvm.Cond.code (⟨"Plateroomprinter", "token", "(II)I"⟩ : MethodName) prog_1_method_2_code 3 (some .int) ∈ lw_tbl := r_k6 (r_hc (l := tables_1_6) (i := 232) (by decide +kernel))
theorem hd_6 : "Plateroomprinter" ≠ "java/lang/invoke/MethodHandle" ∧ "Plateroomprinter" ≠ "java/lang/invoke/VarHandle" ∧ (parseMethodDescriptor "(II)I").map (fun d => d.parameters.length) = some 2 := ⟨by decide +kernel, by decide +kernel, by decide +kernel⟩
theorem hi_6 : Jvm.Cond.initialized "Plateroomprinter" ∈ lw_tbl := r_m_1_1
theorem hs_6 : Jvm.Cond.instanceMethod (⟨"Plateroomprinter", "token", "(II)I"⟩ : MethodName) ∈ lw_tbl := (r_k6 (List.mem_of_getElem? (i := 230) (by decide +kernel)))
theorem hy_7 : e_ml[7]? = some ((⟨"Plateroomprinter$Code", "<init>", "()V"⟩ : MethodName), prog_2_method_1_code, 1, none) := r_hy (by decide +kernel)
theorem hp_7 : plainName "Plateroomprinter$Code" = true := by decide +kernel
theorem hc_7 : Jvm.Cond.code (⟨"Plateroomprinter$Code", "<init>", "()V"⟩ : MethodName) prog_2_method_1_code 1 none ∈ lw_tbl := r_k1 (r_hc (l := tables_1_1) (i := 59) (by decide +kernel))
theorem hd_7 : "Plateroomprinter$Code" ≠ "java/lang/invoke/MethodHandle" ∧ "Plateroomprinter$Code" ≠ "java/lang/invoke/VarHandle" ∧ (parseMethodDescriptor "()V").map (fun d => d.parameters.length) = some 0 := ⟨by decide +kernel, by decide +kernel, by decide +kernel⟩
theorem hi_7 : Jvm.Cond.initialized "Plateroomprinter$Code" ∈ lw_tbl := r_m_1_2
theorem hs_7 : Jvm.Cond.instanceMethod (⟨"Plateroomprinter$Code", "<init>", "()V"⟩ : MethodName) ∈ lw_tbl := (r_k1 (List.mem_of_getElem? (i := 58) (by decide +kernel)))
theorem hy_8 : e_ml[8]? = some ((⟨"Plateroomprinter$Code", "append", "(II)V"⟩ : MethodName), prog_2_method_2_code, 4, none) := r_hy (by decide +kernel)
theorem hp_8 : plainName "Plateroomprinter$Code" = true := by decide +kernel
theorem hc_8 : Jvm.Cond.code (⟨"Plateroomprinter$Code", "append", "(II)V"⟩ : MethodName) prog_2_method_2_code 4 none ∈ lw_tbl := r_k7 (r_hc (l := tables_1_7) (i := 16) (by decide +kernel))
theorem hd_8 : "Plateroomprinter$Code" ≠ "java/lang/invoke/MethodHandle" ∧ "Plateroomprinter$Code" ≠ "java/lang/invoke/VarHandle" ∧ (parseMethodDescriptor "(II)V").map (fun d => d.parameters.length) = some 2 := ⟨by decide +kernel, by decide +kernel, by decide +kernel⟩
theorem hi_8 : Jvm.Cond.initialized "Plateroomprinter$Code" ∈ lw_tbl := r_m_1_2
theorem hs_8 : Jvm.Cond.instanceMethod (⟨"Plateroomprinter$Code", "append", "(II)V"⟩ : MethodName) ∈ lw_tbl := (r_k7 (List.mem_of_getElem? (i := 14) (by decide +kernel)))
theorem hy_9 : e_ml[9]? = some ((⟨"Plateroomprinter$Code", "closeFor", "(II)I"⟩ : MethodName), prog_2_method_5_code, 6, (some .int)) := r_hy (by decide +kernel)
theorem hp_9 : plainName "Plateroomprinter$Code" = true := by decide +kernel
theorem hc_9 : Jvm.Cond.code (⟨"Plateroomprinter$Code", "closeFor", "(II)I"⟩ : MethodName) prog_2_method_5_code 6 (some .int) ∈ lw_tbl := r_k3 (r_hc (l := tables_1_3) (i := 231) (by decide +kernel))
theorem hd_9 : "Plateroomprinter$Code" ≠ "java/lang/invoke/MethodHandle" ∧ "Plateroomprinter$Code" ≠ "java/lang/invoke/VarHandle" ∧ (parseMethodDescriptor "(II)I").map (fun d => d.parameters.length) = some 2 := ⟨by decide +kernel, by decide +kernel, by decide +kernel⟩
theorem hi_9 : Jvm.Cond.initialized "Plateroomprinter$Code" ∈ lw_tbl := r_m_1_2
theorem hs_9 : Jvm.Cond.instanceMethod (⟨"Plateroomprinter$Code", "closeFor", "(II)I"⟩ : MethodName) ∈ lw_tbl := (r_k3 (List.mem_of_getElem? (i := 229) (by decide +kernel)))
theorem hy_10 : e_ml[10]? = some ((⟨"Plateroomprinter$Code", "kindAt", "(I)I"⟩ : MethodName), prog_2_method_3_code, 2, (some .int)) := r_hy (by decide +kernel)
theorem hp_10 : plainName "Plateroomprinter$Code" = true := by decide +kernel
theorem hc_10 : Jvm.Cond.code (⟨"Plateroomprinter$Code", "kindAt", "(I)I"⟩ : MethodName) prog_2_method_3_code 2 (some .int) ∈ lw_tbl := r_k3 (r_hc (l := tables_1_3) (i := 202) (by decide +kernel))
theorem hd_10 : "Plateroomprinter$Code" ≠ "java/lang/invoke/MethodHandle" ∧ "Plateroomprinter$Code" ≠ "java/lang/invoke/VarHandle" ∧ (parseMethodDescriptor "(I)I").map (fun d => d.parameters.length) = some 1 := ⟨by decide +kernel, by decide +kernel, by decide +kernel⟩
theorem hi_10 : Jvm.Cond.initialized "Plateroomprinter$Code" ∈ lw_tbl := r_m_1_2
theorem hs_10 : Jvm.Cond.instanceMethod (⟨"Plateroomprinter$Code", "kindAt", "(I)I"⟩ : MethodName) ∈ lw_tbl := (r_k3 (List.mem_of_getElem? (i := 200) (by decide +kernel)))
theorem hy_11 : e_ml[11]? = some ((⟨"Plateroomprinter$Code", "numberAt", "(I)I"⟩ : MethodName), prog_2_method_4_code, 2, (some .int)) := r_hy (by decide +kernel)
theorem hp_11 : plainName "Plateroomprinter$Code" = true := by decide +kernel
theorem hc_11 : Jvm.Cond.code (⟨"Plateroomprinter$Code", "numberAt", "(I)I"⟩ : MethodName) prog_2_method_4_code 2 (some .int) ∈ lw_tbl := r_k3 (r_hc (l := tables_1_3) (i := 206) (by decide +kernel))
theorem hd_11 : "Plateroomprinter$Code" ≠ "java/lang/invoke/MethodHandle" ∧ "Plateroomprinter$Code" ≠ "java/lang/invoke/VarHandle" ∧ (parseMethodDescriptor "(I)I").map (fun d => d.parameters.length) = some 1 := ⟨by decide +kernel, by decide +kernel, by decide +kernel⟩
theorem hi_11 : Jvm.Cond.initialized "Plateroomprinter$Code" ∈ lw_tbl := r_m_1_2
theorem hs_11 : Jvm.Cond.instanceMethod (⟨"Plateroomprinter$Code", "numberAt", "(I)I"⟩ : MethodName) ∈ lw_tbl := (r_k3 (List.mem_of_getElem? (i := 204) (by decide +kernel)))
theorem hy_12 : e_ml[12]? = some ((⟨"Plateroomprinter$Code", "retire", "()V"⟩ : MethodName), prog_2_method_6_code, 1, none) := r_hy (by decide +kernel)
theorem hp_12 : plainName "Plateroomprinter$Code" = true := by decide +kernel
theorem hc_12 : Jvm.Cond.code (⟨"Plateroomprinter$Code", "retire", "()V"⟩ : MethodName) prog_2_method_6_code 1 none ∈ lw_tbl := r_k5 (r_hc (l := tables_1_5) (i := 139) (by decide +kernel))
theorem hd_12 : "Plateroomprinter$Code" ≠ "java/lang/invoke/MethodHandle" ∧ "Plateroomprinter$Code" ≠ "java/lang/invoke/VarHandle" ∧ (parseMethodDescriptor "()V").map (fun d => d.parameters.length) = some 0 := ⟨by decide +kernel, by decide +kernel, by decide +kernel⟩
theorem hi_12 : Jvm.Cond.initialized "Plateroomprinter$Code" ∈ lw_tbl := r_m_1_2
theorem hs_12 : Jvm.Cond.instanceMethod (⟨"Plateroomprinter$Code", "retire", "()V"⟩ : MethodName) ∈ lw_tbl := (r_k5 (List.mem_of_getElem? (i := 137) (by decide +kernel)))
theorem hy_13 : e_ml[13]? = some ((⟨"Plateroomprinter$Engine", "<init>", "(LPlateroomprinter$World;LPlateroomprinter$Code;)V"⟩ : MethodName), prog_3_method_1_code, 3, none) := r_hy (by decide +kernel)
theorem hp_13 : plainName "Plateroomprinter$Engine" = true := by decide +kernel
theorem hc_13 : Jvm.Cond.code (⟨"Plateroomprinter$Engine", "<init>", "(LPlateroomprinter$World;LPlateroomprinter$Code;)V"⟩ : MethodName) prog_3_method_1_code 3 none ∈ lw_tbl := r_k2 (r_hc (l := tables_1_2) (i := 237) (by decide +kernel))
theorem hd_13 : "Plateroomprinter$Engine" ≠ "java/lang/invoke/MethodHandle" ∧ "Plateroomprinter$Engine" ≠ "java/lang/invoke/VarHandle" ∧ (parseMethodDescriptor "(LPlateroomprinter$World;LPlateroomprinter$Code;)V").map (fun d => d.parameters.length) = some 2 := ⟨by decide +kernel, by decide +kernel, by decide +kernel⟩
theorem hi_13 : Jvm.Cond.initialized "Plateroomprinter$Engine" ∈ lw_tbl := r_m_1_13
theorem hs_13 : Jvm.Cond.instanceMethod (⟨"Plateroomprinter$Engine", "<init>", "(LPlateroomprinter$World;LPlateroomprinter$Code;)V"⟩ : MethodName) ∈ lw_tbl := (r_k2 (List.mem_of_getElem? (i := 236) (by decide +kernel)))
theorem hy_14 : e_ml[14]? = some ((⟨"Plateroomprinter$Engine", "begin", "()V"⟩ : MethodName), prog_3_method_2_code, 1, none) := r_hy (by decide +kernel)
theorem hp_14 : plainName "Plateroomprinter$Engine" = true := by decide +kernel
theorem hc_14 : Jvm.Cond.code (⟨"Plateroomprinter$Engine", "begin", "()V"⟩ : MethodName) prog_3_method_2_code 1 none ∈ lw_tbl := r_k3 (r_hc (l := tables_1_3) (i := 166) (by decide +kernel))
theorem hd_14 : "Plateroomprinter$Engine" ≠ "java/lang/invoke/MethodHandle" ∧ "Plateroomprinter$Engine" ≠ "java/lang/invoke/VarHandle" ∧ (parseMethodDescriptor "()V").map (fun d => d.parameters.length) = some 0 := ⟨by decide +kernel, by decide +kernel, by decide +kernel⟩
theorem hi_14 : Jvm.Cond.initialized "Plateroomprinter$Engine" ∈ lw_tbl := r_m_1_13
theorem hs_14 : Jvm.Cond.instanceMethod (⟨"Plateroomprinter$Engine", "begin", "()V"⟩ : MethodName) ∈ lw_tbl := (r_k3 (List.mem_of_getElem? (i := 164) (by decide +kernel)))
theorem hy_15 : e_ml[15]? = some ((⟨"Plateroomprinter$Engine", "doFlow", "(I)I"⟩ : MethodName), prog_3_method_15_code, 2, (some .int)) := r_hy (by decide +kernel)
theorem hp_15 : plainName "Plateroomprinter$Engine" = true := by decide +kernel
theorem hc_15 : Jvm.Cond.code (⟨"Plateroomprinter$Engine", "doFlow", "(I)I"⟩ : MethodName) prog_3_method_15_code 2 (some .int) ∈ lw_tbl := r_k4 (r_hc (l := tables_1_4) (i := 14) (by decide +kernel))
theorem hd_15 : "Plateroomprinter$Engine" ≠ "java/lang/invoke/MethodHandle" ∧ "Plateroomprinter$Engine" ≠ "java/lang/invoke/VarHandle" ∧ (parseMethodDescriptor "(I)I").map (fun d => d.parameters.length) = some 1 := ⟨by decide +kernel, by decide +kernel, by decide +kernel⟩
theorem hi_15 : Jvm.Cond.initialized "Plateroomprinter$Engine" ∈ lw_tbl := r_m_1_13
theorem hs_15 : Jvm.Cond.instanceMethod (⟨"Plateroomprinter$Engine", "doFlow", "(I)I"⟩ : MethodName) ∈ lw_tbl := (r_k4 (List.mem_of_getElem? (i := 13) (by decide +kernel)))
theorem hy_16 : e_ml[16]? = some ((⟨"Plateroomprinter$Engine", "doOrder", "(I)I"⟩ : MethodName), prog_3_method_12_code, 3, (some .int)) := r_hy (by decide +kernel)
theorem hp_16 : plainName "Plateroomprinter$Engine" = true := by decide +kernel
theorem hc_16 : Jvm.Cond.code (⟨"Plateroomprinter$Engine", "doOrder", "(I)I"⟩ : MethodName) prog_3_method_12_code 3 (some .int) ∈ lw_tbl := r_k3 (r_hc (l := tables_1_3) (i := 237) (by decide +kernel))
theorem hd_16 : "Plateroomprinter$Engine" ≠ "java/lang/invoke/MethodHandle" ∧ "Plateroomprinter$Engine" ≠ "java/lang/invoke/VarHandle" ∧ (parseMethodDescriptor "(I)I").map (fun d => d.parameters.length) = some 1 := ⟨by decide +kernel, by decide +kernel, by decide +kernel⟩
theorem hi_16 : Jvm.Cond.initialized "Plateroomprinter$Engine" ∈ lw_tbl := r_m_1_13
theorem hs_16 : Jvm.Cond.instanceMethod (⟨"Plateroomprinter$Engine", "doOrder", "(I)I"⟩ : MethodName) ∈ lw_tbl := (r_k3 (List.mem_of_getElem? (i := 236) (by decide +kernel)))
theorem hy_17 : e_ml[17]? = some ((⟨"Plateroomprinter$Engine", "enter", "(II)I"⟩ : MethodName), prog_3_method_11_code, 3, (some .int)) := r_hy (by decide +kernel)
theorem hp_17 : plainName "Plateroomprinter$Engine" = true := by decide +kernel
theorem hc_17 : Jvm.Cond.code (⟨"Plateroomprinter$Engine", "enter", "(II)I"⟩ : MethodName) prog_3_method_11_code 3 (some .int) ∈ lw_tbl := r_k3 (r_hc (l := tables_1_3) (i := 170) (by decide +kernel))
theorem hd_17 : "Plateroomprinter$Engine" ≠ "java/lang/invoke/MethodHandle" ∧ "Plateroomprinter$Engine" ≠ "java/lang/invoke/VarHandle" ∧ (parseMethodDescriptor "(II)I").map (fun d => d.parameters.length) = some 2 := ⟨by decide +kernel, by decide +kernel, by decide +kernel⟩
theorem hi_17 : Jvm.Cond.initialized "Plateroomprinter$Engine" ∈ lw_tbl := r_m_1_13
theorem hs_17 : Jvm.Cond.instanceMethod (⟨"Plateroomprinter$Engine", "enter", "(II)I"⟩ : MethodName) ∈ lw_tbl := (r_k3 (List.mem_of_getElem? (i := 169) (by decide +kernel)))
theorem hy_18 : e_ml[18]? = some ((⟨"Plateroomprinter$Engine", "hasNextRound", "(I)Z"⟩ : MethodName), prog_3_method_6_code, 3, (some .boolean)) := r_hy (by decide +kernel)
theorem hp_18 : plainName "Plateroomprinter$Engine" = true := by decide +kernel
theorem hc_18 : Jvm.Cond.code (⟨"Plateroomprinter$Engine", "hasNextRound", "(I)Z"⟩ : MethodName) prog_3_method_6_code 3 (some .boolean) ∈ lw_tbl := r_k3 (r_hc (l := tables_1_3) (i := 179) (by decide +kernel))
theorem hd_18 : "Plateroomprinter$Engine" ≠ "java/lang/invoke/MethodHandle" ∧ "Plateroomprinter$Engine" ≠ "java/lang/invoke/VarHandle" ∧ (parseMethodDescriptor "(I)Z").map (fun d => d.parameters.length) = some 1 := ⟨by decide +kernel, by decide +kernel, by decide +kernel⟩
theorem hi_18 : Jvm.Cond.initialized "Plateroomprinter$Engine" ∈ lw_tbl := r_m_1_13
theorem hs_18 : Jvm.Cond.instanceMethod (⟨"Plateroomprinter$Engine", "hasNextRound", "(I)Z"⟩ : MethodName) ∈ lw_tbl := (r_k3 (List.mem_of_getElem? (i := 178) (by decide +kernel)))
theorem hy_19 : e_ml[19]? = some ((⟨"Plateroomprinter$Engine", "loop", "(IIIII)I"⟩ : MethodName), prog_3_method_18_code, 8, (some .int)) := r_hy (by decide +kernel)
theorem hp_19 : plainName "Plateroomprinter$Engine" = true := by decide +kernel
theorem hc_19 : Jvm.Cond.code (⟨"Plateroomprinter$Engine", "loop", "(IIIII)I"⟩ : MethodName) prog_3_method_18_code 8 (some .int) ∈ lw_tbl := r_k4 (r_hc (l := tables_1_4) (i := 27) (by decide +kernel))
theorem hd_19 : "Plateroomprinter$Engine" ≠ "java/lang/invoke/MethodHandle" ∧ "Plateroomprinter$Engine" ≠ "java/lang/invoke/VarHandle" ∧ (parseMethodDescriptor "(IIIII)I").map (fun d => d.parameters.length) = some 5 := ⟨by decide +kernel, by decide +kernel, by decide +kernel⟩
theorem hi_19 : Jvm.Cond.initialized "Plateroomprinter$Engine" ∈ lw_tbl := r_m_1_13
theorem hs_19 : Jvm.Cond.instanceMethod (⟨"Plateroomprinter$Engine", "loop", "(IIIII)I"⟩ : MethodName) ∈ lw_tbl := (r_k4 (List.mem_of_getElem? (i := 26) (by decide +kernel)))
theorem hy_20 : e_ml[20]? = some ((⟨"Plateroomprinter$Engine", "open", "(I)I"⟩ : MethodName), prog_3_method_10_code, 4, (some .int)) := r_hy (by decide +kernel)
theorem hp_20 : plainName "Plateroomprinter$Engine" = true := by decide +kernel
theorem hc_20 : Jvm.Cond.code (⟨"Plateroomprinter$Engine", "open", "(I)I"⟩ : MethodName) prog_3_method_10_code 4 (some .int) ∈ lw_tbl := r_k3 (r_hc (l := tables_1_3) (i := 227) (by decide +kernel))
theorem hd_20 : "Plateroomprinter$Engine" ≠ "java/lang/invoke/MethodHandle" ∧ "Plateroomprinter$Engine" ≠ "java/lang/invoke/VarHandle" ∧ (parseMethodDescriptor "(I)I").map (fun d => d.parameters.length) = some 1 := ⟨by decide +kernel, by decide +kernel, by decide +kernel⟩
theorem hi_20 : Jvm.Cond.initialized "Plateroomprinter$Engine" ∈ lw_tbl := r_m_1_13
theorem hs_20 : Jvm.Cond.instanceMethod (⟨"Plateroomprinter$Engine", "open", "(I)I"⟩ : MethodName) ∈ lw_tbl := (r_k3 (List.mem_of_getElem? (i := 226) (by decide +kernel)))
theorem hy_21 : e_ml[21]? = some ((⟨"Plateroomprinter$Engine", "seek", "()I"⟩ : MethodName), prog_3_method_4_code, 4, (some .int)) := r_hy (by decide +kernel)
theorem hp_21 : plainName "Plateroomprinter$Engine" = true := by decide +kernel
theorem hc_21 : Jvm.Cond.code (⟨"Plateroomprinter$Engine", "seek", "()I"⟩ : MethodName) prog_3_method_4_code 4 (some .int) ∈ lw_tbl := r_k3 (r_hc (l := tables_1_3) (i := 174) (by decide +kernel))
theorem hd_21 : "Plateroomprinter$Engine" ≠ "java/lang/invoke/MethodHandle" ∧ "Plateroomprinter$Engine" ≠ "java/lang/invoke/VarHandle" ∧ (parseMethodDescriptor "()I").map (fun d => d.parameters.length) = some 0 := ⟨by decide +kernel, by decide +kernel, by decide +kernel⟩
theorem hi_21 : Jvm.Cond.initialized "Plateroomprinter$Engine" ∈ lw_tbl := r_m_1_13
theorem hs_21 : Jvm.Cond.instanceMethod (⟨"Plateroomprinter$Engine", "seek", "()I"⟩ : MethodName) ∈ lw_tbl := (r_k3 (List.mem_of_getElem? (i := 172) (by decide +kernel)))
theorem hy_22 : e_ml[22]? = some ((⟨"Plateroomprinter$Engine", "setPlaces", "(I)V"⟩ : MethodName), prog_3_method_5_code, 2, none) := r_hy (by decide +kernel)
theorem hp_22 : plainName "Plateroomprinter$Engine" = true := by decide +kernel
theorem hc_22 : Jvm.Cond.code (⟨"Plateroomprinter$Engine", "setPlaces", "(I)V"⟩ : MethodName) prog_3_method_5_code 2 none ∈ lw_tbl := r_k3 (r_hc (l := tables_1_3) (i := 183) (by decide +kernel))
theorem hd_22 : "Plateroomprinter$Engine" ≠ "java/lang/invoke/MethodHandle" ∧ "Plateroomprinter$Engine" ≠ "java/lang/invoke/VarHandle" ∧ (parseMethodDescriptor "(I)V").map (fun d => d.parameters.length) = some 1 := ⟨by decide +kernel, by decide +kernel, by decide +kernel⟩
theorem hi_22 : Jvm.Cond.initialized "Plateroomprinter$Engine" ∈ lw_tbl := r_m_1_13
theorem hs_22 : Jvm.Cond.instanceMethod (⟨"Plateroomprinter$Engine", "setPlaces", "(I)V"⟩ : MethodName) ∈ lw_tbl := (r_k3 (List.mem_of_getElem? (i := 182) (by decide +kernel)))
theorem hy_23 : e_ml[23]? = some ((⟨"Plateroomprinter$Engine", "step", "()I"⟩ : MethodName), prog_3_method_7_code, 3, (some .int)) := r_hy (by decide +kernel)
theorem hp_23 : plainName "Plateroomprinter$Engine" = true := by decide +kernel
theorem hc_23 : Jvm.Cond.code (⟨"Plateroomprinter$Engine", "step", "()I"⟩ : MethodName) prog_3_method_7_code 3 (some .int) ∈ lw_tbl := r_k3 (r_hc (l := tables_1_3) (i := 198) (by decide +kernel))
theorem hd_23 : "Plateroomprinter$Engine" ≠ "java/lang/invoke/MethodHandle" ∧ "Plateroomprinter$Engine" ≠ "java/lang/invoke/VarHandle" ∧ (parseMethodDescriptor "()I").map (fun d => d.parameters.length) = some 0 := ⟨by decide +kernel, by decide +kernel, by decide +kernel⟩
theorem hi_23 : Jvm.Cond.initialized "Plateroomprinter$Engine" ∈ lw_tbl := r_m_1_13
theorem hs_23 : Jvm.Cond.instanceMethod (⟨"Plateroomprinter$Engine", "step", "()I"⟩ : MethodName) ∈ lw_tbl := (r_k3 (List.mem_of_getElem? (i := 196) (by decide +kernel)))
theorem hy_24 : e_ml[24]? = some ((⟨"Plateroomprinter$Engine", "take", "(I)I"⟩ : MethodName), prog_3_method_13_code, 7, (some .int)) := r_hy (by decide +kernel)
theorem hp_24 : plainName "Plateroomprinter$Engine" = true := by decide +kernel
theorem hc_24 : Jvm.Cond.code (⟨"Plateroomprinter$Engine", "take", "(I)I"⟩ : MethodName) prog_3_method_13_code 7 (some .int) ∈ lw_tbl := r_k4 (r_hc (l := tables_1_4) (i := 3) (by decide +kernel))
theorem hd_24 : "Plateroomprinter$Engine" ≠ "java/lang/invoke/MethodHandle" ∧ "Plateroomprinter$Engine" ≠ "java/lang/invoke/VarHandle" ∧ (parseMethodDescriptor "(I)I").map (fun d => d.parameters.length) = some 1 := ⟨by decide +kernel, by decide +kernel, by decide +kernel⟩
theorem hi_24 : Jvm.Cond.initialized "Plateroomprinter$Engine" ∈ lw_tbl := r_m_1_13
theorem hs_24 : Jvm.Cond.instanceMethod (⟨"Plateroomprinter$Engine", "take", "(I)I"⟩ : MethodName) ∈ lw_tbl := (r_k4 (List.mem_of_getElem? (i := 2) (by decide +kernel)))
theorem hy_25 : e_ml[25]? = some ((⟨"Plateroomprinter$Engine", "tally", "()V"⟩ : MethodName), prog_3_method_3_code, 1, none) := r_hy (by decide +kernel)
theorem hp_25 : plainName "Plateroomprinter$Engine" = true := by decide +kernel
theorem hc_25 : Jvm.Cond.code (⟨"Plateroomprinter$Engine", "tally", "()V"⟩ : MethodName) prog_3_method_3_code 1 none ∈ lw_tbl := r_k5 (r_hc (l := tables_1_5) (i := 135) (by decide +kernel))
theorem hd_25 : "Plateroomprinter$Engine" ≠ "java/lang/invoke/MethodHandle" ∧ "Plateroomprinter$Engine" ≠ "java/lang/invoke/VarHandle" ∧ (parseMethodDescriptor "()V").map (fun d => d.parameters.length) = some 0 := ⟨by decide +kernel, by decide +kernel, by decide +kernel⟩
theorem hi_25 : Jvm.Cond.initialized "Plateroomprinter$Engine" ∈ lw_tbl := r_m_1_13
theorem hs_25 : Jvm.Cond.instanceMethod (⟨"Plateroomprinter$Engine", "tally", "()V"⟩ : MethodName) ∈ lw_tbl := (r_k5 (List.mem_of_getElem? (i := 133) (by decide +kernel)))
theorem hy_26 : e_ml[26]? = some ((⟨"Plateroomprinter$Engine", "weigh", "(I)I"⟩ : MethodName), prog_3_method_8_code, 2, (some .int)) := r_hy (by decide +kernel)
theorem hp_26 : plainName "Plateroomprinter$Engine" = true := by decide +kernel
theorem hc_26 : Jvm.Cond.code (⟨"Plateroomprinter$Engine", "weigh", "(I)I"⟩ : MethodName) prog_3_method_8_code 2 (some .int) ∈ lw_tbl := r_k5 (r_hc (l := tables_1_5) (i := 127) (by decide +kernel))
theorem hd_26 : "Plateroomprinter$Engine" ≠ "java/lang/invoke/MethodHandle" ∧ "Plateroomprinter$Engine" ≠ "java/lang/invoke/VarHandle" ∧ (parseMethodDescriptor "(I)I").map (fun d => d.parameters.length) = some 1 := ⟨by decide +kernel, by decide +kernel, by decide +kernel⟩
theorem hi_26 : Jvm.Cond.initialized "Plateroomprinter$Engine" ∈ lw_tbl := r_m_1_13
theorem hs_26 : Jvm.Cond.instanceMethod (⟨"Plateroomprinter$Engine", "weigh", "(I)I"⟩ : MethodName) ∈ lw_tbl := (r_k5 (List.mem_of_getElem? (i := 125) (by decide +kernel)))
theorem hy_27 : e_ml[27]? = some ((⟨"Plateroomprinter$Figures", "<init>", "()V"⟩ : MethodName), prog_4_method_1_code, 1, none) := r_hy (by decide +kernel)
theorem hp_27 : plainName "Plateroomprinter$Figures" = true := by decide +kernel
theorem hc_27 : Jvm.Cond.code (⟨"Plateroomprinter$Figures", "<init>", "()V"⟩ : MethodName) prog_4_method_1_code 1 none ∈ lw_tbl := r_k2 (r_hc (l := tables_1_2) (i := 13) (by decide +kernel))
theorem hd_27 : "Plateroomprinter$Figures" ≠ "java/lang/invoke/MethodHandle" ∧ "Plateroomprinter$Figures" ≠ "java/lang/invoke/VarHandle" ∧ (parseMethodDescriptor "()V").map (fun d => d.parameters.length) = some 0 := ⟨by decide +kernel, by decide +kernel, by decide +kernel⟩
theorem hi_27 : Jvm.Cond.initialized "Plateroomprinter$Figures" ∈ lw_tbl := r_m_1_10
theorem hs_27 : Jvm.Cond.instanceMethod (⟨"Plateroomprinter$Figures", "<init>", "()V"⟩ : MethodName) ∈ lw_tbl := (r_k2 (List.mem_of_getElem? (i := 12) (by decide +kernel)))
theorem hy_28 : e_ml[28]? = some ((⟨"Plateroomprinter$Figures", "copyFrom", "(LPlateroomprinter$Figures;)V"⟩ : MethodName), prog_4_method_2_code, 4, none) := r_hy (by decide +kernel)
theorem hp_28 : plainName "Plateroomprinter$Figures" = true := by decide +kernel
theorem hc_28 : Jvm.Cond.code (⟨"Plateroomprinter$Figures", "copyFrom", "(LPlateroomprinter$Figures;)V"⟩ : MethodName) prog_4_method_2_code 4 none ∈ lw_tbl := r_k3 (r_hc (l := tables_1_3) (i := 157) (by decide +kernel))
theorem hd_28 : "Plateroomprinter$Figures" ≠ "java/lang/invoke/MethodHandle" ∧ "Plateroomprinter$Figures" ≠ "java/lang/invoke/VarHandle" ∧ (parseMethodDescriptor "(LPlateroomprinter$Figures;)V").map (fun d => d.parameters.length) = some 1 := ⟨by decide +kernel, by decide +kernel, by decide +kernel⟩
theorem hi_28 : Jvm.Cond.initialized "Plateroomprinter$Figures" ∈ lw_tbl := r_m_1_10
theorem hs_28 : Jvm.Cond.instanceMethod (⟨"Plateroomprinter$Figures", "copyFrom", "(LPlateroomprinter$Figures;)V"⟩ : MethodName) ∈ lw_tbl := (r_k3 (List.mem_of_getElem? (i := 155) (by decide +kernel)))
theorem hy_29 : e_ml[29]? = some ((⟨"Plateroomprinter$Items", "<init>", "(I)V"⟩ : MethodName), prog_5_method_1_code, 2, none) := r_hy (by decide +kernel)
theorem hp_29 : plainName "Plateroomprinter$Items" = true := by decide +kernel
theorem hc_29 : Jvm.Cond.code (⟨"Plateroomprinter$Items", "<init>", "(I)V"⟩ : MethodName) prog_5_method_1_code 2 none ∈ lw_tbl := r_k1 (r_hc (l := tables_1_1) (i := 89) (by decide +kernel))
theorem hd_29 : "Plateroomprinter$Items" ≠ "java/lang/invoke/MethodHandle" ∧ "Plateroomprinter$Items" ≠ "java/lang/invoke/VarHandle" ∧ (parseMethodDescriptor "(I)V").map (fun d => d.parameters.length) = some 1 := ⟨by decide +kernel, by decide +kernel, by decide +kernel⟩
theorem hi_29 : Jvm.Cond.initialized "Plateroomprinter$Items" ∈ lw_tbl := r_m_1_4
theorem hs_29 : Jvm.Cond.instanceMethod (⟨"Plateroomprinter$Items", "<init>", "(I)V"⟩ : MethodName) ∈ lw_tbl := (r_k1 (List.mem_of_getElem? (i := 88) (by decide +kernel)))
theorem hy_30 : e_ml[30]? = some ((⟨"Plateroomprinter$Items", "clear", "(I)V"⟩ : MethodName), prog_5_method_2_code, 3, none) := r_hy (by decide +kernel)
theorem hp_30 : plainName "Plateroomprinter$Items" = true := by decide +kernel
theorem hc_30 : Jvm.Cond.code (⟨"Plateroomprinter$Items", "clear", "(I)V"⟩ : MethodName) prog_5_method_2_code 3 none ∈ lw_tbl := r_k2 (r_hc (l := tables_1_2) (i := 46) (by decide +kernel))
theorem hd_30 : "Plateroomprinter$Items" ≠ "java/lang/invoke/MethodHandle" ∧ "Plateroomprinter$Items" ≠ "java/lang/invoke/VarHandle" ∧ (parseMethodDescriptor "(I)V").map (fun d => d.parameters.length) = some 1 := ⟨by decide +kernel, by decide +kernel, by decide +kernel⟩
theorem hi_30 : Jvm.Cond.initialized "Plateroomprinter$Items" ∈ lw_tbl := r_m_1_4
theorem hs_30 : Jvm.Cond.instanceMethod (⟨"Plateroomprinter$Items", "clear", "(I)V"⟩ : MethodName) ∈ lw_tbl := (r_k2 (List.mem_of_getElem? (i := 44) (by decide +kernel)))
theorem hy_31 : e_ml[31]? = some ((⟨"Plateroomprinter$Items", "copyFrom", "(LPlateroomprinter$Items;)V"⟩ : MethodName), prog_5_method_3_code, 4, none) := r_hy (by decide +kernel)
theorem hp_31 : plainName "Plateroomprinter$Items" = true := by decide +kernel
theorem hc_31 : Jvm.Cond.code (⟨"Plateroomprinter$Items", "copyFrom", "(LPlateroomprinter$Items;)V"⟩ : MethodName) prog_5_method_3_code 4 none ∈ lw_tbl := r_k3 (r_hc (l := tables_1_3) (i := 130) (by decide +kernel))
theorem hd_31 : "Plateroomprinter$Items" ≠ "java/lang/invoke/MethodHandle" ∧ "Plateroomprinter$Items" ≠ "java/lang/invoke/VarHandle" ∧ (parseMethodDescriptor "(LPlateroomprinter$Items;)V").map (fun d => d.parameters.length) = some 1 := ⟨by decide +kernel, by decide +kernel, by decide +kernel⟩
theorem hi_31 : Jvm.Cond.initialized "Plateroomprinter$Items" ∈ lw_tbl := r_m_1_4
theorem hs_31 : Jvm.Cond.instanceMethod (⟨"Plateroomprinter$Items", "copyFrom", "(LPlateroomprinter$Items;)V"⟩ : MethodName) ∈ lw_tbl := (r_k3 (List.mem_of_getElem? (i := 128) (by decide +kernel)))
theorem hy_32 : e_ml[32]? = some ((⟨"Plateroomprinter$Items", "lengthAt", "(I)I"⟩ : MethodName), prog_5_method_7_code, 2, (some .int)) := r_hy (by decide +kernel)
theorem hp_32 : plainName "Plateroomprinter$Items" = true := by decide +kernel
theorem hc_32 : Jvm.Cond.code (⟨"Plateroomprinter$Items", "lengthAt", "(I)I"⟩ : MethodName) prog_5_method_7_code 2 (some .int) ∈ lw_tbl := r_k3 (r_hc (l := tables_1_3) (i := 223) (by decide +kernel))
theorem hd_32 : "Plateroomprinter$Items" ≠ "java/lang/invoke/MethodHandle" ∧ "Plateroomprinter$Items" ≠ "java/lang/invoke/VarHandle" ∧ (parseMethodDescriptor "(I)I").map (fun d => d.parameters.length) = some 1 := ⟨by decide +kernel, by decide +kernel, by decide +kernel⟩
theorem hi_32 : Jvm.Cond.initialized "Plateroomprinter$Items" ∈ lw_tbl := r_m_1_4
theorem hs_32 : Jvm.Cond.instanceMethod (⟨"Plateroomprinter$Items", "lengthAt", "(I)I"⟩ : MethodName) ∈ lw_tbl := (r_k3 (List.mem_of_getElem? (i := 221) (by decide +kernel)))
theorem hy_33 : e_ml[33]? = some ((⟨"Plateroomprinter$Items", "put", "(III)I"⟩ : MethodName), prog_5_method_9_code, 4, (some .int)) := r_hy (by decide +kernel)
theorem hp_33 : plainName "Plateroomprinter$Items" = true := by decide +kernel
theorem hc_33 : Jvm.Cond.code (⟨"Plateroomprinter$Items", "put", "(III)I"⟩ : MethodName) prog_5_method_9_code 4 (some .int) ∈ lw_tbl := r_k3 (r_hc (l := tables_1_3) (i := 193) (by decide +kernel))
theorem hd_33 : "Plateroomprinter$Items" ≠ "java/lang/invoke/MethodHandle" ∧ "Plateroomprinter$Items" ≠ "java/lang/invoke/VarHandle" ∧ (parseMethodDescriptor "(III)I").map (fun d => d.parameters.length) = some 3 := ⟨by decide +kernel, by decide +kernel, by decide +kernel⟩
theorem hi_33 : Jvm.Cond.initialized "Plateroomprinter$Items" ∈ lw_tbl := r_m_1_4
theorem hs_33 : Jvm.Cond.instanceMethod (⟨"Plateroomprinter$Items", "put", "(III)I"⟩ : MethodName) ∈ lw_tbl := (r_k3 (List.mem_of_getElem? (i := 191) (by decide +kernel)))
theorem hy_34 : e_ml[34]? = some ((⟨"Plateroomprinter$Items", "sortAt", "(I)I"⟩ : MethodName), prog_5_method_5_code, 2, (some .int)) := r_hy (by decide +kernel)
theorem hp_34 : plainName "Plateroomprinter$Items" = true := by decide +kernel
theorem hc_34 : Jvm.Cond.code (⟨"Plateroomprinter$Items", "sortAt", "(I)I"⟩ : MethodName) prog_5_method_5_code 2 (some .int) ∈ lw_tbl := r_k3 (r_hc (l := tables_1_3) (i := 215) (by decide +kernel))
theorem hd_34 : "Plateroomprinter$Items" ≠ "java/lang/invoke/MethodHandle" ∧ "Plateroomprinter$Items" ≠ "java/lang/invoke/VarHandle" ∧ (parseMethodDescriptor "(I)I").map (fun d => d.parameters.length) = some 1 := ⟨by decide +kernel, by decide +kernel, by decide +kernel⟩
theorem hi_34 : Jvm.Cond.initialized "Plateroomprinter$Items" ∈ lw_tbl := r_m_1_4
theorem hs_34 : Jvm.Cond.instanceMethod (⟨"Plateroomprinter$Items", "sortAt", "(I)I"⟩ : MethodName) ∈ lw_tbl := (r_k3 (List.mem_of_getElem? (i := 213) (by decide +kernel)))
theorem hy_35 : e_ml[35]? = some ((⟨"Plateroomprinter$Items", "valueAt", "(I)I"⟩ : MethodName), prog_5_method_6_code, 2, (some .int)) := r_hy (by decide +kernel)
theorem hp_35 : plainName "Plateroomprinter$Items" = true := by decide +kernel
theorem hc_35 : Jvm.Cond.code (⟨"Plateroomprinter$Items", "valueAt", "(I)I"⟩ : MethodName) prog_5_method_6_code 2 (some .int) ∈ lw_tbl := r_k3 (r_hc (l := tables_1_3) (i := 219) (by decide +kernel))
theorem hd_35 : "Plateroomprinter$Items" ≠ "java/lang/invoke/MethodHandle" ∧ "Plateroomprinter$Items" ≠ "java/lang/invoke/VarHandle" ∧ (parseMethodDescriptor "(I)I").map (fun d => d.parameters.length) = some 1 := ⟨by decide +kernel, by decide +kernel, by decide +kernel⟩
theorem hi_35 : Jvm.Cond.initialized "Plateroomprinter$Items" ∈ lw_tbl := r_m_1_4
theorem hs_35 : Jvm.Cond.instanceMethod (⟨"Plateroomprinter$Items", "valueAt", "(I)I"⟩ : MethodName) ∈ lw_tbl := (r_k3 (List.mem_of_getElem? (i := 217) (by decide +kernel)))
theorem hy_36 : e_ml[36]? = some ((⟨"Plateroomprinter$Items", "write", "(IIII)V"⟩ : MethodName), prog_5_method_4_code, 5, none) := r_hy (by decide +kernel)
theorem hp_36 : plainName "Plateroomprinter$Items" = true := by decide +kernel
theorem hc_36 : Jvm.Cond.code (⟨"Plateroomprinter$Items", "write", "(IIII)V"⟩ : MethodName) prog_5_method_4_code 5 none ∈ lw_tbl := r_k2 (r_hc (l := tables_1_2) (i := 53) (by decide +kernel))
theorem hd_36 : "Plateroomprinter$Items" ≠ "java/lang/invoke/MethodHandle" ∧ "Plateroomprinter$Items" ≠ "java/lang/invoke/VarHandle" ∧ (parseMethodDescriptor "(IIII)V").map (fun d => d.parameters.length) = some 4 := ⟨by decide +kernel, by decide +kernel, by decide +kernel⟩
theorem hi_36 : Jvm.Cond.initialized "Plateroomprinter$Items" ∈ lw_tbl := r_m_1_4
theorem hs_36 : Jvm.Cond.instanceMethod (⟨"Plateroomprinter$Items", "write", "(IIII)V"⟩ : MethodName) ∈ lw_tbl := (r_k2 (List.mem_of_getElem? (i := 51) (by decide +kernel)))
theorem hy_37 : e_ml[37]? = some ((⟨"Plateroomprinter$Matrix", "<init>", "()V"⟩ : MethodName), prog_6_method_1_code, 1, none) := r_hy (by decide +kernel)
theorem hp_37 : plainName "Plateroomprinter$Matrix" = true := by decide +kernel
theorem hc_37 : Jvm.Cond.code (⟨"Plateroomprinter$Matrix", "<init>", "()V"⟩ : MethodName) prog_6_method_1_code 1 none ∈ lw_tbl := r_k1 (r_hc (l := tables_1_1) (i := 122) (by decide +kernel))
theorem hd_37 : "Plateroomprinter$Matrix" ≠ "java/lang/invoke/MethodHandle" ∧ "Plateroomprinter$Matrix" ≠ "java/lang/invoke/VarHandle" ∧ (parseMethodDescriptor "()V").map (fun d => d.parameters.length) = some 0 := ⟨by decide +kernel, by decide +kernel, by decide +kernel⟩
theorem hi_37 : Jvm.Cond.initialized "Plateroomprinter$Matrix" ∈ lw_tbl := r_m_1_7
theorem hs_37 : Jvm.Cond.instanceMethod (⟨"Plateroomprinter$Matrix", "<init>", "()V"⟩ : MethodName) ∈ lw_tbl := (r_k1 (List.mem_of_getElem? (i := 121) (by decide +kernel)))
theorem hy_38 : e_ml[38]? = some ((⟨"Plateroomprinter$Matrix", "clear", "()V"⟩ : MethodName), prog_6_method_2_code, 2, none) := r_hy (by decide +kernel)
theorem hp_38 : plainName "Plateroomprinter$Matrix" = true := by decide +kernel
theorem hc_38 : Jvm.Cond.code (⟨"Plateroomprinter$Matrix", "clear", "()V"⟩ : MethodName) prog_6_method_2_code 2 none ∈ lw_tbl := r_k2 (r_hc (l := tables_1_2) (i := 61) (by decide +kernel))
theorem hd_38 : "Plateroomprinter$Matrix" ≠ "java/lang/invoke/MethodHandle" ∧ "Plateroomprinter$Matrix" ≠ "java/lang/invoke/VarHandle" ∧ (parseMethodDescriptor "()V").map (fun d => d.parameters.length) = some 0 := ⟨by decide +kernel, by decide +kernel, by decide +kernel⟩
theorem hi_38 : Jvm.Cond.initialized "Plateroomprinter$Matrix" ∈ lw_tbl := r_m_1_7
theorem hs_38 : Jvm.Cond.instanceMethod (⟨"Plateroomprinter$Matrix", "clear", "()V"⟩ : MethodName) ∈ lw_tbl := (r_k2 (List.mem_of_getElem? (i := 59) (by decide +kernel)))
theorem hy_39 : e_ml[39]? = some ((⟨"Plateroomprinter$Matrix", "copyFrom", "(LPlateroomprinter$Matrix;)V"⟩ : MethodName), prog_6_method_3_code, 3, none) := r_hy (by decide +kernel)
theorem hp_39 : plainName "Plateroomprinter$Matrix" = true := by decide +kernel
theorem hc_39 : Jvm.Cond.code (⟨"Plateroomprinter$Matrix", "copyFrom", "(LPlateroomprinter$Matrix;)V"⟩ : MethodName) prog_6_method_3_code 3 none ∈ lw_tbl := r_k3 (r_hc (l := tables_1_3) (i := 138) (by decide +kernel))
theorem hd_39 : "Plateroomprinter$Matrix" ≠ "java/lang/invoke/MethodHandle" ∧ "Plateroomprinter$Matrix" ≠ "java/lang/invoke/VarHandle" ∧ (parseMethodDescriptor "(LPlateroomprinter$Matrix;)V").map (fun d => d.parameters.length) = some 1 := ⟨by decide +kernel, by decide +kernel, by decide +kernel⟩
theorem hi_39 : Jvm.Cond.initialized "Plateroomprinter$Matrix" ∈ lw_tbl := r_m_1_7
theorem hs_39 : Jvm.Cond.instanceMethod (⟨"Plateroomprinter$Matrix", "copyFrom", "(LPlateroomprinter$Matrix;)V"⟩ : MethodName) ∈ lw_tbl := (r_k3 (List.mem_of_getElem? (i := 136) (by decide +kernel)))
theorem hy_40 : e_ml[40]? = some ((⟨"Plateroomprinter$Painter", "<init>", "(LPlateroomprinter$World;LPlateroomprinter$Raster;)V"⟩ : MethodName), prog_7_method_1_code, 3, none) := r_hy (by decide +kernel)
theorem hp_40 : plainName "Plateroomprinter$Painter" = true := by decide +kernel
theorem hc_40 : Jvm.Cond.code (⟨"Plateroomprinter$Painter", "<init>", "(LPlateroomprinter$World;LPlateroomprinter$Raster;)V"⟩ : MethodName) prog_7_method_1_code 3 none ∈ lw_tbl := r_k2 (r_hc (l := tables_1_2) (i := 177) (by decide +kernel))
theorem hd_40 : "Plateroomprinter$Painter" ≠ "java/lang/invoke/MethodHandle" ∧ "Plateroomprinter$Painter" ≠ "java/lang/invoke/VarHandle" ∧ (parseMethodDescriptor "(LPlateroomprinter$World;LPlateroomprinter$Raster;)V").map (fun d => d.parameters.length) = some 2 := ⟨by decide +kernel, by decide +kernel, by decide +kernel⟩
theorem hi_40 : Jvm.Cond.initialized "Plateroomprinter$Painter" ∈ lw_tbl := r_m_1_12
theorem hs_40 : Jvm.Cond.instanceMethod (⟨"Plateroomprinter$Painter", "<init>", "(LPlateroomprinter$World;LPlateroomprinter$Raster;)V"⟩ : MethodName) ∈ lw_tbl := (r_k2 (List.mem_of_getElem? (i := 176) (by decide +kernel)))
theorem hy_41 : e_ml[41]? = some ((⟨"Plateroomprinter$Painter", "doOrder", "(I[I)I"⟩ : MethodName), prog_7_method_3_code, 3, (some .int)) := r_hy (by decide +kernel)
theorem hp_41 : plainName "Plateroomprinter$Painter" = true := by decide +kernel
theorem hc_41 : Jvm.Cond.code (⟨"Plateroomprinter$Painter", "doOrder", "(I[I)I"⟩ : MethodName) prog_7_method_3_code 3 (some .int) ∈ lw_tbl := r_k4 (r_hc (l := tables_1_4) (i := 36) (by decide +kernel))
theorem hd_41 : "Plateroomprinter$Painter" ≠ "java/lang/invoke/MethodHandle" ∧ "Plateroomprinter$Painter" ≠ "java/lang/invoke/VarHandle" ∧ (parseMethodDescriptor "(I[I)I").map (fun d => d.parameters.length) = some 2 := ⟨by decide +kernel, by decide +kernel, by decide +kernel⟩
theorem hi_41 : Jvm.Cond.initialized "Plateroomprinter$Painter" ∈ lw_tbl := r_m_1_12
theorem hs_41 : Jvm.Cond.instanceMethod (⟨"Plateroomprinter$Painter", "doOrder", "(I[I)I"⟩ : MethodName) ∈ lw_tbl := (r_k4 (List.mem_of_getElem? (i := 34) (by decide +kernel)))
theorem hy_42 : e_ml[42]? = some ((⟨"Plateroomprinter$Painter", "print", "()I"⟩ : MethodName), prog_7_method_12_code, 1, (some .int)) := r_hy (by decide +kernel)
theorem hp_42 : plainName "Plateroomprinter$Painter" = true := by decide +kernel
theorem hc_42 : Jvm.Cond.code (⟨"Plateroomprinter$Painter", "print", "()I"⟩ : MethodName) prog_7_method_12_code 1 (some .int) ∈ lw_tbl := r_k5 (r_hc (l := tables_1_5) (i := 43) (by decide +kernel))
theorem hd_42 : "Plateroomprinter$Painter" ≠ "java/lang/invoke/MethodHandle" ∧ "Plateroomprinter$Painter" ≠ "java/lang/invoke/VarHandle" ∧ (parseMethodDescriptor "()I").map (fun d => d.parameters.length) = some 0 := ⟨by decide +kernel, by decide +kernel, by decide +kernel⟩
theorem hi_42 : Jvm.Cond.initialized "Plateroomprinter$Painter" ∈ lw_tbl := r_m_1_12
theorem hs_42 : Jvm.Cond.instanceMethod (⟨"Plateroomprinter$Painter", "print", "()I"⟩ : MethodName) ∈ lw_tbl := (r_k5 (List.mem_of_getElem? (i := 42) (by decide +kernel)))
theorem hy_43 : e_ml[43]? = some ((⟨"Plateroomprinter$Painter", "takePainted", "()I"⟩ : MethodName), prog_7_method_2_code, 2, (some .int)) := r_hy (by decide +kernel)
theorem hp_43 : plainName "Plateroomprinter$Painter" = true := by decide +kernel
theorem hc_43 : Jvm.Cond.code (⟨"Plateroomprinter$Painter", "takePainted", "()I"⟩ : MethodName) prog_7_method_2_code 2 (some .int) ∈ lw_tbl := r_k3 (r_hc (l := tables_1_3) (i := 162) (by decide +kernel))
theorem hd_43 : "Plateroomprinter$Painter" ≠ "java/lang/invoke/MethodHandle" ∧ "Plateroomprinter$Painter" ≠ "java/lang/invoke/VarHandle" ∧ (parseMethodDescriptor "()I").map (fun d => d.parameters.length) = some 0 := ⟨by decide +kernel, by decide +kernel, by decide +kernel⟩
theorem hi_43 : Jvm.Cond.initialized "Plateroomprinter$Painter" ∈ lw_tbl := r_m_1_12
theorem hs_43 : Jvm.Cond.instanceMethod (⟨"Plateroomprinter$Painter", "takePainted", "()I"⟩ : MethodName) ∈ lw_tbl := (r_k3 (List.mem_of_getElem? (i := 160) (by decide +kernel)))
theorem hy_44 : e_ml[44]? = some ((⟨"Plateroomprinter$Path", "<init>", "()V"⟩ : MethodName), prog_8_method_1_code, 1, none) := r_hy (by decide +kernel)
theorem hp_44 : plainName "Plateroomprinter$Path" = true := by decide +kernel
theorem hc_44 : Jvm.Cond.code (⟨"Plateroomprinter$Path", "<init>", "()V"⟩ : MethodName) prog_8_method_1_code 1 none ∈ lw_tbl := r_k1 (r_hc (l := tables_1_1) (i := 147) (by decide +kernel))
theorem hd_44 : "Plateroomprinter$Path" ≠ "java/lang/invoke/MethodHandle" ∧ "Plateroomprinter$Path" ≠ "java/lang/invoke/VarHandle" ∧ (parseMethodDescriptor "()V").map (fun d => d.parameters.length) = some 0 := ⟨by decide +kernel, by decide +kernel, by decide +kernel⟩
theorem hi_44 : Jvm.Cond.initialized "Plateroomprinter$Path" ∈ lw_tbl := r_m_1_8
theorem hs_44 : Jvm.Cond.instanceMethod (⟨"Plateroomprinter$Path", "<init>", "()V"⟩ : MethodName) ∈ lw_tbl := (r_k1 (List.mem_of_getElem? (i := 146) (by decide +kernel)))
theorem hy_45 : e_ml[45]? = some ((⟨"Plateroomprinter$Path", "clear", "()V"⟩ : MethodName), prog_8_method_2_code, 1, none) := r_hy (by decide +kernel)
theorem hp_45 : plainName "Plateroomprinter$Path" = true := by decide +kernel
theorem hc_45 : Jvm.Cond.code (⟨"Plateroomprinter$Path", "clear", "()V"⟩ : MethodName) prog_8_method_2_code 1 none ∈ lw_tbl := r_k2 (r_hc (l := tables_1_2) (i := 69) (by decide +kernel))
theorem hd_45 : "Plateroomprinter$Path" ≠ "java/lang/invoke/MethodHandle" ∧ "Plateroomprinter$Path" ≠ "java/lang/invoke/VarHandle" ∧ (parseMethodDescriptor "()V").map (fun d => d.parameters.length) = some 0 := ⟨by decide +kernel, by decide +kernel, by decide +kernel⟩
theorem hi_45 : Jvm.Cond.initialized "Plateroomprinter$Path" ∈ lw_tbl := r_m_1_8
theorem hs_45 : Jvm.Cond.instanceMethod (⟨"Plateroomprinter$Path", "clear", "()V"⟩ : MethodName) ∈ lw_tbl := (r_k2 (List.mem_of_getElem? (i := 67) (by decide +kernel)))
theorem hy_46 : e_ml[46]? = some ((⟨"Plateroomprinter$Path", "copyFrom", "(LPlateroomprinter$Path;)V"⟩ : MethodName), prog_8_method_3_code, 2, none) := r_hy (by decide +kernel)
theorem hp_46 : plainName "Plateroomprinter$Path" = true := by decide +kernel
theorem hc_46 : Jvm.Cond.code (⟨"Plateroomprinter$Path", "copyFrom", "(LPlateroomprinter$Path;)V"⟩ : MethodName) prog_8_method_3_code 2 none ∈ lw_tbl := r_k3 (r_hc (l := tables_1_3) (i := 142) (by decide +kernel))
theorem hd_46 : "Plateroomprinter$Path" ≠ "java/lang/invoke/MethodHandle" ∧ "Plateroomprinter$Path" ≠ "java/lang/invoke/VarHandle" ∧ (parseMethodDescriptor "(LPlateroomprinter$Path;)V").map (fun d => d.parameters.length) = some 1 := ⟨by decide +kernel, by decide +kernel, by decide +kernel⟩
theorem hi_46 : Jvm.Cond.initialized "Plateroomprinter$Path" ∈ lw_tbl := r_m_1_8
theorem hs_46 : Jvm.Cond.instanceMethod (⟨"Plateroomprinter$Path", "copyFrom", "(LPlateroomprinter$Path;)V"⟩ : MethodName) ∈ lw_tbl := (r_k3 (List.mem_of_getElem? (i := 140) (by decide +kernel)))
theorem hy_47 : e_ml[47]? = some ((⟨"Plateroomprinter$Raster", "<init>", "()V"⟩ : MethodName), prog_9_method_1_code, 1, none) := r_hy (by decide +kernel)
theorem hp_47 : plainName "Plateroomprinter$Raster" = true := by decide +kernel
theorem hc_47 : Jvm.Cond.code (⟨"Plateroomprinter$Raster", "<init>", "()V"⟩ : MethodName) prog_9_method_1_code 1 none ∈ lw_tbl := r_k2 (r_hc (l := tables_1_2) (i := 161) (by decide +kernel))
theorem hd_47 : "Plateroomprinter$Raster" ≠ "java/lang/invoke/MethodHandle" ∧ "Plateroomprinter$Raster" ≠ "java/lang/invoke/VarHandle" ∧ (parseMethodDescriptor "()V").map (fun d => d.parameters.length) = some 0 := ⟨by decide +kernel, by decide +kernel, by decide +kernel⟩
theorem hi_47 : Jvm.Cond.initialized "Plateroomprinter$Raster" ∈ lw_tbl := r_m_1_11
theorem hs_47 : Jvm.Cond.instanceMethod (⟨"Plateroomprinter$Raster", "<init>", "()V"⟩ : MethodName) ∈ lw_tbl := (r_k2 (List.mem_of_getElem? (i := 160) (by decide +kernel)))
theorem hy_48 : e_ml[48]? = some ((⟨"Plateroomprinter$Sheet", "<init>", "()V"⟩ : MethodName), prog_10_method_1_code, 1, none) := r_hy (by decide +kernel)
theorem hp_48 : plainName "Plateroomprinter$Sheet" = true := by decide +kernel
theorem hc_48 : Jvm.Cond.code (⟨"Plateroomprinter$Sheet", "<init>", "()V"⟩ : MethodName) prog_10_method_1_code 1 none ∈ lw_tbl := r_k2 (r_hc (l := tables_1_2) (i := 2) (by decide +kernel))
theorem hd_48 : "Plateroomprinter$Sheet" ≠ "java/lang/invoke/MethodHandle" ∧ "Plateroomprinter$Sheet" ≠ "java/lang/invoke/VarHandle" ∧ (parseMethodDescriptor "()V").map (fun d => d.parameters.length) = some 0 := ⟨by decide +kernel, by decide +kernel, by decide +kernel⟩
theorem hi_48 : Jvm.Cond.initialized "Plateroomprinter$Sheet" ∈ lw_tbl := r_m_1_9
theorem hs_48 : Jvm.Cond.instanceMethod (⟨"Plateroomprinter$Sheet", "<init>", "()V"⟩ : MethodName) ∈ lw_tbl := (r_k2 (List.mem_of_getElem? (i := 1) (by decide +kernel)))
theorem hy_49 : e_ml[49]? = some ((⟨"Plateroomprinter$Sheet", "clear", "()V"⟩ : MethodName), prog_10_method_2_code, 1, none) := r_hy (by decide +kernel)
theorem hp_49 : plainName "Plateroomprinter$Sheet" = true := by decide +kernel
theorem hc_49 : Jvm.Cond.code (⟨"Plateroomprinter$Sheet", "clear", "()V"⟩ : MethodName) prog_10_method_2_code 1 none ∈ lw_tbl := r_k2 (r_hc (l := tables_1_2) (i := 78) (by decide +kernel))
theorem hd_49 : "Plateroomprinter$Sheet" ≠ "java/lang/invoke/MethodHandle" ∧ "Plateroomprinter$Sheet" ≠ "java/lang/invoke/VarHandle" ∧ (parseMethodDescriptor "()V").map (fun d => d.parameters.length) = some 0 := ⟨by decide +kernel, by decide +kernel, by decide +kernel⟩
theorem hi_49 : Jvm.Cond.initialized "Plateroomprinter$Sheet" ∈ lw_tbl := r_m_1_9
theorem hs_49 : Jvm.Cond.instanceMethod (⟨"Plateroomprinter$Sheet", "clear", "()V"⟩ : MethodName) ∈ lw_tbl := (r_k2 (List.mem_of_getElem? (i := 76) (by decide +kernel)))
theorem hy_50 : e_ml[50]? = some ((⟨"Plateroomprinter$Sheet", "copyFrom", "(LPlateroomprinter$Sheet;)V"⟩ : MethodName), prog_10_method_3_code, 3, none) := r_hy (by decide +kernel)
theorem hp_50 : plainName "Plateroomprinter$Sheet" = true := by decide +kernel
theorem hc_50 : Jvm.Cond.code (⟨"Plateroomprinter$Sheet", "copyFrom", "(LPlateroomprinter$Sheet;)V"⟩ : MethodName) prog_10_method_3_code 3 none ∈ lw_tbl := r_k3 (r_hc (l := tables_1_3) (i := 153) (by decide +kernel))
theorem hd_50 : "Plateroomprinter$Sheet" ≠ "java/lang/invoke/MethodHandle" ∧ "Plateroomprinter$Sheet" ≠ "java/lang/invoke/VarHandle" ∧ (parseMethodDescriptor "(LPlateroomprinter$Sheet;)V").map (fun d => d.parameters.length) = some 1 := ⟨by decide +kernel, by decide +kernel, by decide +kernel⟩
theorem hi_50 : Jvm.Cond.initialized "Plateroomprinter$Sheet" ∈ lw_tbl := r_m_1_9
theorem hs_50 : Jvm.Cond.instanceMethod (⟨"Plateroomprinter$Sheet", "copyFrom", "(LPlateroomprinter$Sheet;)V"⟩ : MethodName) ∈ lw_tbl := (r_k3 (List.mem_of_getElem? (i := 151) (by decide +kernel)))
theorem hy_51 : e_ml[51]? = some ((⟨"Plateroomprinter$State", "<init>", "()V"⟩ : MethodName), prog_11_method_1_code, 1, none) := r_hy (by decide +kernel)
theorem hp_51 : plainName "Plateroomprinter$State" = true := by decide +kernel
theorem hc_51 : Jvm.Cond.code (⟨"Plateroomprinter$State", "<init>", "()V"⟩ : MethodName) prog_11_method_1_code 1 none ∈ lw_tbl := r_k1 (r_hc (l := tables_1_1) (i := 116) (by decide +kernel))
theorem hd_51 : "Plateroomprinter$State" ≠ "java/lang/invoke/MethodHandle" ∧ "Plateroomprinter$State" ≠ "java/lang/invoke/VarHandle" ∧ (parseMethodDescriptor "()V").map (fun d => d.parameters.length) = some 0 := ⟨by decide +kernel, by decide +kernel, by decide +kernel⟩
theorem hi_51 : Jvm.Cond.initialized "Plateroomprinter$State" ∈ lw_tbl := r_m_1_6
theorem hs_51 : Jvm.Cond.instanceMethod (⟨"Plateroomprinter$State", "<init>", "()V"⟩ : MethodName) ∈ lw_tbl := (r_k1 (List.mem_of_getElem? (i := 115) (by decide +kernel)))
theorem hy_52 : e_ml[52]? = some ((⟨"Plateroomprinter$State", "clear", "()V"⟩ : MethodName), prog_11_method_2_code, 2, none) := r_hy (by decide +kernel)
theorem hp_52 : plainName "Plateroomprinter$State" = true := by decide +kernel
theorem hc_52 : Jvm.Cond.code (⟨"Plateroomprinter$State", "clear", "()V"⟩ : MethodName) prog_11_method_2_code 2 none ∈ lw_tbl := r_k2 (r_hc (l := tables_1_2) (i := 57) (by decide +kernel))
theorem hd_52 : "Plateroomprinter$State" ≠ "java/lang/invoke/MethodHandle" ∧ "Plateroomprinter$State" ≠ "java/lang/invoke/VarHandle" ∧ (parseMethodDescriptor "()V").map (fun d => d.parameters.length) = some 0 := ⟨by decide +kernel, by decide +kernel, by decide +kernel⟩
theorem hi_52 : Jvm.Cond.initialized "Plateroomprinter$State" ∈ lw_tbl := r_m_1_6
theorem hs_52 : Jvm.Cond.instanceMethod (⟨"Plateroomprinter$State", "clear", "()V"⟩ : MethodName) ∈ lw_tbl := (r_k2 (List.mem_of_getElem? (i := 55) (by decide +kernel)))
theorem hy_53 : e_ml[53]? = some ((⟨"Plateroomprinter$State", "copyFrom", "(LPlateroomprinter$State;)V"⟩ : MethodName), prog_11_method_3_code, 3, none) := r_hy (by decide +kernel)
theorem hp_53 : plainName "Plateroomprinter$State" = true := by decide +kernel
theorem hc_53 : Jvm.Cond.code (⟨"Plateroomprinter$State", "copyFrom", "(LPlateroomprinter$State;)V"⟩ : MethodName) prog_11_method_3_code 3 none ∈ lw_tbl := r_k3 (r_hc (l := tables_1_3) (i := 134) (by decide +kernel))
theorem hd_53 : "Plateroomprinter$State" ≠ "java/lang/invoke/MethodHandle" ∧ "Plateroomprinter$State" ≠ "java/lang/invoke/VarHandle" ∧ (parseMethodDescriptor "(LPlateroomprinter$State;)V").map (fun d => d.parameters.length) = some 1 := ⟨by decide +kernel, by decide +kernel, by decide +kernel⟩
theorem hi_53 : Jvm.Cond.initialized "Plateroomprinter$State" ∈ lw_tbl := r_m_1_6
theorem hs_53 : Jvm.Cond.instanceMethod (⟨"Plateroomprinter$State", "copyFrom", "(LPlateroomprinter$State;)V"⟩ : MethodName) ∈ lw_tbl := (r_k3 (List.mem_of_getElem? (i := 132) (by decide +kernel)))
theorem hy_54 : e_ml[54]? = some ((⟨"Plateroomprinter$State", "forgetPath", "()V"⟩ : MethodName), prog_11_method_5_code, 1, none) := r_hy (by decide +kernel)
theorem hp_54 : plainName "Plateroomprinter$State" = true := by decide +kernel
theorem hc_54 : Jvm.Cond.code (⟨"Plateroomprinter$State", "forgetPath", "()V"⟩ : MethodName) prog_11_method_5_code 1 none ∈ lw_tbl := r_k2 (r_hc (l := tables_1_2) (i := 65) (by decide +kernel))
theorem hd_54 : "Plateroomprinter$State" ≠ "java/lang/invoke/MethodHandle" ∧ "Plateroomprinter$State" ≠ "java/lang/invoke/VarHandle" ∧ (parseMethodDescriptor "()V").map (fun d => d.parameters.length) = some 0 := ⟨by decide +kernel, by decide +kernel, by decide +kernel⟩
theorem hi_54 : Jvm.Cond.initialized "Plateroomprinter$State" ∈ lw_tbl := r_m_1_6
theorem hs_54 : Jvm.Cond.instanceMethod (⟨"Plateroomprinter$State", "forgetPath", "()V"⟩ : MethodName) ∈ lw_tbl := (r_k2 (List.mem_of_getElem? (i := 63) (by decide +kernel)))
theorem hy_55 : e_ml[55]? = some ((⟨"Plateroomprinter$State", "openClip", "()V"⟩ : MethodName), prog_11_method_4_code, 2, none) := r_hy (by decide +kernel)
theorem hp_55 : plainName "Plateroomprinter$State" = true := by decide +kernel
theorem hc_55 : Jvm.Cond.code (⟨"Plateroomprinter$State", "openClip", "()V"⟩ : MethodName) prog_11_method_4_code 2 none ∈ lw_tbl := r_k2 (r_hc (l := tables_1_2) (i := 73) (by decide +kernel))
theorem hd_55 : "Plateroomprinter$State" ≠ "java/lang/invoke/MethodHandle" ∧ "Plateroomprinter$State" ≠ "java/lang/invoke/VarHandle" ∧ (parseMethodDescriptor "()V").map (fun d => d.parameters.length) = some 0 := ⟨by decide +kernel, by decide +kernel, by decide +kernel⟩
theorem hi_55 : Jvm.Cond.initialized "Plateroomprinter$State" ∈ lw_tbl := r_m_1_6
theorem hs_55 : Jvm.Cond.instanceMethod (⟨"Plateroomprinter$State", "openClip", "()V"⟩ : MethodName) ∈ lw_tbl := (r_k2 (List.mem_of_getElem? (i := 71) (by decide +kernel)))
theorem hy_56 : e_ml[56]? = some ((⟨"Plateroomprinter$World", "<init>", "()V"⟩ : MethodName), prog_12_method_1_code, 2, none) := r_hy (by decide +kernel)
theorem hp_56 : plainName "Plateroomprinter$World" = true := by decide +kernel
theorem hc_56 : Jvm.Cond.code (⟨"Plateroomprinter$World", "<init>", "()V"⟩ : MethodName) prog_12_method_1_code 2 none ∈ lw_tbl := r_k1 (r_hc (l := tables_1_1) (i := 83) (by decide +kernel))
theorem hd_56 : "Plateroomprinter$World" ≠ "java/lang/invoke/MethodHandle" ∧ "Plateroomprinter$World" ≠ "java/lang/invoke/VarHandle" ∧ (parseMethodDescriptor "()V").map (fun d => d.parameters.length) = some 0 := ⟨by decide +kernel, by decide +kernel, by decide +kernel⟩
theorem hi_56 : Jvm.Cond.initialized "Plateroomprinter$World" ∈ lw_tbl := r_m_1_3
theorem hs_56 : Jvm.Cond.instanceMethod (⟨"Plateroomprinter$World", "<init>", "()V"⟩ : MethodName) ∈ lw_tbl := (r_k1 (List.mem_of_getElem? (i := 82) (by decide +kernel)))
theorem hy_57 : e_ml[57]? = some ((⟨"Plateroomprinter$World", "clear", "()V"⟩ : MethodName), prog_12_method_2_code, 2, none) := r_hy (by decide +kernel)
theorem hp_57 : plainName "Plateroomprinter$World" = true := by decide +kernel
theorem hc_57 : Jvm.Cond.code (⟨"Plateroomprinter$World", "clear", "()V"⟩ : MethodName) prog_12_method_2_code 2 none ∈ lw_tbl := r_k2 (r_hc (l := tables_1_2) (i := 42) (by decide +kernel))
theorem hd_57 : "Plateroomprinter$World" ≠ "java/lang/invoke/MethodHandle" ∧ "Plateroomprinter$World" ≠ "java/lang/invoke/VarHandle" ∧ (parseMethodDescriptor "()V").map (fun d => d.parameters.length) = some 0 := ⟨by decide +kernel, by decide +kernel, by decide +kernel⟩
theorem hi_57 : Jvm.Cond.initialized "Plateroomprinter$World" ∈ lw_tbl := r_m_1_3
theorem hs_57 : Jvm.Cond.instanceMethod (⟨"Plateroomprinter$World", "clear", "()V"⟩ : MethodName) ∈ lw_tbl := (r_k2 (List.mem_of_getElem? (i := 40) (by decide +kernel)))
theorem hy_58 : e_ml[58]? = some ((⟨"Plateroomprinter$World", "copyFrom", "(LPlateroomprinter$World;)V"⟩ : MethodName), prog_12_method_3_code, 3, none) := r_hy (by decide +kernel)
theorem hp_58 : plainName "Plateroomprinter$World" = true := by decide +kernel
theorem hc_58 : Jvm.Cond.code (⟨"Plateroomprinter$World", "copyFrom", "(LPlateroomprinter$World;)V"⟩ : MethodName) prog_12_method_3_code 3 none ∈ lw_tbl := r_k3 (r_hc (l := tables_1_3) (i := 126) (by decide +kernel))
theorem hd_58 : "Plateroomprinter$World" ≠ "java/lang/invoke/MethodHandle" ∧ "Plateroomprinter$World" ≠ "java/lang/invoke/VarHandle" ∧ (parseMethodDescriptor "(LPlateroomprinter$World;)V").map (fun d => d.parameters.length) = some 1 := ⟨by decide +kernel, by decide +kernel, by decide +kernel⟩
theorem hi_58 : Jvm.Cond.initialized "Plateroomprinter$World" ∈ lw_tbl := r_m_1_3
theorem hs_58 : Jvm.Cond.instanceMethod (⟨"Plateroomprinter$World", "copyFrom", "(LPlateroomprinter$World;)V"⟩ : MethodName) ∈ lw_tbl := (r_k3 (List.mem_of_getElem? (i := 124) (by decide +kernel)))
theorem hy_59 : e_ml[59]? = some ((⟨"PlateroomprinterLaw", "three", "(LPlateroomprinter;IIIIII[J)I"⟩ : MethodName), method_4_code, 9, (some .int)) := r_hy (by decide +kernel)
theorem hp_59 : plainName "PlateroomprinterLaw" = true := by decide +kernel
theorem hc_59 : Jvm.Cond.codeWith (⟨"PlateroomprinterLaw", "three", "(LPlateroomprinter;IIIIII[J)I"⟩ : MethodName) method_4_code 9 (some .int) [(0, 18, 21, 13), (0, 18, 25, 15)] ∈ lw_tbl := (r_k7 (List.mem_of_getElem? (i := 19) (by decide +kernel)))
theorem hd_59 : "PlateroomprinterLaw" ≠ "java/lang/invoke/MethodHandle" ∧ "PlateroomprinterLaw" ≠ "java/lang/invoke/VarHandle" ∧ (parseMethodDescriptor "(LPlateroomprinter;IIIIII[J)I").map (fun d => d.parameters.length) = some 8 := ⟨by decide +kernel, by decide +kernel, by decide +kernel⟩
theorem hi_59 : Jvm.Cond.initialized "PlateroomprinterLaw" ∈ lw_tbl := r_m_1_0
theorem hs_59 : Jvm.Cond.static (⟨"PlateroomprinterLaw", "three", "(LPlateroomprinter;IIIIII[J)I"⟩ : MethodName) ∈ lw_tbl := (r_k7 (List.mem_of_getElem? (i := 18) (by decide +kernel)))
theorem hy_60 : e_ml[60]? = some ((⟨"PlateroomprinterLaw", "token", "(LPlateroomprinter;II[J)I"⟩ : MethodName), method_3_code, 5, (some .int)) := r_hy (by decide +kernel)
theorem hp_60 : plainName "PlateroomprinterLaw" = true := by decide +kernel
theorem hc_60 : Jvm.Cond.codeWith (⟨"PlateroomprinterLaw", "token", "(LPlateroomprinter;II[J)I"⟩ : MethodName) method_3_code 5 (some .int) [(0, 10, 13, 13), (0, 10, 17, 15)] ∈ lw_tbl := (r_k6 (List.mem_of_getElem? (i := 226) (by decide +kernel)))
theorem hd_60 : "PlateroomprinterLaw" ≠ "java/lang/invoke/MethodHandle" ∧ "PlateroomprinterLaw" ≠ "java/lang/invoke/VarHandle" ∧ (parseMethodDescriptor "(LPlateroomprinter;II[J)I").map (fun d => d.parameters.length) = some 4 := ⟨by decide +kernel, by decide +kernel, by decide +kernel⟩
theorem hi_60 : Jvm.Cond.initialized "PlateroomprinterLaw" ∈ lw_tbl := r_m_1_0
theorem hs_60 : Jvm.Cond.static (⟨"PlateroomprinterLaw", "token", "(LPlateroomprinter;II[J)I"⟩ : MethodName) ∈ lw_tbl := (r_k6 (List.mem_of_getElem? (i := 225) (by decide +kernel)))
theorem hy_61 : e_ml[61]? = some ((⟨"PlateroomprinterModel", "<init>", "()V"⟩ : MethodName), prog_14_method_1_code, 1, none) := r_hy (by decide +kernel)
theorem hp_61 : plainName "PlateroomprinterModel" = true := by decide +kernel
theorem hc_61 : Jvm.Cond.code (⟨"PlateroomprinterModel", "<init>", "()V"⟩ : MethodName) prog_14_method_1_code 1 none ∈ lw_tbl := r_k7 (r_hc (l := tables_1_7) (i := 165) (by decide +kernel))
theorem hd_61 : "PlateroomprinterModel" ≠ "java/lang/invoke/MethodHandle" ∧ "PlateroomprinterModel" ≠ "java/lang/invoke/VarHandle" ∧ (parseMethodDescriptor "()V").map (fun d => d.parameters.length) = some 0 := ⟨by decide +kernel, by decide +kernel, by decide +kernel⟩
theorem hi_61 : Jvm.Cond.initialized "PlateroomprinterModel" ∈ lw_tbl := r_m_1_14
theorem hs_61 : Jvm.Cond.instanceMethod (⟨"PlateroomprinterModel", "<init>", "()V"⟩ : MethodName) ∈ lw_tbl := (r_k7 (List.mem_of_getElem? (i := 164) (by decide +kernel)))
theorem hy_62 : e_ml[62]? = some ((⟨"PlateroomprinterModel", "copied", "(Ljava/util/ArrayList;II)Ljava/util/ArrayList;"⟩ : MethodName), prog_14_method_13_code, 5, (some (.object "java/util/ArrayList"))) := r_hy (by decide +kernel)
theorem hp_62 : plainName "PlateroomprinterModel" = true := by decide +kernel
theorem hc_62 : Jvm.Cond.code (⟨"PlateroomprinterModel", "copied", "(Ljava/util/ArrayList;II)Ljava/util/ArrayList;"⟩ : MethodName) prog_14_method_13_code 5 (some (.object "java/util/ArrayList")) ∈ lw_tbl := r_k9 (r_hc (l := tables_1_9) (i := 4) (by decide +kernel))
theorem hd_62 : "PlateroomprinterModel" ≠ "java/lang/invoke/MethodHandle" ∧ "PlateroomprinterModel" ≠ "java/lang/invoke/VarHandle" ∧ (parseMethodDescriptor "(Ljava/util/ArrayList;II)Ljava/util/ArrayList;").map (fun d => d.parameters.length) = some 3 := ⟨by decide +kernel, by decide +kernel, by decide +kernel⟩
theorem hi_62 : Jvm.Cond.initialized "PlateroomprinterModel" ∈ lw_tbl := r_m_1_14
theorem hs_62 : Jvm.Cond.static (⟨"PlateroomprinterModel", "copied", "(Ljava/util/ArrayList;II)Ljava/util/ArrayList;"⟩ : MethodName) ∈ lw_tbl := (r_k9 (List.mem_of_getElem? (i := 3) (by decide +kernel)))
theorem hy_63 : e_ml[63]? = some ((⟨"PlateroomprinterModel", "copied", "([I)[I"⟩ : MethodName), prog_14_method_20_code, 3, (some (.array .int))) := r_hy (by decide +kernel)
theorem hp_63 : plainName "PlateroomprinterModel" = true := by decide +kernel
theorem hc_63 : Jvm.Cond.code (⟨"PlateroomprinterModel", "copied", "([I)[I"⟩ : MethodName) prog_14_method_20_code 3 (some (.array .int)) ∈ lw_tbl := r_k9 (r_hc (l := tables_1_9) (i := 39) (by decide +kernel))
theorem hd_63 : "PlateroomprinterModel" ≠ "java/lang/invoke/MethodHandle" ∧ "PlateroomprinterModel" ≠ "java/lang/invoke/VarHandle" ∧ (parseMethodDescriptor "([I)[I").map (fun d => d.parameters.length) = some 1 := ⟨by decide +kernel, by decide +kernel, by decide +kernel⟩
theorem hi_63 : Jvm.Cond.initialized "PlateroomprinterModel" ∈ lw_tbl := r_m_1_14
theorem hs_63 : Jvm.Cond.static (⟨"PlateroomprinterModel", "copied", "([I)[I"⟩ : MethodName) ∈ lw_tbl := (r_k9 (List.mem_of_getElem? (i := 38) (by decide +kernel)))
theorem hy_64 : e_ml[64]? = some ((⟨"PlateroomprinterModel", "copied", "([Z)[Z"⟩ : MethodName), prog_14_method_19_code, 3, (some (.array .boolean))) := r_hy (by decide +kernel)
theorem hp_64 : plainName "PlateroomprinterModel" = true := by decide +kernel
theorem hc_64 : Jvm.Cond.code (⟨"PlateroomprinterModel", "copied", "([Z)[Z"⟩ : MethodName) prog_14_method_19_code 3 (some (.array .boolean)) ∈ lw_tbl := r_k9 (r_hc (l := tables_1_9) (i := 36) (by decide +kernel))
theorem hd_64 : "PlateroomprinterModel" ≠ "java/lang/invoke/MethodHandle" ∧ "PlateroomprinterModel" ≠ "java/lang/invoke/VarHandle" ∧ (parseMethodDescriptor "([Z)[Z").map (fun d => d.parameters.length) = some 1 := ⟨by decide +kernel, by decide +kernel, by decide +kernel⟩
theorem hi_64 : Jvm.Cond.initialized "PlateroomprinterModel" ∈ lw_tbl := r_m_1_14
theorem hs_64 : Jvm.Cond.static (⟨"PlateroomprinterModel", "copied", "([Z)[Z"⟩ : MethodName) ∈ lw_tbl := (r_k9 (List.mem_of_getElem? (i := 35) (by decide +kernel)))
theorem hy_65 : e_ml[65]? = some ((⟨"PlateroomprinterModel", "failed", "(III)I"⟩ : MethodName), prog_14_method_30_code, 4, (some .int)) := r_hy (by decide +kernel)
theorem hp_65 : plainName "PlateroomprinterModel" = true := by decide +kernel
theorem hc_65 : Jvm.Cond.code (⟨"PlateroomprinterModel", "failed", "(III)I"⟩ : MethodName) prog_14_method_30_code 4 (some .int) ∈ lw_tbl := r_k12 (r_hc (l := tables_1_12) (i := 113) (by decide +kernel))
theorem hd_65 : "PlateroomprinterModel" ≠ "java/lang/invoke/MethodHandle" ∧ "PlateroomprinterModel" ≠ "java/lang/invoke/VarHandle" ∧ (parseMethodDescriptor "(III)I").map (fun d => d.parameters.length) = some 3 := ⟨by decide +kernel, by decide +kernel, by decide +kernel⟩
theorem hi_65 : Jvm.Cond.initialized "PlateroomprinterModel" ∈ lw_tbl := r_m_1_14
theorem hs_65 : Jvm.Cond.instanceMethod (⟨"PlateroomprinterModel", "failed", "(III)I"⟩ : MethodName) ∈ lw_tbl := (r_k12 (List.mem_of_getElem? (i := 112) (by decide +kernel)))
theorem hy_66 : e_ml[66]? = some ((⟨"PlateroomprinterModel", "isIn", "(JJJ)Z"⟩ : MethodName), prog_14_method_2_code, 6, (some .boolean)) := r_hy (by decide +kernel)
theorem hp_66 : plainName "PlateroomprinterModel" = true := by decide +kernel
theorem hc_66 : Jvm.Cond.code (⟨"PlateroomprinterModel", "isIn", "(JJJ)Z"⟩ : MethodName) prog_14_method_2_code 6 (some .boolean) ∈ lw_tbl := r_k8 (r_hc (l := tables_1_8) (i := 168) (by decide +kernel))
theorem hd_66 : "PlateroomprinterModel" ≠ "java/lang/invoke/MethodHandle" ∧ "PlateroomprinterModel" ≠ "java/lang/invoke/VarHandle" ∧ (parseMethodDescriptor "(JJJ)Z").map (fun d => d.parameters.length) = some 3 := ⟨by decide +kernel, by decide +kernel, by decide +kernel⟩
theorem hi_66 : Jvm.Cond.initialized "PlateroomprinterModel" ∈ lw_tbl := r_m_1_14
theorem hs_66 : Jvm.Cond.static (⟨"PlateroomprinterModel", "isIn", "(JJJ)Z"⟩ : MethodName) ∈ lw_tbl := (r_k8 (List.mem_of_getElem? (i := 167) (by decide +kernel)))
theorem hy_67 : e_ml[67]? = some ((⟨"PlateroomprinterModel", "isNoToken", "(II)Z"⟩ : MethodName), prog_14_method_25_code, 2, (some .boolean)) := r_hy (by decide +kernel)
theorem hp_67 : plainName "PlateroomprinterModel" = true := by decide +kernel
theorem hc_67 : Jvm.Cond.code (⟨"PlateroomprinterModel", "isNoToken", "(II)Z"⟩ : MethodName) prog_14_method_25_code 2 (some .boolean) ∈ lw_tbl := r_k8 (r_hc (l := tables_1_8) (i := 163) (by decide +kernel))
theorem hd_67 : "PlateroomprinterModel" ≠ "java/lang/invoke/MethodHandle" ∧ "PlateroomprinterModel" ≠ "java/lang/invoke/VarHandle" ∧ (parseMethodDescriptor "(II)Z").map (fun d => d.parameters.length) = some 2 := ⟨by decide +kernel, by decide +kernel, by decide +kernel⟩
theorem hi_67 : Jvm.Cond.initialized "PlateroomprinterModel" ∈ lw_tbl := r_m_1_14
theorem hs_67 : Jvm.Cond.static (⟨"PlateroomprinterModel", "isNoToken", "(II)Z"⟩ : MethodName) ∈ lw_tbl := (r_k8 (List.mem_of_getElem? (i := 162) (by decide +kernel)))
theorem hy_68 : e_ml[68]? = some ((⟨"PlateroomprinterModel", "must", "(ZI)V"⟩ : MethodName), prog_14_method_4_code, 2, none) := r_hy (by decide +kernel)
theorem hp_68 : plainName "PlateroomprinterModel" = true := by decide +kernel
theorem hc_68 : Jvm.Cond.code (⟨"PlateroomprinterModel", "must", "(ZI)V"⟩ : MethodName) prog_14_method_4_code 2 none ∈ lw_tbl := r_k9 (r_hc (l := tables_1_9) (i := 144) (by decide +kernel))
theorem hd_68 : "PlateroomprinterModel" ≠ "java/lang/invoke/MethodHandle" ∧ "PlateroomprinterModel" ≠ "java/lang/invoke/VarHandle" ∧ (parseMethodDescriptor "(ZI)V").map (fun d => d.parameters.length) = some 2 := ⟨by decide +kernel, by decide +kernel, by decide +kernel⟩
theorem hi_68 : Jvm.Cond.initialized "PlateroomprinterModel" ∈ lw_tbl := r_m_1_14
theorem hs_68 : Jvm.Cond.static (⟨"PlateroomprinterModel", "must", "(ZI)V"⟩ : MethodName) ∈ lw_tbl := (r_k9 (List.mem_of_getElem? (i := 143) (by decide +kernel)))
theorem hy_69 : e_ml[69]? = some ((⟨"PlateroomprinterModel", "refuse", "(ZI)Z"⟩ : MethodName), prog_14_method_23_code, 3, (some .boolean)) := r_hy (by decide +kernel)
theorem hp_69 : plainName "PlateroomprinterModel" = true := by decide +kernel
theorem hc_69 : Jvm.Cond.code (⟨"PlateroomprinterModel", "refuse", "(ZI)Z"⟩ : MethodName) prog_14_method_23_code 3 (some .boolean) ∈ lw_tbl := r_k8 (r_hc (l := tables_1_8) (i := 178) (by decide +kernel))
theorem hd_69 : "PlateroomprinterModel" ≠ "java/lang/invoke/MethodHandle" ∧ "PlateroomprinterModel" ≠ "java/lang/invoke/VarHandle" ∧ (parseMethodDescriptor "(ZI)Z").map (fun d => d.parameters.length) = some 2 := ⟨by decide +kernel, by decide +kernel, by decide +kernel⟩
theorem hi_69 : Jvm.Cond.initialized "PlateroomprinterModel" ∈ lw_tbl := r_m_1_14
theorem hs_69 : Jvm.Cond.instanceMethod (⟨"PlateroomprinterModel", "refuse", "(ZI)Z"⟩ : MethodName) ∈ lw_tbl := (r_k8 (List.mem_of_getElem? (i := 177) (by decide +kernel)))
theorem hy_70 : e_ml[70]? = some ((⟨"PlateroomprinterModel", "run", "()I"⟩ : MethodName), prog_14_method_31_code, 4, (some .int)) := r_hy (by decide +kernel)
theorem hp_70 : plainName "PlateroomprinterModel" = true := by decide +kernel
theorem hc_70 : Jvm.Cond.codeWith (⟨"PlateroomprinterModel", "run", "()I"⟩ : MethodName) prog_14_method_31_code 4 (some .int) [(26, 30, 33, 27)] ∈ lw_tbl := (r_k8 (List.mem_of_getElem? (i := 219) (by decide +kernel)))
theorem hd_70 : "PlateroomprinterModel" ≠ "java/lang/invoke/MethodHandle" ∧ "PlateroomprinterModel" ≠ "java/lang/invoke/VarHandle" ∧ (parseMethodDescriptor "()I").map (fun d => d.parameters.length) = some 0 := ⟨by decide +kernel, by decide +kernel, by decide +kernel⟩
theorem hi_70 : Jvm.Cond.initialized "PlateroomprinterModel" ∈ lw_tbl := r_m_1_14
theorem hs_70 : Jvm.Cond.instanceMethod (⟨"PlateroomprinterModel", "run", "()I"⟩ : MethodName) ∈ lw_tbl := (r_k8 (List.mem_of_getElem? (i := 217) (by decide +kernel)))
theorem hy_71 : e_ml[71]? = some ((⟨"PlateroomprinterModel", "start", "(ZI)Z"⟩ : MethodName), prog_14_method_24_code, 3, (some .boolean)) := r_hy (by decide +kernel)
theorem hp_71 : plainName "PlateroomprinterModel" = true := by decide +kernel
theorem hc_71 : Jvm.Cond.code (⟨"PlateroomprinterModel", "start", "(ZI)Z"⟩ : MethodName) prog_14_method_24_code 3 (some .boolean) ∈ lw_tbl := r_k8 (r_hc (l := tables_1_8) (i := 174) (by decide +kernel))
theorem hd_71 : "PlateroomprinterModel" ≠ "java/lang/invoke/MethodHandle" ∧ "PlateroomprinterModel" ≠ "java/lang/invoke/VarHandle" ∧ (parseMethodDescriptor "(ZI)Z").map (fun d => d.parameters.length) = some 2 := ⟨by decide +kernel, by decide +kernel, by decide +kernel⟩
theorem hi_71 : Jvm.Cond.initialized "PlateroomprinterModel" ∈ lw_tbl := r_m_1_14
theorem hs_71 : Jvm.Cond.instanceMethod (⟨"PlateroomprinterModel", "start", "(ZI)Z"⟩ : MethodName) ∈ lw_tbl := (r_k8 (List.mem_of_getElem? (i := 173) (by decide +kernel)))
theorem hy_72 : e_ml[72]? = some ((⟨"PlateroomprinterModel", "three", "(IIIIII)I"⟩ : MethodName), prog_14_method_27_code, 8, (some .int)) := r_hy (by decide +kernel)
theorem hp_72 : plainName "PlateroomprinterModel" = true := by decide +kernel
theorem hc_72 : Jvm.Cond.code (⟨"PlateroomprinterModel", "three", "(IIIIII)I"⟩ : MethodName) prog_14_method_27_code 8 (some .int) ∈ lw_tbl := r_k8 (r_hc (l := tables_1_8) (i := 187) (by decide +kernel))
theorem hd_72 : "PlateroomprinterModel" ≠ "java/lang/invoke/MethodHandle" ∧ "PlateroomprinterModel" ≠ "java/lang/invoke/VarHandle" ∧ (parseMethodDescriptor "(IIIIII)I").map (fun d => d.parameters.length) = some 6 := ⟨by decide +kernel, by decide +kernel, by decide +kernel⟩
theorem hi_72 : Jvm.Cond.initialized "PlateroomprinterModel" ∈ lw_tbl := r_m_1_14
theorem hs_72 : Jvm.Cond.instanceMethod (⟨"PlateroomprinterModel", "three", "(IIIIII)I"⟩ : MethodName) ∈ lw_tbl := (r_k8 (List.mem_of_getElem? (i := 185) (by decide +kernel)))
theorem hy_73 : e_ml[73]? = some ((⟨"PlateroomprinterModel", "token", "(II)I"⟩ : MethodName), prog_14_method_26_code, 3, (some .int)) := r_hy (by decide +kernel)
theorem hp_73 : plainName "PlateroomprinterModel" = true := by decide +kernel
theorem hc_73 : Jvm.Cond.code (⟨"PlateroomprinterModel", "token", "(II)I"⟩ : MethodName) prog_14_method_26_code 3 (some .int) ∈ lw_tbl := r_k8 (r_hc (l := tables_1_8) (i := 160) (by decide +kernel))
theorem hd_73 : "PlateroomprinterModel" ≠ "java/lang/invoke/MethodHandle" ∧ "PlateroomprinterModel" ≠ "java/lang/invoke/VarHandle" ∧ (parseMethodDescriptor "(II)I").map (fun d => d.parameters.length) = some 2 := ⟨by decide +kernel, by decide +kernel, by decide +kernel⟩
theorem hi_73 : Jvm.Cond.initialized "PlateroomprinterModel" ∈ lw_tbl := r_m_1_14
theorem hs_73 : Jvm.Cond.instanceMethod (⟨"PlateroomprinterModel", "token", "(II)I"⟩ : MethodName) ∈ lw_tbl := (r_k8 (List.mem_of_getElem? (i := 158) (by decide +kernel)))
theorem hy_74 : e_ml[74]? = some ((⟨"PlateroomprinterModel$Item", "<init>", "(IILjava/util/ArrayList;)V"⟩ : MethodName), prog_16_method_1_code, 4, none) := r_hy (by decide +kernel)
theorem hp_74 : plainName "PlateroomprinterModel$Item" = true := by decide +kernel
theorem hc_74 : Jvm.Cond.code (⟨"PlateroomprinterModel$Item", "<init>", "(IILjava/util/ArrayList;)V"⟩ : MethodName) prog_16_method_1_code 4 none ∈ lw_tbl := r_k9 (r_hc (l := tables_1_9) (i := 173) (by decide +kernel))
theorem hd_74 : "PlateroomprinterModel$Item" ≠ "java/lang/invoke/MethodHandle" ∧ "PlateroomprinterModel$Item" ≠ "java/lang/invoke/VarHandle" ∧ (parseMethodDescriptor "(IILjava/util/ArrayList;)V").map (fun d => d.parameters.length) = some 3 := ⟨by decide +kernel, by decide +kernel, by decide +kernel⟩
theorem hi_74 : Jvm.Cond.initialized "PlateroomprinterModel$Item" ∈ lw_tbl := r_m_1_36
theorem hs_74 : Jvm.Cond.instanceMethod (⟨"PlateroomprinterModel$Item", "<init>", "(IILjava/util/ArrayList;)V"⟩ : MethodName) ∈ lw_tbl := (r_k9 (List.mem_of_getElem? (i := 172) (by decide +kernel)))
theorem hy_75 : e_ml[75]? = some ((⟨"PlateroomprinterModel$Machine", "<init>", "()V"⟩ : MethodName), prog_17_method_1_code, 2, none) := r_hy (by decide +kernel)
theorem hp_75 : plainName "PlateroomprinterModel$Machine" = true := by decide +kernel
theorem hc_75 : Jvm.Cond.code (⟨"PlateroomprinterModel$Machine", "<init>", "()V"⟩ : MethodName) prog_17_method_1_code 2 none ∈ lw_tbl := r_k7 (r_hc (l := tables_1_7) (i := 171) (by decide +kernel))
theorem hd_75 : "PlateroomprinterModel$Machine" ≠ "java/lang/invoke/MethodHandle" ∧ "PlateroomprinterModel$Machine" ≠ "java/lang/invoke/VarHandle" ∧ (parseMethodDescriptor "()V").map (fun d => d.parameters.length) = some 0 := ⟨by decide +kernel, by decide +kernel, by decide +kernel⟩
theorem hi_75 : Jvm.Cond.initialized "PlateroomprinterModel$Machine" ∈ lw_tbl := r_m_1_15
theorem hs_75 : Jvm.Cond.instanceMethod (⟨"PlateroomprinterModel$Machine", "<init>", "()V"⟩ : MethodName) ∈ lw_tbl := (r_k7 (List.mem_of_getElem? (i := 170) (by decide +kernel)))
theorem hy_76 : e_ml[76]? = some ((⟨"PlateroomprinterModel$Machine", "copy", "()LPlateroomprinterModel$Machine;"⟩ : MethodName), prog_17_method_2_code, 3, (some (.object "PlateroomprinterModel$Machine"))) := r_hy (by decide +kernel)
theorem hp_76 : plainName "PlateroomprinterModel$Machine" = true := by decide +kernel
theorem hc_76 : Jvm.Cond.code (⟨"PlateroomprinterModel$Machine", "copy", "()LPlateroomprinterModel$Machine;"⟩ : MethodName) prog_17_method_2_code 3 (some (.object "PlateroomprinterModel$Machine")) ∈ lw_tbl := r_k8 (r_hc (l := tables_1_8) (i := 224) (by decide +kernel))
theorem hd_76 : "PlateroomprinterModel$Machine" ≠ "java/lang/invoke/MethodHandle" ∧ "PlateroomprinterModel$Machine" ≠ "java/lang/invoke/VarHandle" ∧ (parseMethodDescriptor "()LPlateroomprinterModel$Machine;").map (fun d => d.parameters.length) = some 0 := ⟨by decide +kernel, by decide +kernel, by decide +kernel⟩
theorem hi_76 : Jvm.Cond.initialized "PlateroomprinterModel$Machine" ∈ lw_tbl := r_m_1_15
theorem hs_76 : Jvm.Cond.instanceMethod (⟨"PlateroomprinterModel$Machine", "copy", "()LPlateroomprinterModel$Machine;"⟩ : MethodName) ∈ lw_tbl := (r_k8 (List.mem_of_getElem? (i := 222) (by decide +kernel)))
theorem hy_77 : e_ml[77]? = some ((⟨"PlateroomprinterModel$Row", "<init>", "(Ljava/util/ArrayList;)V"⟩ : MethodName), prog_19_method_1_code, 2, none) := r_hy (by decide +kernel)
theorem hp_77 : plainName "PlateroomprinterModel$Row" = true := by decide +kernel
theorem hc_77 : Jvm.Cond.code (⟨"PlateroomprinterModel$Row", "<init>", "(Ljava/util/ArrayList;)V"⟩ : MethodName) prog_19_method_1_code 2 none ∈ lw_tbl := r_k9 (r_hc (l := tables_1_9) (i := 59) (by decide +kernel))
theorem hd_77 : "PlateroomprinterModel$Row" ≠ "java/lang/invoke/MethodHandle" ∧ "PlateroomprinterModel$Row" ≠ "java/lang/invoke/VarHandle" ∧ (parseMethodDescriptor "(Ljava/util/ArrayList;)V").map (fun d => d.parameters.length) = some 1 := ⟨by decide +kernel, by decide +kernel, by decide +kernel⟩
theorem hi_77 : Jvm.Cond.initialized "PlateroomprinterModel$Row" ∈ lw_tbl := r_m_1_34
theorem hs_77 : Jvm.Cond.instanceMethod (⟨"PlateroomprinterModel$Row", "<init>", "(Ljava/util/ArrayList;)V"⟩ : MethodName) ∈ lw_tbl := (r_k9 (List.mem_of_getElem? (i := 58) (by decide +kernel)))
theorem hy_78 : e_ml[78]? = some ((⟨"PlateroomprinterModel$Row", "isAtEnd", "()Z"⟩ : MethodName), prog_19_method_2_code, 1, (some .boolean)) := r_hy (by decide +kernel)
theorem hp_78 : plainName "PlateroomprinterModel$Row" = true := by decide +kernel
theorem hc_78 : Jvm.Cond.code (⟨"PlateroomprinterModel$Row", "isAtEnd", "()Z"⟩ : MethodName) prog_19_method_2_code 1 (some .boolean) ∈ lw_tbl := r_k9 (r_hc (l := tables_1_9) (i := 125) (by decide +kernel))
theorem hd_78 : "PlateroomprinterModel$Row" ≠ "java/lang/invoke/MethodHandle" ∧ "PlateroomprinterModel$Row" ≠ "java/lang/invoke/VarHandle" ∧ (parseMethodDescriptor "()Z").map (fun d => d.parameters.length) = some 0 := ⟨by decide +kernel, by decide +kernel, by decide +kernel⟩
theorem hi_78 : Jvm.Cond.initialized "PlateroomprinterModel$Row" ∈ lw_tbl := r_m_1_34
theorem hs_78 : Jvm.Cond.instanceMethod (⟨"PlateroomprinterModel$Row", "isAtEnd", "()Z"⟩ : MethodName) ∈ lw_tbl := (r_k9 (List.mem_of_getElem? (i := 123) (by decide +kernel)))
theorem hy_79 : e_ml[79]? = some ((⟨"PlateroomprinterModel$Run", "<init>", "(LPlateroomprinterModel$Machine;Ljava/util/ArrayList;)V"⟩ : MethodName), prog_20_method_1_code, 3, none) := r_hy (by decide +kernel)
theorem hp_79 : plainName "PlateroomprinterModel$Run" = true := by decide +kernel
theorem hc_79 : Jvm.Cond.code (⟨"PlateroomprinterModel$Run", "<init>", "(LPlateroomprinterModel$Machine;Ljava/util/ArrayList;)V"⟩ : MethodName) prog_20_method_1_code 3 none ∈ lw_tbl := r_k9 (r_hc (l := tables_1_9) (i := 51) (by decide +kernel))
theorem hd_79 : "PlateroomprinterModel$Run" ≠ "java/lang/invoke/MethodHandle" ∧ "PlateroomprinterModel$Run" ≠ "java/lang/invoke/VarHandle" ∧ (parseMethodDescriptor "(LPlateroomprinterModel$Machine;Ljava/util/ArrayList;)V").map (fun d => d.parameters.length) = some 2 := ⟨by decide +kernel, by decide +kernel, by decide +kernel⟩
theorem hi_79 : Jvm.Cond.initialized "PlateroomprinterModel$Run" ∈ lw_tbl := r_m_1_33
theorem hs_79 : Jvm.Cond.instanceMethod (⟨"PlateroomprinterModel$Run", "<init>", "(LPlateroomprinterModel$Machine;Ljava/util/ArrayList;)V"⟩ : MethodName) ∈ lw_tbl := (r_k9 (List.mem_of_getElem? (i := 50) (by decide +kernel)))
theorem hy_80 : e_ml[80]? = some ((⟨"PlateroomprinterModel$Run", "all", "()V"⟩ : MethodName), prog_20_method_3_code, 2, none) := r_hy (by decide +kernel)
theorem hp_80 : plainName "PlateroomprinterModel$Run" = true := by decide +kernel
theorem hc_80 : Jvm.Cond.code (⟨"PlateroomprinterModel$Run", "all", "()V"⟩ : MethodName) prog_20_method_3_code 2 none ∈ lw_tbl := r_k9 (r_hc (l := tables_1_9) (i := 110) (by decide +kernel))
theorem hd_80 : "PlateroomprinterModel$Run" ≠ "java/lang/invoke/MethodHandle" ∧ "PlateroomprinterModel$Run" ≠ "java/lang/invoke/VarHandle" ∧ (parseMethodDescriptor "()V").map (fun d => d.parameters.length) = some 0 := ⟨by decide +kernel, by decide +kernel, by decide +kernel⟩
theorem hi_80 : Jvm.Cond.initialized "PlateroomprinterModel$Run" ∈ lw_tbl := r_m_1_33
theorem hs_80 : Jvm.Cond.instanceMethod (⟨"PlateroomprinterModel$Run", "all", "()V"⟩ : MethodName) ∈ lw_tbl := (r_k9 (List.mem_of_getElem? (i := 108) (by decide +kernel)))
theorem hy_81 : e_ml[81]? = some ((⟨"PlateroomprinterModel$Run", "any", "()LPlateroomprinterModel$Item;"⟩ : MethodName), prog_20_method_10_code, 1, (some (.object "PlateroomprinterModel$Item"))) := r_hy (by decide +kernel)
theorem hp_81 : plainName "PlateroomprinterModel$Run" = true := by decide +kernel
theorem hc_81 : Jvm.Cond.code (⟨"PlateroomprinterModel$Run", "any", "()LPlateroomprinterModel$Item;"⟩ : MethodName) prog_20_method_10_code 1 (some (.object "PlateroomprinterModel$Item")) ∈ lw_tbl := r_k9 (r_hc (l := tables_1_9) (i := 217) (by decide +kernel))
theorem hd_81 : "PlateroomprinterModel$Run" ≠ "java/lang/invoke/MethodHandle" ∧ "PlateroomprinterModel$Run" ≠ "java/lang/invoke/VarHandle" ∧ (parseMethodDescriptor "()LPlateroomprinterModel$Item;").map (fun d => d.parameters.length) = some 0 := ⟨by decide +kernel, by decide +kernel, by decide +kernel⟩
theorem hi_81 : Jvm.Cond.initialized "PlateroomprinterModel$Run" ∈ lw_tbl := r_m_1_33
theorem hs_81 : Jvm.Cond.instanceMethod (⟨"PlateroomprinterModel$Run", "any", "()LPlateroomprinterModel$Item;"⟩ : MethodName) ∈ lw_tbl := (r_k9 (List.mem_of_getElem? (i := 216) (by decide +kernel)))
theorem hy_82 : e_ml[82]? = some ((⟨"PlateroomprinterModel$Run", "begin", "(LPlateroomprinterModel$Row;)V"⟩ : MethodName), prog_20_method_20_code, 2, none) := r_hy (by decide +kernel)
theorem hp_82 : plainName "PlateroomprinterModel$Run" = true := by decide +kernel
theorem hc_82 : Jvm.Cond.code (⟨"PlateroomprinterModel$Run", "begin", "(LPlateroomprinterModel$Row;)V"⟩ : MethodName) prog_20_method_20_code 2 none ∈ lw_tbl := r_k9 (r_hc (l := tables_1_9) (i := 237) (by decide +kernel))
theorem hd_82 : "PlateroomprinterModel$Run" ≠ "java/lang/invoke/MethodHandle" ∧ "PlateroomprinterModel$Run" ≠ "java/lang/invoke/VarHandle" ∧ (parseMethodDescriptor "(LPlateroomprinterModel$Row;)V").map (fun d => d.parameters.length) = some 1 := ⟨by decide +kernel, by decide +kernel, by decide +kernel⟩
theorem hi_82 : Jvm.Cond.initialized "PlateroomprinterModel$Run" ∈ lw_tbl := r_m_1_33
theorem hs_82 : Jvm.Cond.instanceMethod (⟨"PlateroomprinterModel$Run", "begin", "(LPlateroomprinterModel$Row;)V"⟩ : MethodName) ∈ lw_tbl := (r_k9 (List.mem_of_getElem? (i := 236) (by decide +kernel)))
theorem hy_83 : e_ml[83]? = some ((⟨"PlateroomprinterModel$Run", "control", "(I)V"⟩ : MethodName), prog_20_method_19_code, 14, none) := r_hy (by decide +kernel)
theorem hp_83 : plainName "PlateroomprinterModel$Run" = true := by decide +kernel
theorem hc_83 : Jvm.Cond.code (⟨"PlateroomprinterModel$Run", "control", "(I)V"⟩ : MethodName) prog_20_method_19_code 14 none ∈ lw_tbl := r_k9 (r_hc (l := tables_1_9) (i := 225) (by decide +kernel))
theorem hd_83 : "PlateroomprinterModel$Run" ≠ "java/lang/invoke/MethodHandle" ∧ "PlateroomprinterModel$Run" ≠ "java/lang/invoke/VarHandle" ∧ (parseMethodDescriptor "(I)V").map (fun d => d.parameters.length) = some 1 := ⟨by decide +kernel, by decide +kernel, by decide +kernel⟩
theorem hi_83 : Jvm.Cond.initialized "PlateroomprinterModel$Run" ∈ lw_tbl := r_m_1_33
theorem hs_83 : Jvm.Cond.instanceMethod (⟨"PlateroomprinterModel$Run", "control", "(I)V"⟩ : MethodName) ∈ lw_tbl := (r_k9 (List.mem_of_getElem? (i := 224) (by decide +kernel)))
theorem hy_84 : e_ml[84]? = some ((⟨"PlateroomprinterModel$Run", "enter", "(LPlateroomprinterModel$Row;)V"⟩ : MethodName), prog_20_method_7_code, 2, none) := r_hy (by decide +kernel)
theorem hp_84 : plainName "PlateroomprinterModel$Run" = true := by decide +kernel
theorem hc_84 : Jvm.Cond.code (⟨"PlateroomprinterModel$Run", "enter", "(LPlateroomprinterModel$Row;)V"⟩ : MethodName) prog_20_method_7_code 2 none ∈ lw_tbl := r_k9 (r_hc (l := tables_1_9) (i := 229) (by decide +kernel))
theorem hd_84 : "PlateroomprinterModel$Run" ≠ "java/lang/invoke/MethodHandle" ∧ "PlateroomprinterModel$Run" ≠ "java/lang/invoke/VarHandle" ∧ (parseMethodDescriptor "(LPlateroomprinterModel$Row;)V").map (fun d => d.parameters.length) = some 1 := ⟨by decide +kernel, by decide +kernel, by decide +kernel⟩
theorem hi_84 : Jvm.Cond.initialized "PlateroomprinterModel$Run" ∈ lw_tbl := r_m_1_33
theorem hs_84 : Jvm.Cond.instanceMethod (⟨"PlateroomprinterModel$Run", "enter", "(LPlateroomprinterModel$Row;)V"⟩ : MethodName) ∈ lw_tbl := (r_k9 (List.mem_of_getElem? (i := 228) (by decide +kernel)))
theorem hy_85 : e_ml[85]? = some ((⟨"PlateroomprinterModel$Run", "isOn", "()Z"⟩ : MethodName), prog_20_method_4_code, 2, (some .boolean)) := r_hy (by decide +kernel)
theorem hp_85 : plainName "PlateroomprinterModel$Run" = true := by decide +kernel
theorem hc_85 : Jvm.Cond.code (⟨"PlateroomprinterModel$Run", "isOn", "()Z"⟩ : MethodName) prog_20_method_4_code 2 (some .boolean) ∈ lw_tbl := r_k9 (r_hc (l := tables_1_9) (i := 114) (by decide +kernel))
theorem hd_85 : "PlateroomprinterModel$Run" ≠ "java/lang/invoke/MethodHandle" ∧ "PlateroomprinterModel$Run" ≠ "java/lang/invoke/VarHandle" ∧ (parseMethodDescriptor "()Z").map (fun d => d.parameters.length) = some 0 := ⟨by decide +kernel, by decide +kernel, by decide +kernel⟩
theorem hi_85 : Jvm.Cond.initialized "PlateroomprinterModel$Run" ∈ lw_tbl := r_m_1_33
theorem hs_85 : Jvm.Cond.instanceMethod (⟨"PlateroomprinterModel$Run", "isOn", "()Z"⟩ : MethodName) ∈ lw_tbl := (r_k9 (List.mem_of_getElem? (i := 113) (by decide +kernel)))
theorem hy_86 : e_ml[86]? = some ((⟨"PlateroomprinterModel$Run", "isRound", "(LPlateroomprinterModel$Row;)Z"⟩ : MethodName), prog_20_method_5_code, 2, (some .boolean)) := r_hy (by decide +kernel)
theorem hp_86 : plainName "PlateroomprinterModel$Run" = true := by decide +kernel
theorem hc_86 : Jvm.Cond.code (⟨"PlateroomprinterModel$Run", "isRound", "(LPlateroomprinterModel$Row;)Z"⟩ : MethodName) prog_20_method_5_code 2 (some .boolean) ∈ lw_tbl := r_k9 (r_hc (l := tables_1_9) (i := 130) (by decide +kernel))
theorem hd_86 : "PlateroomprinterModel$Run" ≠ "java/lang/invoke/MethodHandle" ∧ "PlateroomprinterModel$Run" ≠ "java/lang/invoke/VarHandle" ∧ (parseMethodDescriptor "(LPlateroomprinterModel$Row;)Z").map (fun d => d.parameters.length) = some 1 := ⟨by decide +kernel, by decide +kernel, by decide +kernel⟩
theorem hi_86 : Jvm.Cond.initialized "PlateroomprinterModel$Run" ∈ lw_tbl := r_m_1_33
theorem hs_86 : Jvm.Cond.instanceMethod (⟨"PlateroomprinterModel$Run", "isRound", "(LPlateroomprinterModel$Row;)Z"⟩ : MethodName) ∈ lw_tbl := (r_k9 (List.mem_of_getElem? (i := 129) (by decide +kernel)))
theorem hy_87 : e_ml[87]? = some ((⟨"PlateroomprinterModel$Run", "number", "(II)I"⟩ : MethodName), prog_20_method_13_code, 4, (some .int)) := r_hy (by decide +kernel)
theorem hp_87 : plainName "PlateroomprinterModel$Run" = true := by decide +kernel
theorem hc_87 : Jvm.Cond.code (⟨"PlateroomprinterModel$Run", "number", "(II)I"⟩ : MethodName) prog_20_method_13_code 4 (some .int) ∈ lw_tbl := r_k9 (r_hc (l := tables_1_9) (i := 233) (by decide +kernel))
theorem hd_87 : "PlateroomprinterModel$Run" ≠ "java/lang/invoke/MethodHandle" ∧ "PlateroomprinterModel$Run" ≠ "java/lang/invoke/VarHandle" ∧ (parseMethodDescriptor "(II)I").map (fun d => d.parameters.length) = some 2 := ⟨by decide +kernel, by decide +kernel, by decide +kernel⟩
theorem hi_87 : Jvm.Cond.initialized "PlateroomprinterModel$Run" ∈ lw_tbl := r_m_1_33
theorem hs_87 : Jvm.Cond.instanceMethod (⟨"PlateroomprinterModel$Run", "number", "(II)I"⟩ : MethodName) ∈ lw_tbl := (r_k9 (List.mem_of_getElem? (i := 232) (by decide +kernel)))
theorem hy_88 : e_ml[88]? = some ((⟨"PlateroomprinterModel$Run", "numbers", "(I)[J"⟩ : MethodName), prog_20_method_12_code, 4, (some (.array .long))) := r_hy (by decide +kernel)
theorem hp_88 : plainName "PlateroomprinterModel$Run" = true := by decide +kernel
theorem hc_88 : Jvm.Cond.code (⟨"PlateroomprinterModel$Run", "numbers", "(I)[J"⟩ : MethodName) prog_20_method_12_code 4 (some (.array .long)) ∈ lw_tbl := r_k9 (r_hc (l := tables_1_9) (i := 209) (by decide +kernel))
theorem hd_88 : "PlateroomprinterModel$Run" ≠ "java/lang/invoke/MethodHandle" ∧ "PlateroomprinterModel$Run" ≠ "java/lang/invoke/VarHandle" ∧ (parseMethodDescriptor "(I)[J").map (fun d => d.parameters.length) = some 1 := ⟨by decide +kernel, by decide +kernel, by decide +kernel⟩
theorem hi_88 : Jvm.Cond.initialized "PlateroomprinterModel$Run" ∈ lw_tbl := r_m_1_33
theorem hs_88 : Jvm.Cond.instanceMethod (⟨"PlateroomprinterModel$Run", "numbers", "(I)[J"⟩ : MethodName) ∈ lw_tbl := (r_k9 (List.mem_of_getElem? (i := 208) (by decide +kernel)))
theorem hy_89 : e_ml[89]? = some ((⟨"PlateroomprinterModel$Run", "order", "(I)V"⟩ : MethodName), prog_20_method_17_code, 2, none) := r_hy (by decide +kernel)
theorem hp_89 : plainName "PlateroomprinterModel$Run" = true := by decide +kernel
theorem hc_89 : Jvm.Cond.code (⟨"PlateroomprinterModel$Run", "order", "(I)V"⟩ : MethodName) prog_20_method_17_code 2 none ∈ lw_tbl := r_k9 (r_hc (l := tables_1_9) (i := 201) (by decide +kernel))
theorem hd_89 : "PlateroomprinterModel$Run" ≠ "java/lang/invoke/MethodHandle" ∧ "PlateroomprinterModel$Run" ≠ "java/lang/invoke/VarHandle" ∧ (parseMethodDescriptor "(I)V").map (fun d => d.parameters.length) = some 1 := ⟨by decide +kernel, by decide +kernel, by decide +kernel⟩
theorem hi_89 : Jvm.Cond.initialized "PlateroomprinterModel$Run" ∈ lw_tbl := r_m_1_33
theorem hs_89 : Jvm.Cond.instanceMethod (⟨"PlateroomprinterModel$Run", "order", "(I)V"⟩ : MethodName) ∈ lw_tbl := (r_k9 (List.mem_of_getElem? (i := 200) (by decide +kernel)))
theorem hy_90 : e_ml[90]? = some ((⟨"PlateroomprinterModel$Run", "page", "()V"⟩ : MethodName), prog_20_method_47_code, 1, none) := r_hy (by decide +kernel)
theorem hp_90 : plainName "PlateroomprinterModel$Run" = true := by decide +kernel
theorem hc_90 : Jvm.Cond.code (⟨"PlateroomprinterModel$Run", "page", "()V"⟩ : MethodName) prog_20_method_47_code 1 none ∈ lw_tbl := r_k12 (r_hc (l := tables_1_12) (i := 99) (by decide +kernel))
theorem hd_90 : "PlateroomprinterModel$Run" ≠ "java/lang/invoke/MethodHandle" ∧ "PlateroomprinterModel$Run" ≠ "java/lang/invoke/VarHandle" ∧ (parseMethodDescriptor "()V").map (fun d => d.parameters.length) = some 0 := ⟨by decide +kernel, by decide +kernel, by decide +kernel⟩
theorem hi_90 : Jvm.Cond.initialized "PlateroomprinterModel$Run" ∈ lw_tbl := r_m_1_33
theorem hs_90 : Jvm.Cond.instanceMethod (⟨"PlateroomprinterModel$Run", "page", "()V"⟩ : MethodName) ∈ lw_tbl := (r_k12 (List.mem_of_getElem? (i := 98) (by decide +kernel)))
theorem hy_91 : e_ml[91]? = some ((⟨"PlateroomprinterModel$Run", "paint", "(I)V"⟩ : MethodName), prog_20_method_38_code, 8, none) := r_hy (by decide +kernel)
theorem hp_91 : plainName "PlateroomprinterModel$Run" = true := by decide +kernel
theorem hc_91 : Jvm.Cond.code (⟨"PlateroomprinterModel$Run", "paint", "(I)V"⟩ : MethodName) prog_20_method_38_code 8 none ∈ lw_tbl := r_k10 (r_hc (l := tables_1_10) (i := 134) (by decide +kernel))
theorem hd_91 : "PlateroomprinterModel$Run" ≠ "java/lang/invoke/MethodHandle" ∧ "PlateroomprinterModel$Run" ≠ "java/lang/invoke/VarHandle" ∧ (parseMethodDescriptor "(I)V").map (fun d => d.parameters.length) = some 1 := ⟨by decide +kernel, by decide +kernel, by decide +kernel⟩
theorem hi_91 : Jvm.Cond.initialized "PlateroomprinterModel$Run" ∈ lw_tbl := r_m_1_33
theorem hs_91 : Jvm.Cond.instanceMethod (⟨"PlateroomprinterModel$Run", "paint", "(I)V"⟩ : MethodName) ∈ lw_tbl := (r_k10 (List.mem_of_getElem? (i := 133) (by decide +kernel)))
theorem hy_92 : e_ml[92]? = some ((⟨"PlateroomprinterModel$Run", "procedure", "(LPlateroomprinterModel$Row;)LPlateroomprinterModel$Item;"⟩ : MethodName), prog_20_method_16_code, 5, (some (.object "PlateroomprinterModel$Item"))) := r_hy (by decide +kernel)
theorem hp_92 : plainName "PlateroomprinterModel$Run" = true := by decide +kernel
theorem hc_92 : Jvm.Cond.code (⟨"PlateroomprinterModel$Run", "procedure", "(LPlateroomprinterModel$Row;)LPlateroomprinterModel$Item;"⟩ : MethodName) prog_20_method_16_code 5 (some (.object "PlateroomprinterModel$Item")) ∈ lw_tbl := r_k12 (r_hc (l := tables_1_12) (i := 107) (by decide +kernel))
theorem hd_92 : "PlateroomprinterModel$Run" ≠ "java/lang/invoke/MethodHandle" ∧ "PlateroomprinterModel$Run" ≠ "java/lang/invoke/VarHandle" ∧ (parseMethodDescriptor "(LPlateroomprinterModel$Row;)LPlateroomprinterModel$Item;").map (fun d => d.parameters.length) = some 1 := ⟨by decide +kernel, by decide +kernel, by decide +kernel⟩
theorem hi_92 : Jvm.Cond.initialized "PlateroomprinterModel$Run" ∈ lw_tbl := r_m_1_33
theorem hs_92 : Jvm.Cond.instanceMethod (⟨"PlateroomprinterModel$Run", "procedure", "(LPlateroomprinterModel$Row;)LPlateroomprinterModel$Item;"⟩ : MethodName) ∈ lw_tbl := (r_k12 (List.mem_of_getElem? (i := 106) (by decide +kernel)))
theorem hy_93 : e_ml[93]? = some ((⟨"PlateroomprinterModel$Run", "push", "(J)V"⟩ : MethodName), prog_20_method_9_code, 3, none) := r_hy (by decide +kernel)
theorem hp_93 : plainName "PlateroomprinterModel$Run" = true := by decide +kernel
theorem hc_93 : Jvm.Cond.code (⟨"PlateroomprinterModel$Run", "push", "(J)V"⟩ : MethodName) prog_20_method_9_code 3 none ∈ lw_tbl := r_k9 (r_hc (l := tables_1_9) (i := 138) (by decide +kernel))
theorem hd_93 : "PlateroomprinterModel$Run" ≠ "java/lang/invoke/MethodHandle" ∧ "PlateroomprinterModel$Run" ≠ "java/lang/invoke/VarHandle" ∧ (parseMethodDescriptor "(J)V").map (fun d => d.parameters.length) = some 1 := ⟨by decide +kernel, by decide +kernel, by decide +kernel⟩
theorem hi_93 : Jvm.Cond.initialized "PlateroomprinterModel$Run" ∈ lw_tbl := r_m_1_33
theorem hs_93 : Jvm.Cond.instanceMethod (⟨"PlateroomprinterModel$Run", "push", "(J)V"⟩ : MethodName) ∈ lw_tbl := (r_k9 (List.mem_of_getElem? (i := 137) (by decide +kernel)))
theorem hy_94 : e_ml[94]? = some ((⟨"PlateroomprinterModel$Run", "put", "(LPlateroomprinterModel$Item;)V"⟩ : MethodName), prog_20_method_8_code, 2, none) := r_hy (by decide +kernel)
theorem hp_94 : plainName "PlateroomprinterModel$Run" = true := by decide +kernel
theorem hc_94 : Jvm.Cond.code (⟨"PlateroomprinterModel$Run", "put", "(LPlateroomprinterModel$Item;)V"⟩ : MethodName) prog_20_method_8_code 2 none ∈ lw_tbl := r_k9 (r_hc (l := tables_1_9) (i := 191) (by decide +kernel))
theorem hd_94 : "PlateroomprinterModel$Run" ≠ "java/lang/invoke/MethodHandle" ∧ "PlateroomprinterModel$Run" ≠ "java/lang/invoke/VarHandle" ∧ (parseMethodDescriptor "(LPlateroomprinterModel$Item;)V").map (fun d => d.parameters.length) = some 1 := ⟨by decide +kernel, by decide +kernel, by decide +kernel⟩
theorem hi_94 : Jvm.Cond.initialized "PlateroomprinterModel$Run" ∈ lw_tbl := r_m_1_33
theorem hs_94 : Jvm.Cond.instanceMethod (⟨"PlateroomprinterModel$Run", "put", "(LPlateroomprinterModel$Item;)V"⟩ : MethodName) ∈ lw_tbl := (r_k9 (List.mem_of_getElem? (i := 190) (by decide +kernel)))
theorem hy_95 : e_ml[95]? = some ((⟨"PlateroomprinterModel$Run", "round", "(LPlateroomprinterModel$Row;)V"⟩ : MethodName), prog_20_method_6_code, 2, none) := r_hy (by decide +kernel)
theorem hp_95 : plainName "PlateroomprinterModel$Run" = true := by decide +kernel
theorem hc_95 : Jvm.Cond.code (⟨"PlateroomprinterModel$Run", "round", "(LPlateroomprinterModel$Row;)V"⟩ : MethodName) prog_20_method_6_code 2 none ∈ lw_tbl := r_k9 (r_hc (l := tables_1_9) (i := 134) (by decide +kernel))
theorem hd_95 : "PlateroomprinterModel$Run" ≠ "java/lang/invoke/MethodHandle" ∧ "PlateroomprinterModel$Run" ≠ "java/lang/invoke/VarHandle" ∧ (parseMethodDescriptor "(LPlateroomprinterModel$Row;)V").map (fun d => d.parameters.length) = some 1 := ⟨by decide +kernel, by decide +kernel, by decide +kernel⟩
theorem hi_95 : Jvm.Cond.initialized "PlateroomprinterModel$Run" ∈ lw_tbl := r_m_1_33
theorem hs_95 : Jvm.Cond.instanceMethod (⟨"PlateroomprinterModel$Run", "round", "(LPlateroomprinterModel$Row;)V"⟩ : MethodName) ∈ lw_tbl := (r_k9 (List.mem_of_getElem? (i := 133) (by decide +kernel)))
theorem hy_96 : e_ml[96]? = some ((⟨"PlateroomprinterModel$Run", "sorted", "(I)LPlateroomprinterModel$Item;"⟩ : MethodName), prog_20_method_11_code, 3, (some (.object "PlateroomprinterModel$Item"))) := r_hy (by decide +kernel)
theorem hp_96 : plainName "PlateroomprinterModel$Run" = true := by decide +kernel
theorem hc_96 : Jvm.Cond.code (⟨"PlateroomprinterModel$Run", "sorted", "(I)LPlateroomprinterModel$Item;"⟩ : MethodName) prog_20_method_11_code 3 (some (.object "PlateroomprinterModel$Item")) ∈ lw_tbl := r_k9 (r_hc (l := tables_1_9) (i := 213) (by decide +kernel))
theorem hd_96 : "PlateroomprinterModel$Run" ≠ "java/lang/invoke/MethodHandle" ∧ "PlateroomprinterModel$Run" ≠ "java/lang/invoke/VarHandle" ∧ (parseMethodDescriptor "(I)LPlateroomprinterModel$Item;").map (fun d => d.parameters.length) = some 1 := ⟨by decide +kernel, by decide +kernel, by decide +kernel⟩
theorem hi_96 : Jvm.Cond.initialized "PlateroomprinterModel$Run" ∈ lw_tbl := r_m_1_33
theorem hs_96 : Jvm.Cond.instanceMethod (⟨"PlateroomprinterModel$Run", "sorted", "(I)LPlateroomprinterModel$Item;"⟩ : MethodName) ∈ lw_tbl := (r_k9 (List.mem_of_getElem? (i := 212) (by decide +kernel)))
theorem hy_97 : e_ml[97]? = some ((⟨"PlateroomprinterModel$Run", "token", "(LPlateroomprinterModel$Row;[I)V"⟩ : MethodName), prog_20_method_14_code, 3, none) := r_hy (by decide +kernel)
theorem hp_97 : plainName "PlateroomprinterModel$Run" = true := by decide +kernel
theorem hc_97 : Jvm.Cond.code (⟨"PlateroomprinterModel$Run", "token", "(LPlateroomprinterModel$Row;[I)V"⟩ : MethodName) prog_20_method_14_code 3 none ∈ lw_tbl := r_k9 (r_hc (l := tables_1_9) (i := 197) (by decide +kernel))
theorem hd_97 : "PlateroomprinterModel$Run" ≠ "java/lang/invoke/MethodHandle" ∧ "PlateroomprinterModel$Run" ≠ "java/lang/invoke/VarHandle" ∧ (parseMethodDescriptor "(LPlateroomprinterModel$Row;[I)V").map (fun d => d.parameters.length) = some 2 := ⟨by decide +kernel, by decide +kernel, by decide +kernel⟩
theorem hi_97 : Jvm.Cond.initialized "PlateroomprinterModel$Run" ∈ lw_tbl := r_m_1_33
theorem hs_97 : Jvm.Cond.instanceMethod (⟨"PlateroomprinterModel$Run", "token", "(LPlateroomprinterModel$Row;[I)V"⟩ : MethodName) ∈ lw_tbl := (r_k9 (List.mem_of_getElem? (i := 196) (by decide +kernel)))
theorem hy_98 : e_ml[98]? = some ((⟨"PlateroomprinterModel$Run", "top", "()LPlateroomprinterModel$Row;"⟩ : MethodName), prog_20_method_2_code, 1, (some (.object "PlateroomprinterModel$Row"))) := r_hy (by decide +kernel)
theorem hp_98 : plainName "PlateroomprinterModel$Run" = true := by decide +kernel
theorem hc_98 : Jvm.Cond.code (⟨"PlateroomprinterModel$Run", "top", "()LPlateroomprinterModel$Row;"⟩ : MethodName) prog_20_method_2_code 1 (some (.object "PlateroomprinterModel$Row")) ∈ lw_tbl := r_k9 (r_hc (l := tables_1_9) (i := 119) (by decide +kernel))
theorem hd_98 : "PlateroomprinterModel$Run" ≠ "java/lang/invoke/MethodHandle" ∧ "PlateroomprinterModel$Run" ≠ "java/lang/invoke/VarHandle" ∧ (parseMethodDescriptor "()LPlateroomprinterModel$Row;").map (fun d => d.parameters.length) = some 0 := ⟨by decide +kernel, by decide +kernel, by decide +kernel⟩
theorem hi_98 : Jvm.Cond.initialized "PlateroomprinterModel$Run" ∈ lw_tbl := r_m_1_33
theorem hs_98 : Jvm.Cond.instanceMethod (⟨"PlateroomprinterModel$Run", "top", "()LPlateroomprinterModel$Row;"⟩ : MethodName) ∈ lw_tbl := (r_k9 (List.mem_of_getElem? (i := 118) (by decide +kernel)))
theorem hy_99 : e_ml[99]? = some ((⟨"PlateroomprinterModel$State", "<init>", "()V"⟩ : MethodName), prog_21_method_1_code, 2, none) := r_hy (by decide +kernel)
theorem hp_99 : plainName "PlateroomprinterModel$State" = true := by decide +kernel
theorem hc_99 : Jvm.Cond.code (⟨"PlateroomprinterModel$State", "<init>", "()V"⟩ : MethodName) prog_21_method_1_code 2 none ∈ lw_tbl := r_k7 (r_hc (l := tables_1_7) (i := 208) (by decide +kernel))
theorem hd_99 : "PlateroomprinterModel$State" ≠ "java/lang/invoke/MethodHandle" ∧ "PlateroomprinterModel$State" ≠ "java/lang/invoke/VarHandle" ∧ (parseMethodDescriptor "()V").map (fun d => d.parameters.length) = some 0 := ⟨by decide +kernel, by decide +kernel, by decide +kernel⟩
theorem hi_99 : Jvm.Cond.initialized "PlateroomprinterModel$State" ∈ lw_tbl := r_m_1_19
theorem hs_99 : Jvm.Cond.instanceMethod (⟨"PlateroomprinterModel$State", "<init>", "()V"⟩ : MethodName) ∈ lw_tbl := (r_k7 (List.mem_of_getElem? (i := 207) (by decide +kernel)))
theorem hy_100 : e_ml[100]? = some ((⟨"PlateroomprinterModel$State", "copy", "()LPlateroomprinterModel$State;"⟩ : MethodName), prog_21_method_2_code, 3, (some (.object "PlateroomprinterModel$State"))) := r_hy (by decide +kernel)
theorem hp_100 : plainName "PlateroomprinterModel$State" = true := by decide +kernel
theorem hc_100 : Jvm.Cond.code (⟨"PlateroomprinterModel$State", "copy", "()LPlateroomprinterModel$State;"⟩ : MethodName) prog_21_method_2_code 3 (some (.object "PlateroomprinterModel$State")) ∈ lw_tbl := r_k8 (r_hc (l := tables_1_8) (i := 239) (by decide +kernel))
theorem hd_100 : "PlateroomprinterModel$State" ≠ "java/lang/invoke/MethodHandle" ∧ "PlateroomprinterModel$State" ≠ "java/lang/invoke/VarHandle" ∧ (parseMethodDescriptor "()LPlateroomprinterModel$State;").map (fun d => d.parameters.length) = some 0 := ⟨by decide +kernel, by decide +kernel, by decide +kernel⟩
theorem hi_100 : Jvm.Cond.initialized "PlateroomprinterModel$State" ∈ lw_tbl := r_m_1_19
theorem hs_100 : Jvm.Cond.instanceMethod (⟨"PlateroomprinterModel$State", "copy", "()LPlateroomprinterModel$State;"⟩ : MethodName) ∈ lw_tbl := (r_k8 (List.mem_of_getElem? (i := 237) (by decide +kernel)))
theorem hy_101 : e_ml[101]? = some ((⟨"java/lang/Math", "max", "(II)I"⟩ : MethodName), prog_37_method_65_code, 2, (some .int)) := r_hy (by decide +kernel)
theorem hp_101 : plainFor (⟨"java/lang/Math", "max", "(II)I"⟩ : MethodName) = true := by decide +kernel
theorem hc_101 : Jvm.Cond.code (⟨"java/lang/Math", "max", "(II)I"⟩ : MethodName) prog_37_method_65_code 2 (some .int) ∈ lw_tbl := r_k1 (r_hc (l := tables_1_1) (i := 93) (by decide +kernel))
theorem hd_101 : "java/lang/Math" ≠ "java/lang/invoke/MethodHandle" ∧ "java/lang/Math" ≠ "java/lang/invoke/VarHandle" ∧ (parseMethodDescriptor "(II)I").map (fun d => d.parameters.length) = some 2 := ⟨by decide +kernel, by decide +kernel, by decide +kernel⟩
theorem hi_101 : Jvm.Cond.initialized "java/lang/Math" ∈ lw_tbl := r_m_1_5
theorem hs_101 : Jvm.Cond.static (⟨"java/lang/Math", "max", "(II)I"⟩ : MethodName) ∈ lw_tbl := r_m_1_92
theorem hy_102 : e_ml[102]? = some ((⟨"java/lang/Math", "min", "(II)I"⟩ : MethodName), prog_37_method_69_code, 2, (some .int)) := r_hy (by decide +kernel)
theorem hp_102 : plainFor (⟨"java/lang/Math", "min", "(II)I"⟩ : MethodName) = true := by decide +kernel
theorem hc_102 : Jvm.Cond.code (⟨"java/lang/Math", "min", "(II)I"⟩ : MethodName) prog_37_method_69_code 2 (some .int) ∈ lw_tbl := r_k2 (r_hc (l := tables_1_2) (i := 49) (by decide +kernel))
theorem hd_102 : "java/lang/Math" ≠ "java/lang/invoke/MethodHandle" ∧ "java/lang/Math" ≠ "java/lang/invoke/VarHandle" ∧ (parseMethodDescriptor "(II)I").map (fun d => d.parameters.length) = some 2 := ⟨by decide +kernel, by decide +kernel, by decide +kernel⟩
theorem hi_102 : Jvm.Cond.initialized "java/lang/Math" ∈ lw_tbl := r_m_1_5
theorem hs_102 : Jvm.Cond.static (⟨"java/lang/Math", "min", "(II)I"⟩ : MethodName) ∈ lw_tbl := r_m_2_48
theorem hy_103 : e_ml[103]? = some ((⟨"java/util/AbstractCollection", "<init>", "()V"⟩ : MethodName), prog_48_method_1_code, 1, none) := r_hy (by decide +kernel)
theorem hp_103 : plainName "java/util/AbstractCollection" = true := by decide +kernel
theorem hc_103 : Jvm.Cond.code (⟨"java/util/AbstractCollection", "<init>", "()V"⟩ : MethodName) prog_48_method_1_code 1 none ∈ lw_tbl := r_k7 (r_hc (l := tables_1_7) (i := 183) (by decide +kernel))
theorem hd_103 : "java/util/AbstractCollection" ≠ "java/lang/invoke/MethodHandle" ∧ "java/util/AbstractCollection" ≠ "java/lang/invoke/VarHandle" ∧ (parseMethodDescriptor "()V").map (fun d => d.parameters.length) = some 0 := ⟨by decide +kernel, by decide +kernel, by decide +kernel⟩
theorem hi_103 : Jvm.Cond.initialized "java/util/AbstractCollection" ∈ lw_tbl := (r_k1 (List.mem_of_getElem? (i := 16) (by decide +kernel)))
theorem hs_103 : Jvm.Cond.instanceMethod (⟨"java/util/AbstractCollection", "<init>", "()V"⟩ : MethodName) ∈ lw_tbl := (r_k7 (List.mem_of_getElem? (i := 182) (by decide +kernel)))
theorem hy_104 : e_ml[104]? = some ((⟨"java/util/AbstractList", "<init>", "()V"⟩ : MethodName), prog_49_method_1_code, 1, none) := r_hy (by decide +kernel)
theorem hp_104 : plainName "java/util/AbstractList" = true := by decide +kernel
theorem hc_104 : Jvm.Cond.code (⟨"java/util/AbstractList", "<init>", "()V"⟩ : MethodName) prog_49_method_1_code 1 none ∈ lw_tbl := r_k7 (r_hc (l := tables_1_7) (i := 180) (by decide +kernel))
theorem hd_104 : "java/util/AbstractList" ≠ "java/lang/invoke/MethodHandle" ∧ "java/util/AbstractList" ≠ "java/lang/invoke/VarHandle" ∧ (parseMethodDescriptor "()V").map (fun d => d.parameters.length) = some 0 := ⟨by decide +kernel, by decide +kernel, by decide +kernel⟩
theorem hi_104 : Jvm.Cond.initialized "java/util/AbstractList" ∈ lw_tbl := (r_k1 (List.mem_of_getElem? (i := 17) (by decide +kernel)))
theorem hs_104 : Jvm.Cond.instanceMethod (⟨"java/util/AbstractList", "<init>", "()V"⟩ : MethodName) ∈ lw_tbl := (r_k7 (List.mem_of_getElem? (i := 179) (by decide +kernel)))
theorem hy_105 : e_ml[105]? = some ((⟨"java/util/ArrayList", "<init>", "()V"⟩ : MethodName), prog_50_method_2_code, 1, none) := r_hy (by decide +kernel)
theorem hp_105 : plainName "java/util/ArrayList" = true := by decide +kernel
theorem hc_105 : Jvm.Cond.code (⟨"java/util/ArrayList", "<init>", "()V"⟩ : MethodName) prog_50_method_2_code 1 none ∈ lw_tbl := r_k7 (r_hc (l := tables_1_7) (i := 177) (by decide +kernel))
theorem hd_105 : "java/util/ArrayList" ≠ "java/lang/invoke/MethodHandle" ∧ "java/util/ArrayList" ≠ "java/lang/invoke/VarHandle" ∧ (parseMethodDescriptor "()V").map (fun d => d.parameters.length) = some 0 := ⟨by decide +kernel, by decide +kernel, by decide +kernel⟩
theorem hi_105 : Jvm.Cond.initialized "java/util/ArrayList" ∈ lw_tbl := r_m_1_18
theorem hs_105 : Jvm.Cond.instanceMethod (⟨"java/util/ArrayList", "<init>", "()V"⟩ : MethodName) ∈ lw_tbl := (r_k7 (List.mem_of_getElem? (i := 176) (by decide +kernel)))
theorem hy_106 : e_ml[106]? = some ((⟨"java/util/ArrayList", "add", "(Ljava/lang/Object;)Z"⟩ : MethodName), prog_50_method_25_code, 2, (some .boolean)) := r_hy (by decide +kernel)
theorem hp_106 : plainName "java/util/ArrayList" = true := by decide +kernel
theorem hc_106 : Jvm.Cond.code (⟨"java/util/ArrayList", "add", "(Ljava/lang/Object;)Z"⟩ : MethodName) prog_50_method_25_code 2 (some .boolean) ∈ lw_tbl := r_k8 (r_hc (l := tables_1_8) (i := 6) (by decide +kernel))
theorem hd_106 : "java/util/ArrayList" ≠ "java/lang/invoke/MethodHandle" ∧ "java/util/ArrayList" ≠ "java/lang/invoke/VarHandle" ∧ (parseMethodDescriptor "(Ljava/lang/Object;)Z").map (fun d => d.parameters.length) = some 1 := ⟨by decide +kernel, by decide +kernel, by decide +kernel⟩
theorem hi_106 : Jvm.Cond.initialized "java/util/ArrayList" ∈ lw_tbl := r_m_1_18
theorem hs_106 : Jvm.Cond.instanceMethod (⟨"java/util/ArrayList", "add", "(Ljava/lang/Object;)Z"⟩ : MethodName) ∈ lw_tbl := (r_k8 (List.mem_of_getElem? (i := 4) (by decide +kernel)))
theorem hy_107 : e_ml[107]? = some ((⟨"java/util/ArrayList", "add", "(Ljava/lang/Object;[Ljava/lang/Object;I)V"⟩ : MethodName), prog_50_method_24_code, 4, none) := r_hy (by decide +kernel)
theorem hp_107 : plainName "java/util/ArrayList" = true := by decide +kernel
theorem hc_107 : Jvm.Cond.code (⟨"java/util/ArrayList", "add", "(Ljava/lang/Object;[Ljava/lang/Object;I)V"⟩ : MethodName) prog_50_method_24_code 4 none ∈ lw_tbl := r_k8 (r_hc (l := tables_1_8) (i := 10) (by decide +kernel))
theorem hd_107 : "java/util/ArrayList" ≠ "java/lang/invoke/MethodHandle" ∧ "java/util/ArrayList" ≠ "java/lang/invoke/VarHandle" ∧ (parseMethodDescriptor "(Ljava/lang/Object;[Ljava/lang/Object;I)V").map (fun d => d.parameters.length) = some 3 := ⟨by decide +kernel, by decide +kernel, by decide +kernel⟩
theorem hi_107 : Jvm.Cond.initialized "java/util/ArrayList" ∈ lw_tbl := r_m_1_18
theorem hs_107 : Jvm.Cond.instanceMethod (⟨"java/util/ArrayList", "add", "(Ljava/lang/Object;[Ljava/lang/Object;I)V"⟩ : MethodName) ∈ lw_tbl := (r_k8 (List.mem_of_getElem? (i := 9) (by decide +kernel)))
theorem hy_108 : e_ml[108]? = some ((⟨"java/util/ArrayList", "elementData", "(I)Ljava/lang/Object;"⟩ : MethodName), prog_50_method_18_code, 2, (some (.object "java/lang/Object"))) := r_hy (by decide +kernel)
theorem hp_108 : plainName "java/util/ArrayList" = true := by decide +kernel
theorem hc_108 : Jvm.Cond.code (⟨"java/util/ArrayList", "elementData", "(I)Ljava/lang/Object;"⟩ : MethodName) prog_50_method_18_code 2 (some (.object "java/lang/Object")) ∈ lw_tbl := r_k8 (r_hc (l := tables_1_8) (i := 235) (by decide +kernel))
theorem hd_108 : "java/util/ArrayList" ≠ "java/lang/invoke/MethodHandle" ∧ "java/util/ArrayList" ≠ "java/lang/invoke/VarHandle" ∧ (parseMethodDescriptor "(I)Ljava/lang/Object;").map (fun d => d.parameters.length) = some 1 := ⟨by decide +kernel, by decide +kernel, by decide +kernel⟩
theorem hi_108 : Jvm.Cond.initialized "java/util/ArrayList" ∈ lw_tbl := r_m_1_18
theorem hs_108 : Jvm.Cond.instanceMethod (⟨"java/util/ArrayList", "elementData", "(I)Ljava/lang/Object;"⟩ : MethodName) ∈ lw_tbl := (r_k8 (List.mem_of_getElem? (i := 233) (by decide +kernel)))
theorem hy_109 : e_ml[109]? = some ((⟨"java/util/ArrayList", "fastRemove", "([Ljava/lang/Object;I)V"⟩ : MethodName), prog_50_method_39_code, 4, none) := r_hy (by decide +kernel)
theorem hp_109 : plainName "java/util/ArrayList" = true := by decide +kernel
theorem hc_109 : Jvm.Cond.code (⟨"java/util/ArrayList", "fastRemove", "([Ljava/lang/Object;I)V"⟩ : MethodName) prog_50_method_39_code 4 none ∈ lw_tbl := r_k8 (r_hc (l := tables_1_8) (i := 209) (by decide +kernel))
theorem hd_109 : "java/util/ArrayList" ≠ "java/lang/invoke/MethodHandle" ∧ "java/util/ArrayList" ≠ "java/lang/invoke/VarHandle" ∧ (parseMethodDescriptor "([Ljava/lang/Object;I)V").map (fun d => d.parameters.length) = some 2 := ⟨by decide +kernel, by decide +kernel, by decide +kernel⟩
theorem hi_109 : Jvm.Cond.initialized "java/util/ArrayList" ∈ lw_tbl := r_m_1_18
theorem hs_109 : Jvm.Cond.instanceMethod (⟨"java/util/ArrayList", "fastRemove", "([Ljava/lang/Object;I)V"⟩ : MethodName) ∈ lw_tbl := (r_k8 (List.mem_of_getElem? (i := 208) (by decide +kernel)))
theorem hy_110 : e_ml[110]? = some ((⟨"java/util/ArrayList", "get", "(I)Ljava/lang/Object;"⟩ : MethodName), prog_50_method_20_code, 2, (some (.object "java/lang/Object"))) := r_hy (by decide +kernel)
theorem hp_110 : plainName "java/util/ArrayList" = true := by decide +kernel
theorem hc_110 : Jvm.Cond.code (⟨"java/util/ArrayList", "get", "(I)Ljava/lang/Object;"⟩ : MethodName) prog_50_method_20_code 2 (some (.object "java/lang/Object")) ∈ lw_tbl := r_k8 (r_hc (l := tables_1_8) (i := 231) (by decide +kernel))
theorem hd_110 : "java/util/ArrayList" ≠ "java/lang/invoke/MethodHandle" ∧ "java/util/ArrayList" ≠ "java/lang/invoke/VarHandle" ∧ (parseMethodDescriptor "(I)Ljava/lang/Object;").map (fun d => d.parameters.length) = some 1 := ⟨by decide +kernel, by decide +kernel, by decide +kernel⟩
theorem hi_110 : Jvm.Cond.initialized "java/util/ArrayList" ∈ lw_tbl := r_m_1_18
theorem hs_110 : Jvm.Cond.instanceMethod (⟨"java/util/ArrayList", "get", "(I)Ljava/lang/Object;"⟩ : MethodName) ∈ lw_tbl := (r_k8 (List.mem_of_getElem? (i := 229) (by decide +kernel)))
theorem hy_111 : e_ml[111]? = some ((⟨"java/util/ArrayList", "grow", "()[Ljava/lang/Object;"⟩ : MethodName), prog_50_method_7_code, 1, (some (.array (.object "java/lang/Object")))) := r_hy (by decide +kernel)
theorem hp_111 : plainName "java/util/ArrayList" = true := by decide +kernel
theorem hc_111 : Jvm.Cond.code (⟨"java/util/ArrayList", "grow", "()[Ljava/lang/Object;"⟩ : MethodName) prog_50_method_7_code 1 (some (.array (.object "java/lang/Object"))) ∈ lw_tbl := r_k8 (r_hc (l := tables_1_8) (i := 14) (by decide +kernel))
theorem hd_111 : "java/util/ArrayList" ≠ "java/lang/invoke/MethodHandle" ∧ "java/util/ArrayList" ≠ "java/lang/invoke/VarHandle" ∧ (parseMethodDescriptor "()[Ljava/lang/Object;").map (fun d => d.parameters.length) = some 0 := ⟨by decide +kernel, by decide +kernel, by decide +kernel⟩
theorem hi_111 : Jvm.Cond.initialized "java/util/ArrayList" ∈ lw_tbl := r_m_1_18
theorem hs_111 : Jvm.Cond.instanceMethod (⟨"java/util/ArrayList", "grow", "()[Ljava/lang/Object;"⟩ : MethodName) ∈ lw_tbl := (r_k8 (List.mem_of_getElem? (i := 13) (by decide +kernel)))
theorem hy_112 : e_ml[112]? = some ((⟨"java/util/ArrayList", "grow", "(I)[Ljava/lang/Object;"⟩ : MethodName), prog_50_method_6_code, 4, (some (.array (.object "java/lang/Object")))) := r_hy (by decide +kernel)
theorem hp_112 : plainName "java/util/ArrayList" = true := by decide +kernel
theorem hc_112 : Jvm.Cond.code (⟨"java/util/ArrayList", "grow", "(I)[Ljava/lang/Object;"⟩ : MethodName) prog_50_method_6_code 4 (some (.array (.object "java/lang/Object"))) ∈ lw_tbl := r_k8 (r_hc (l := tables_1_8) (i := 18) (by decide +kernel))
theorem hd_112 : "java/util/ArrayList" ≠ "java/lang/invoke/MethodHandle" ∧ "java/util/ArrayList" ≠ "java/lang/invoke/VarHandle" ∧ (parseMethodDescriptor "(I)[Ljava/lang/Object;").map (fun d => d.parameters.length) = some 1 := ⟨by decide +kernel, by decide +kernel, by decide +kernel⟩
theorem hi_112 : Jvm.Cond.initialized "java/util/ArrayList" ∈ lw_tbl := r_m_1_18
theorem hs_112 : Jvm.Cond.instanceMethod (⟨"java/util/ArrayList", "grow", "(I)[Ljava/lang/Object;"⟩ : MethodName) ∈ lw_tbl := (r_k8 (List.mem_of_getElem? (i := 17) (by decide +kernel)))
theorem hy_113 : e_ml[113]? = some ((⟨"java/util/ArrayList", "isEmpty", "()Z"⟩ : MethodName), prog_50_method_9_code, 1, (some .boolean)) := r_hy (by decide +kernel)
theorem hp_113 : plainName "java/util/ArrayList" = true := by decide +kernel
theorem hc_113 : Jvm.Cond.code (⟨"java/util/ArrayList", "isEmpty", "()Z"⟩ : MethodName) prog_50_method_9_code 1 (some .boolean) ∈ lw_tbl := r_k8 (r_hc (l := tables_1_8) (i := 195) (by decide +kernel))
theorem hd_113 : "java/util/ArrayList" ≠ "java/lang/invoke/MethodHandle" ∧ "java/util/ArrayList" ≠ "java/lang/invoke/VarHandle" ∧ (parseMethodDescriptor "()Z").map (fun d => d.parameters.length) = some 0 := ⟨by decide +kernel, by decide +kernel, by decide +kernel⟩
theorem hi_113 : Jvm.Cond.initialized "java/util/ArrayList" ∈ lw_tbl := r_m_1_18
theorem hs_113 : Jvm.Cond.instanceMethod (⟨"java/util/ArrayList", "isEmpty", "()Z"⟩ : MethodName) ∈ lw_tbl := (r_k8 (List.mem_of_getElem? (i := 193) (by decide +kernel)))
theorem hy_114 : e_ml[114]? = some ((⟨"java/util/ArrayList", "remove", "(I)Ljava/lang/Object;"⟩ : MethodName), prog_50_method_29_code, 4, (some (.object "java/lang/Object"))) := r_hy (by decide +kernel)
theorem hp_114 : plainName "java/util/ArrayList" = true := by decide +kernel
theorem hc_114 : Jvm.Cond.code (⟨"java/util/ArrayList", "remove", "(I)Ljava/lang/Object;"⟩ : MethodName) prog_50_method_29_code 4 (some (.object "java/lang/Object")) ∈ lw_tbl := r_k8 (r_hc (l := tables_1_8) (i := 199) (by decide +kernel))
theorem hd_114 : "java/util/ArrayList" ≠ "java/lang/invoke/MethodHandle" ∧ "java/util/ArrayList" ≠ "java/lang/invoke/VarHandle" ∧ (parseMethodDescriptor "(I)Ljava/lang/Object;").map (fun d => d.parameters.length) = some 1 := ⟨by decide +kernel, by decide +kernel, by decide +kernel⟩
theorem hi_114 : Jvm.Cond.initialized "java/util/ArrayList" ∈ lw_tbl := r_m_1_18
theorem hs_114 : Jvm.Cond.instanceMethod (⟨"java/util/ArrayList", "remove", "(I)Ljava/lang/Object;"⟩ : MethodName) ∈ lw_tbl := (r_k8 (List.mem_of_getElem? (i := 197) (by decide +kernel)))
theorem hy_115 : e_ml[115]? = some ((⟨"java/util/ArrayList", "set", "(ILjava/lang/Object;)Ljava/lang/Object;"⟩ : MethodName), prog_50_method_23_code, 4, (some (.object "java/lang/Object"))) := r_hy (by decide +kernel)
theorem hp_115 : plainName "java/util/ArrayList" = true := by decide +kernel
theorem hc_115 : Jvm.Cond.code (⟨"java/util/ArrayList", "set", "(ILjava/lang/Object;)Ljava/lang/Object;"⟩ : MethodName) prog_50_method_23_code 4 (some (.object "java/lang/Object")) ∈ lw_tbl := r_k9 (r_hc (l := tables_1_9) (i := 43) (by decide +kernel))
theorem hd_115 : "java/util/ArrayList" ≠ "java/lang/invoke/MethodHandle" ∧ "java/util/ArrayList" ≠ "java/lang/invoke/VarHandle" ∧ (parseMethodDescriptor "(ILjava/lang/Object;)Ljava/lang/Object;").map (fun d => d.parameters.length) = some 2 := ⟨by decide +kernel, by decide +kernel, by decide +kernel⟩
theorem hi_115 : Jvm.Cond.initialized "java/util/ArrayList" ∈ lw_tbl := r_m_1_18
theorem hs_115 : Jvm.Cond.instanceMethod (⟨"java/util/ArrayList", "set", "(ILjava/lang/Object;)Ljava/lang/Object;"⟩ : MethodName) ∈ lw_tbl := (r_k9 (List.mem_of_getElem? (i := 41) (by decide +kernel)))
theorem hy_116 : e_ml[116]? = some ((⟨"java/util/ArrayList", "size", "()I"⟩ : MethodName), prog_50_method_8_code, 1, (some .int)) := r_hy (by decide +kernel)
theorem hp_116 : plainName "java/util/ArrayList" = true := by decide +kernel
theorem hc_116 : Jvm.Cond.code (⟨"java/util/ArrayList", "size", "()I"⟩ : MethodName) prog_50_method_8_code 1 (some .int) ∈ lw_tbl := r_k8 (r_hc (l := tables_1_8) (i := 182) (by decide +kernel))
theorem hd_116 : "java/util/ArrayList" ≠ "java/lang/invoke/MethodHandle" ∧ "java/util/ArrayList" ≠ "java/lang/invoke/VarHandle" ∧ (parseMethodDescriptor "()I").map (fun d => d.parameters.length) = some 0 := ⟨by decide +kernel, by decide +kernel, by decide +kernel⟩
theorem hi_116 : Jvm.Cond.initialized "java/util/ArrayList" ∈ lw_tbl := r_m_1_18
theorem hs_116 : Jvm.Cond.instanceMethod (⟨"java/util/ArrayList", "size", "()I"⟩ : MethodName) ∈ lw_tbl := (r_k8 (List.mem_of_getElem? (i := 180) (by decide +kernel)))
theorem hy_117 : e_ml[117]? = some ((⟨"java/util/Objects", "checkIndex", "(II)I"⟩ : MethodName), prog_56_method_17_code, 2, (some .int)) := r_hy (by decide +kernel)
theorem hp_117 : plainName "java/util/Objects" = true := by decide +kernel
theorem hc_117 : Jvm.Cond.code (⟨"java/util/Objects", "checkIndex", "(II)I"⟩ : MethodName) prog_56_method_17_code 2 (some .int) ∈ lw_tbl := r_k8 (r_hc (l := tables_1_8) (i := 202) (by decide +kernel))
theorem hd_117 : "java/util/Objects" ≠ "java/lang/invoke/MethodHandle" ∧ "java/util/Objects" ≠ "java/lang/invoke/VarHandle" ∧ (parseMethodDescriptor "(II)I").map (fun d => d.parameters.length) = some 2 := ⟨by decide +kernel, by decide +kernel, by decide +kernel⟩
theorem hi_117 : Jvm.Cond.initialized "java/util/Objects" ∈ lw_tbl := (r_k1 (List.mem_of_getElem? (i := 28) (by decide +kernel)))
theorem hs_117 : Jvm.Cond.static (⟨"java/util/Objects", "checkIndex", "(II)I"⟩ : MethodName) ∈ lw_tbl := (r_k8 (List.mem_of_getElem? (i := 201) (by decide +kernel)))
theorem hy_118 : e_ml[118]? = some ((⟨"jdk/internal/util/Preconditions", "checkIndex", "(IILjava/util/function/BiFunction;)I"⟩ : MethodName), prog_60_method_11_code, 3, (some .int)) := r_hy (by decide +kernel)
theorem hp_118 : plainName "jdk/internal/util/Preconditions" = true := by decide +kernel
theorem hc_118 : Jvm.Cond.code (⟨"jdk/internal/util/Preconditions", "checkIndex", "(IILjava/util/function/BiFunction;)I"⟩ : MethodName) prog_60_method_11_code 3 (some .int) ∈ lw_tbl := r_k8 (r_hc (l := tables_1_8) (i := 205) (by decide +kernel))
theorem hd_118 : "jdk/internal/util/Preconditions" ≠ "java/lang/invoke/MethodHandle" ∧ "jdk/internal/util/Preconditions" ≠ "java/lang/invoke/VarHandle" ∧ (parseMethodDescriptor "(IILjava/util/function/BiFunction;)I").map (fun d => d.parameters.length) = some 3 := ⟨by decide +kernel, by decide +kernel, by decide +kernel⟩
theorem hi_118 : Jvm.Cond.initialized "jdk/internal/util/Preconditions" ∈ lw_tbl := (r_k1 (List.mem_of_getElem? (i := 29) (by decide +kernel)))
theorem hs_118 : Jvm.Cond.static (⟨"jdk/internal/util/Preconditions", "checkIndex", "(IILjava/util/function/BiFunction;)I"⟩ : MethodName) ∈ lw_tbl := (r_k8 (List.mem_of_getElem? (i := 204) (by decide +kernel)))
end SN
