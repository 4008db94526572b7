/-! NEW OBJECTS; what is called; by program -/
section SN
def e_d0 (t : Nat) : e_V := match t with | 0 => e_I 2147483648 | 1 => e_L 9223372036854775808 | _ => e_N
def e_d1 (t : Nat) : Value := match t with | 0 => .int 0 | 1 => .long 0 | _ => .null
theorem e_newrel {ts : List Nat} {fs : List e_V} {fv : List Value} (h : fs = ts.map e_d0 ∧ fv = ts.map e_d1) : ∀ (ad : Nat → Nat) (as : List Nat) (k : Nat) (v : e_V), fs[k]? = some v → ∃ y, fv[k]? = some y ∧ e_rel ad as v y := by
  obtain ⟨rfl, rfl⟩ := h
  intro ad as k v hv
  rw [List.getElem?_map] at hv ⊢
  cases ht : ts[k]? with
  | none => rw [ht] at hv; cases hv
  | some t =>
    rw [ht] at hv
    simp only [Option.map_some, Option.some.injEq] at hv ⊢
    refine ⟨_, rfl, ?_⟩
    subst hv
    match t with
    | 0 => exact ⟨by decide, by decide⟩
    | 1 => exact ⟨by decide, by decide⟩
    | _ + 2 => exact (rfl : Value.null = .null)
def ef_0 : List e_V := [e_N, e_N, e_N, e_N, e_N, e_N, e_N, e_N, e_N, e_N, e_N, e_N, e_N, e_I 2147483648, e_I 2147483648, e_I 2147483648, e_I 2147483648]
def eg_0 : List Value := [.null, .null, .null, .null, .null, .null, .null, .null, .null, .null, .null, .null, .null, .int 0, .int 0, .int 0, .int 0]
theorem ek_0 : ef_0 = [2, 2, 2, 2, 2, 2, 2, 2, 2, 2, 2, 2, 2, 0, 0, 0, 0].map e_d0 ∧ eg_0 = [2, 2, 2, 2, 2, 2, 2, 2, 2, 2, 2, 2, 2, 0, 0, 0, 0].map e_d1 := ⟨rfl, rfl⟩
theorem eh_0 : ∀ j, j < 17 → defaultValue (ey_0 j) = vp_V eg_0 j := by decide +kernel
def ef_1 : List e_V := [e_N, e_N, e_I 2147483648, e_I 2147483648]
def eg_1 : List Value := [.null, .null, .int 0, .int 0]
theorem ek_1 : ef_1 = [2, 2, 0, 0].map e_d0 ∧ eg_1 = [2, 2, 0, 0].map e_d1 := ⟨rfl, rfl⟩
theorem eh_1 : ∀ j, j < 4 → defaultValue (ey_1 j) = vp_V eg_1 j := by decide +kernel
def ef_2 : List e_V := [e_N, e_N, e_N, e_N, e_N, e_N, e_N, e_N, e_N, e_N, e_N, e_N, e_N, e_I 2147483648, e_I 2147483648, e_I 2147483648, e_I 2147483648, e_I 2147483648, e_I 2147483648]
def eg_2 : List Value := [.null, .null, .null, .null, .null, .null, .null, .null, .null, .null, .null, .null, .null, .int 0, .int 0, .int 0, .int 0, .int 0, .int 0]
theorem ek_2 : ef_2 = [2, 2, 2, 2, 2, 2, 2, 2, 2, 2, 2, 2, 2, 0, 0, 0, 0, 0, 0].map e_d0 ∧ eg_2 = [2, 2, 2, 2, 2, 2, 2, 2, 2, 2, 2, 2, 2, 0, 0, 0, 0, 0, 0].map e_d1 := ⟨rfl, rfl⟩
theorem eh_2 : ∀ j, j < 19 → defaultValue (ey_2 j) = vp_V eg_2 j := by decide +kernel
def ef_3 : List e_V := [e_N, e_N, e_N, e_N, e_I 2147483648]
def eg_3 : List Value := [.null, .null, .null, .null, .int 0]
theorem ek_3 : ef_3 = [2, 2, 2, 2, 0].map e_d0 ∧ eg_3 = [2, 2, 2, 2, 0].map e_d1 := ⟨rfl, rfl⟩
theorem eh_3 : ∀ j, j < 5 → defaultValue (ey_3 j) = vp_V eg_3 j := by decide +kernel
def ef_4 : List e_V := [e_I 2147483648, e_N, e_N, e_N, e_I 2147483648]
def eg_4 : List Value := [.int 0, .null, .null, .null, .int 0]
theorem ek_4 : ef_4 = [0, 2, 2, 2, 0].map e_d0 ∧ eg_4 = [0, 2, 2, 2, 0].map e_d1 := ⟨rfl, rfl⟩
theorem eh_4 : ∀ j, j < 5 → defaultValue (ey_4 j) = vp_V eg_4 j := by decide +kernel
def ef_5 : List e_V := [e_N, e_N, e_L 9223372036854775808, e_L 9223372036854775808, e_L 9223372036854775808]
def eg_5 : List Value := [.null, .null, .long 0, .long 0, .long 0]
theorem ek_5 : ef_5 = [2, 2, 1, 1, 1].map e_d0 ∧ eg_5 = [2, 2, 1, 1, 1].map e_d1 := ⟨rfl, rfl⟩
theorem eh_5 : ∀ j, j < 5 → defaultValue (ey_5 j) = vp_V eg_5 j := by decide +kernel
def ef_6 : List e_V := [e_N, e_N, e_N, e_N, e_I 2147483648, e_I 2147483648, e_I 2147483648, e_I 2147483648, e_I 2147483648, e_N, e_N, e_N, e_N, e_N, e_N, e_N, e_I 2147483648]
def eg_6 : List Value := [.null, .null, .null, .null, .int 0, .int 0, .int 0, .int 0, .int 0, .null, .null, .null, .null, .null, .null, .null, .int 0]
theorem ek_6 : ef_6 = [2, 2, 2, 2, 0, 0, 0, 0, 0, 2, 2, 2, 2, 2, 2, 2, 0].map e_d0 ∧ eg_6 = [2, 2, 2, 2, 0, 0, 0, 0, 0, 2, 2, 2, 2, 2, 2, 2, 0].map e_d1 := ⟨rfl, rfl⟩
theorem eh_6 : ∀ j, j < 17 → defaultValue (ey_6 j) = vp_V eg_6 j := by decide +kernel
def ef_7 : List e_V := [e_N, e_N, e_N, e_N, e_I 2147483648, e_I 2147483648]
def eg_7 : List Value := [.null, .null, .null, .null, .int 0, .int 0]
theorem ek_7 : ef_7 = [2, 2, 2, 2, 0, 0].map e_d0 ∧ eg_7 = [2, 2, 2, 2, 0, 0].map e_d1 := ⟨rfl, rfl⟩
theorem eh_7 : ∀ j, j < 6 → defaultValue (ey_7 j) = vp_V eg_7 j := by decide +kernel
def ef_8 : List e_V := [e_N, e_I 2147483648, e_I 2147483648]
def eg_8 : List Value := [.null, .int 0, .int 0]
theorem ek_8 : ef_8 = [2, 0, 0].map e_d0 ∧ eg_8 = [2, 0, 0].map e_d1 := ⟨rfl, rfl⟩
theorem eh_8 : ∀ j, j < 3 → defaultValue (ey_8 j) = vp_V eg_8 j := by decide +kernel
def ef_9 : List e_V := [e_N]
def eg_9 : List Value := [.null]
theorem ek_9 : ef_9 = [2].map e_d0 ∧ eg_9 = [2].map e_d1 := ⟨rfl, rfl⟩
theorem eh_9 : ∀ j, j < 1 → defaultValue (ey_9 j) = vp_V eg_9 j := by decide +kernel
def ef_10 : List e_V := [e_N, e_N, e_N, e_N, e_I 2147483648, e_I 2147483648, e_I 2147483648, e_I 2147483648, e_I 2147483648, e_I 2147483648, e_I 2147483648]
def eg_10 : List Value := [.null, .null, .null, .null, .int 0, .int 0, .int 0, .int 0, .int 0, .int 0, .int 0]
theorem ek_10 : ef_10 = [2, 2, 2, 2, 0, 0, 0, 0, 0, 0, 0].map e_d0 ∧ eg_10 = [2, 2, 2, 2, 0, 0, 0, 0, 0, 0, 0].map e_d1 := ⟨rfl, rfl⟩
theorem eh_10 : ∀ j, j < 11 → defaultValue (ey_10 j) = vp_V eg_10 j := by decide +kernel
def ef_11 : List e_V := [e_N, e_N, e_N, e_N, e_I 2147483648, e_N, e_N, e_N, e_N, e_N, e_I 2147483648, e_N, e_I 2147483648, e_I 2147483648, e_I 2147483648]
def eg_11 : List Value := [.null, .null, .null, .null, .int 0, .null, .null, .null, .null, .null, .int 0, .null, .int 0, .int 0, .int 0]
theorem ek_11 : ef_11 = [2, 2, 2, 2, 0, 2, 2, 2, 2, 2, 0, 2, 0, 0, 0].map e_d0 ∧ eg_11 = [2, 2, 2, 2, 0, 2, 2, 2, 2, 2, 0, 2, 0, 0, 0].map e_d1 := ⟨rfl, rfl⟩
theorem eh_11 : ∀ j, j < 15 → defaultValue (ey_11 j) = vp_V eg_11 j := by decide +kernel
def ef_12 : List e_V := [e_I 2147483648, e_N, e_N, e_N, e_I 2147483648]
def eg_12 : List Value := [.int 0, .null, .null, .null, .int 0]
theorem ek_12 : ef_12 = [0, 2, 2, 2, 0].map e_d0 ∧ eg_12 = [0, 2, 2, 2, 0].map e_d1 := ⟨rfl, rfl⟩
theorem eh_12 : ∀ j, j < 5 → defaultValue (ey_12 j) = vp_V eg_12 j := by decide +kernel
def ef_13 : List e_V := [e_N, e_N, e_N, e_N, e_N, e_N, e_N, e_N, e_I 2147483648, e_I 2147483648, e_I 2147483648, e_I 2147483648, e_N]
def eg_13 : List Value := [.null, .null, .null, .null, .null, .null, .null, .null, .int 0, .int 0, .int 0, .int 0, .null]
theorem ek_13 : ef_13 = [2, 2, 2, 2, 2, 2, 2, 2, 0, 0, 0, 0, 2].map e_d0 ∧ eg_13 = [2, 2, 2, 2, 2, 2, 2, 2, 0, 0, 0, 0, 2].map e_d1 := ⟨rfl, rfl⟩
theorem eh_13 : ∀ j, j < 13 → defaultValue (ey_13 j) = vp_V eg_13 j := by decide +kernel
def ef_14 : List e_V := [e_N, e_I 2147483648]
def eg_14 : List Value := [.null, .int 0]
theorem ek_14 : ef_14 = [2, 0].map e_d0 ∧ eg_14 = [2, 0].map e_d1 := ⟨rfl, rfl⟩
theorem eh_14 : ∀ j, j < 2 → defaultValue (ey_14 j) = vp_V eg_14 j := by decide +kernel
def ef_15 : List e_V := [e_N, e_I 2147483648, e_I 2147483648, e_I 2147483648, e_I 2147483648, e_L 9223372036854775808, e_L 9223372036854775808, e_L 9223372036854775808]
def eg_15 : List Value := [.null, .int 0, .int 0, .int 0, .int 0, .long 0, .long 0, .long 0]
theorem ek_15 : ef_15 = [2, 0, 0, 0, 0, 1, 1, 1].map e_d0 ∧ eg_15 = [2, 0, 0, 0, 0, 1, 1, 1].map e_d1 := ⟨rfl, rfl⟩
theorem eh_15 : ∀ j, j < 8 → defaultValue (ey_15 j) = vp_V eg_15 j := by decide +kernel
def ef_16 : List e_V := [e_N, e_N, e_I 2147483648, e_I 2147483648, e_I 2147483648]
def eg_16 : List Value := [.null, .null, .int 0, .int 0, .int 0]
theorem ek_16 : ef_16 = [2, 2, 0, 0, 0].map e_d0 ∧ eg_16 = [2, 2, 0, 0, 0].map e_d1 := ⟨rfl, rfl⟩
theorem eh_16 : ∀ j, j < 5 → defaultValue (ey_16 j) = vp_V eg_16 j := by decide +kernel
def ef_17 : List e_V := [e_N, e_N, e_N, e_N, e_N, e_N]
def eg_17 : List Value := [.null, .null, .null, .null, .null, .null]
theorem ek_17 : ef_17 = [2, 2, 2, 2, 2, 2].map e_d0 ∧ eg_17 = [2, 2, 2, 2, 2, 2].map e_d1 := ⟨rfl, rfl⟩
theorem eh_17 : ∀ j, j < 6 → defaultValue (ey_17 j) = vp_V eg_17 j := by decide +kernel
def ef_18 : List e_V := [e_I 2147483648]
def eg_18 : List Value := [.int 0]
theorem ek_18 : ef_18 = [0].map e_d0 ∧ eg_18 = [0].map e_d1 := ⟨rfl, rfl⟩
theorem eh_18 : ∀ j, j < 1 → defaultValue (ey_18 j) = vp_V eg_18 j := by decide +kernel
def ef_19 : List e_V := [e_N, e_I 2147483648, e_I 2147483648]
def eg_19 : List Value := [.null, .int 0, .int 0]
theorem ek_19 : ef_19 = [2, 0, 0].map e_d0 ∧ eg_19 = [2, 0, 0].map e_d1 := ⟨rfl, rfl⟩
theorem eh_19 : ∀ j, j < 3 → defaultValue (ey_19 j) = vp_V eg_19 j := by decide +kernel
def ef_20 : List e_V := [e_I 2147483648, e_I 2147483648, e_I 2147483648, e_N]
def eg_20 : List Value := [.int 0, .int 0, .int 0, .null]
theorem ek_20 : ef_20 = [0, 0, 0, 2].map e_d0 ∧ eg_20 = [0, 0, 0, 2].map e_d1 := ⟨rfl, rfl⟩
theorem eh_20 : ∀ j, j < 4 → defaultValue (ey_20 j) = vp_V eg_20 j := by decide +kernel
theorem hy_0 : e_ml[0]? = some ((⟨"Plateroomprinter", "<init>", "()V"⟩ : MethodName), prog_1_method_1_code, 1, none) := by decide +kernel
theorem hp_0 : plainName "Plateroomprinter" = true := by decide +kernel
theorem hc_0 : Jvm.Cond.code (⟨"Plateroomprinter", "<init>", "()V"⟩ : MethodName) prog_1_method_1_code 1 none ∈ lw_tbl := (List.mem_of_getElem? (i := 188) (by decide +kernel))
theorem hd_0 : "Plateroomprinter" ≠ "java/lang/invoke/MethodHandle" ∧ "Plateroomprinter" ≠ "java/lang/invoke/VarHandle" ∧ (parseMethodDescriptor "()V").map (fun d => d.parameters.length) = some 0 := ⟨by decide +kernel, by decide +kernel, by decide +kernel⟩
theorem hi_0 : Jvm.Cond.initialized "Plateroomprinter" ∈ lw_tbl := (List.mem_of_getElem? (i := 138) (by decide +kernel))
theorem hs_0 : Jvm.Cond.instanceMethod (⟨"Plateroomprinter", "<init>", "()V"⟩ : MethodName) ∈ lw_tbl := (List.mem_of_getElem? (i := 187) (by decide +kernel))
theorem hy_1 : e_ml[1]? = some ((⟨"Plateroomprinter", "agreesInBands", "(I)Z"⟩ : MethodName), prog_1_method_51_code, 5, (some .boolean)) := by decide +kernel
theorem hp_1 : plainName "Plateroomprinter" = true := by decide +kernel
theorem hc_1 : Jvm.Cond.code (⟨"Plateroomprinter", "agreesInBands", "(I)Z"⟩ : MethodName) prog_1_method_51_code 5 (some .boolean) ∈ lw_tbl := (List.mem_of_getElem? (i := 1279) (by decide +kernel))
theorem hd_1 : "Plateroomprinter" ≠ "java/lang/invoke/MethodHandle" ∧ "Plateroomprinter" ≠ "java/lang/invoke/VarHandle" ∧ (parseMethodDescriptor "(I)Z").map (fun d => d.parameters.length) = some 1 := ⟨by decide +kernel, by decide +kernel, by decide +kernel⟩
theorem hi_1 : Jvm.Cond.initialized "Plateroomprinter" ∈ lw_tbl := (List.mem_of_getElem? (i := 138) (by decide +kernel))
theorem hs_1 : Jvm.Cond.instanceMethod (⟨"Plateroomprinter", "agreesInBands", "(I)Z"⟩ : MethodName) ∈ lw_tbl := (List.mem_of_getElem? (i := 1278) (by decide +kernel))
theorem hy_2 : e_ml[2]? = some ((⟨"Plateroomprinter", "bands", "(I)Z"⟩ : MethodName), prog_1_method_44_code, 2, (some .boolean)) := by decide +kernel
theorem hp_2 : plainName "Plateroomprinter" = true := by decide +kernel
theorem hc_2 : Jvm.Cond.code (⟨"Plateroomprinter", "bands", "(I)Z"⟩ : MethodName) prog_1_method_44_code 2 (some .boolean) ∈ lw_tbl := (List.mem_of_getElem? (i := 1714) (by decide +kernel))
theorem hd_2 : "Plateroomprinter" ≠ "java/lang/invoke/MethodHandle" ∧ "Plateroomprinter" ≠ "java/lang/invoke/VarHandle" ∧ (parseMethodDescriptor "(I)Z").map (fun d => d.parameters.length) = some 1 := ⟨by decide +kernel, by decide +kernel, by decide +kernel⟩
theorem hi_2 : Jvm.Cond.initialized "Plateroomprinter" ∈ lw_tbl := (List.mem_of_getElem? (i := 138) (by decide +kernel))
theorem hs_2 : Jvm.Cond.instanceMethod (⟨"Plateroomprinter", "bands", "(I)Z"⟩ : MethodName) ∈ lw_tbl := (List.mem_of_getElem? (i := 1712) (by decide +kernel))
theorem hy_3 : e_ml[3]? = some ((⟨"Plateroomprinter", "bitsOf", "([II)I"⟩ : MethodName), prog_1_method_37_code, 4, (some .int)) := by decide +kernel
theorem hp_3 : plainName "Plateroomprinter" = true := by decide +kernel
theorem hc_3 : Jvm.Cond.code (⟨"Plateroomprinter", "bitsOf", "([II)I"⟩ : MethodName) prog_1_method_37_code 4 (some .int) ∈ lw_tbl := (List.mem_of_getElem? (i := 1084) (by decide +kernel))
theorem hd_3 : "Plateroomprinter" ≠ "java/lang/invoke/MethodHandle" ∧ "Plateroomprinter" ≠ "java/lang/invoke/VarHandle" ∧ (parseMethodDescriptor "([II)I").map (fun d => d.parameters.length) = some 2 := ⟨by decide +kernel, by decide +kernel, by decide +kernel⟩
theorem hi_3 : Jvm.Cond.initialized "Plateroomprinter" ∈ lw_tbl := (List.mem_of_getElem? (i := 138) (by decide +kernel))
theorem hs_3 : Jvm.Cond.static (⟨"Plateroomprinter", "bitsOf", "([II)I"⟩ : MethodName) ∈ lw_tbl := (List.mem_of_getElem? (i := 1083) (by decide +kernel))
theorem hy_4 : e_ml[4]? = some ((⟨"Plateroomprinter", "clearRows", "([I)V"⟩ : MethodName), prog_1_method_35_code, 2, none) := by decide +kernel
theorem hp_4 : plainName "Plateroomprinter" = true := by decide +kernel
theorem hc_4 : Jvm.Cond.code (⟨"Plateroomprinter", "clearRows", "([I)V"⟩ : MethodName) prog_1_method_35_code 2 none ∈ lw_tbl := (List.mem_of_getElem? (i := 458) (by decide +kernel))
theorem hd_4 : "Plateroomprinter" ≠ "java/lang/invoke/MethodHandle" ∧ "Plateroomprinter" ≠ "java/lang/invoke/VarHandle" ∧ (parseMethodDescriptor "([I)V").map (fun d => d.parameters.length) = some 1 := ⟨by decide +kernel, by decide +kernel, by decide +kernel⟩
theorem hi_4 : Jvm.Cond.initialized "Plateroomprinter" ∈ lw_tbl := (List.mem_of_getElem? (i := 138) (by decide +kernel))
theorem hs_4 : Jvm.Cond.static (⟨"Plateroomprinter", "clearRows", "([I)V"⟩ : MethodName) ∈ lw_tbl := (List.mem_of_getElem? (i := 457) (by decide +kernel))
theorem hy_5 : e_ml[5]? = some ((⟨"Plateroomprinter", "cost", "(I)I"⟩ : MethodName), prog_1_method_17_code, 2, (some .int)) := by decide +kernel
theorem hp_5 : plainName "Plateroomprinter" = true := by decide +kernel
theorem hc_5 : Jvm.Cond.code (⟨"Plateroomprinter", "cost", "(I)I"⟩ : MethodName) prog_1_method_17_code 2 (some .int) ∈ lw_tbl := (List.mem_of_getElem? (i := 1485) (by decide +kernel))
theorem hd_5 : "Plateroomprinter" ≠ "java/lang/invoke/MethodHandle" ∧ "Plateroomprinter" ≠ "java/lang/invoke/VarHandle" ∧ (parseMethodDescriptor "(I)I").map (fun d => d.parameters.length) = some 1 := ⟨by decide +kernel, by decide +kernel, by decide +kernel⟩
theorem hi_5 : Jvm.Cond.initialized "Plateroomprinter" ∈ lw_tbl := (List.mem_of_getElem? (i := 138) (by decide +kernel))
theorem hs_5 : Jvm.Cond.instanceMethod (⟨"Plateroomprinter", "cost", "(I)I"⟩ : MethodName) ∈ lw_tbl := (List.mem_of_getElem? (i := 1483) (by decide +kernel))
theorem hy_6 : e_ml[6]? = some ((⟨"Plateroomprinter", "count", "(I)I"⟩ : MethodName), prog_1_method_43_code, 2, (some .int)) := by decide +kernel
theorem hp_6 : plainName "Plateroomprinter" = true := by decide +kernel
theorem hc_6 : Jvm.Cond.code (⟨"Plateroomprinter", "count", "(I)I"⟩ : MethodName) prog_1_method_43_code 2 (some .int) ∈ lw_tbl := (List.mem_of_getElem? (i := 1544) (by decide +kernel))
theorem hd_6 : "Plateroomprinter" ≠ "java/lang/invoke/MethodHandle" ∧ "Plateroomprinter" ≠ "java/lang/invoke/VarHandle" ∧ (parseMethodDescriptor "(I)I").map (fun d => d.parameters.length) = some 1 := ⟨by decide +kernel, by decide +kernel, by decide +kernel⟩
theorem hi_6 : Jvm.Cond.initialized "Plateroomprinter" ∈ lw_tbl := (List.mem_of_getElem? (i := 138) (by decide +kernel))
theorem hs_6 : Jvm.Cond.instanceMethod (⟨"Plateroomprinter", "count", "(I)I"⟩ : MethodName) ∈ lw_tbl := (List.mem_of_getElem? (i := 1542) (by decide +kernel))
theorem hy_7 : e_ml[7]? = some ((⟨"Plateroomprinter", "digest", "()J"⟩ : MethodName), prog_1_method_50_code, 3, (some .long)) := by decide +kernel
theorem hp_7 : plainName "Plateroomprinter" = true := by decide +kernel
theorem hc_7 : Jvm.Cond.code (⟨"Plateroomprinter", "digest", "()J"⟩ : MethodName) prog_1_method_50_code 3 (some .long) ∈ lw_tbl := (List.mem_of_getElem? (i := 1443) (by decide +kernel))
theorem hd_7 : "Plateroomprinter" ≠ "java/lang/invoke/MethodHandle" ∧ "Plateroomprinter" ≠ "java/lang/invoke/VarHandle" ∧ (parseMethodDescriptor "()J").map (fun d => d.parameters.length) = some 0 := ⟨by decide +kernel, by decide +kernel, by decide +kernel⟩
theorem hi_7 : Jvm.Cond.initialized "Plateroomprinter" ∈ lw_tbl := (List.mem_of_getElem? (i := 138) (by decide +kernel))
theorem hs_7 : Jvm.Cond.instanceMethod (⟨"Plateroomprinter", "digest", "()J"⟩ : MethodName) ∈ lw_tbl := (List.mem_of_getElem? (i := 1441) (by decide +kernel))
theorem hy_8 : e_ml[8]? = some ((⟨"Plateroomprinter", "digestOfPage", "(J)J"⟩ : MethodName), prog_1_method_62_code, 7, (some .long)) := by decide +kernel
theorem hp_8 : plainName "Plateroomprinter" = true := by decide +kernel
theorem hc_8 : Jvm.Cond.code (⟨"Plateroomprinter", "digestOfPage", "(J)J"⟩ : MethodName) prog_1_method_62_code 7 (some .long) ∈ lw_tbl := (List.mem_of_getElem? (i := 1528) (by decide +kernel))
theorem hd_8 : "Plateroomprinter" ≠ "java/lang/invoke/MethodHandle" ∧ "Plateroomprinter" ≠ "java/lang/invoke/VarHandle" ∧ (parseMethodDescriptor "(J)J").map (fun d => d.parameters.length) = some 1 := ⟨by decide +kernel, by decide +kernel, by decide +kernel⟩
theorem hi_8 : Jvm.Cond.initialized "Plateroomprinter" ∈ lw_tbl := (List.mem_of_getElem? (i := 138) (by decide +kernel))
theorem hs_8 : Jvm.Cond.instanceMethod (⟨"Plateroomprinter", "digestOfPage", "(J)J"⟩ : MethodName) ∈ lw_tbl := (List.mem_of_getElem? (i := 1527) (by decide +kernel))
theorem hy_9 : e_ml[9]? = some ((⟨"Plateroomprinter", "digestOfPath", "(J)J"⟩ : MethodName), prog_1_method_61_code, 8, (some .long)) := by decide +kernel
theorem hp_9 : plainName "Plateroomprinter" = true := by decide +kernel
theorem hc_9 : Jvm.Cond.code (⟨"Plateroomprinter", "digestOfPath", "(J)J"⟩ : MethodName) prog_1_method_61_code 8 (some .long) ∈ lw_tbl := (List.mem_of_getElem? (i := 1509) (by decide +kernel))
theorem hd_9 : "Plateroomprinter" ≠ "java/lang/invoke/MethodHandle" ∧ "Plateroomprinter" ≠ "java/lang/invoke/VarHandle" ∧ (parseMethodDescriptor "(J)J").map (fun d => d.parameters.length) = some 1 := ⟨by decide +kernel, by decide +kernel, by decide +kernel⟩
theorem hi_9 : Jvm.Cond.initialized "Plateroomprinter" ∈ lw_tbl := (List.mem_of_getElem? (i := 138) (by decide +kernel))
theorem hs_9 : Jvm.Cond.instanceMethod (⟨"Plateroomprinter", "digestOfPath", "(J)J"⟩ : MethodName) ∈ lw_tbl := (List.mem_of_getElem? (i := 1508) (by decide +kernel))
theorem hy_10 : e_ml[10]? = some ((⟨"Plateroomprinter", "digestOfProgram", "(J)J"⟩ : MethodName), prog_1_method_59_code, 6, (some .long)) := by decide +kernel
theorem hp_10 : plainName "Plateroomprinter" = true := by decide +kernel
theorem hc_10 : Jvm.Cond.code (⟨"Plateroomprinter", "digestOfProgram", "(J)J"⟩ : MethodName) prog_1_method_59_code 6 (some .long) ∈ lw_tbl := (List.mem_of_getElem? (i := 1448) (by decide +kernel))
theorem hd_10 : "Plateroomprinter" ≠ "java/lang/invoke/MethodHandle" ∧ "Plateroomprinter" ≠ "java/lang/invoke/VarHandle" ∧ (parseMethodDescriptor "(J)J").map (fun d => d.parameters.length) = some 1 := ⟨by decide +kernel, by decide +kernel, by decide +kernel⟩
theorem hi_10 : Jvm.Cond.initialized "Plateroomprinter" ∈ lw_tbl := (List.mem_of_getElem? (i := 138) (by decide +kernel))
theorem hs_10 : Jvm.Cond.instanceMethod (⟨"Plateroomprinter", "digestOfProgram", "(J)J"⟩ : MethodName) ∈ lw_tbl := (List.mem_of_getElem? (i := 1447) (by decide +kernel))
theorem hy_11 : e_ml[11]? = some ((⟨"Plateroomprinter", "digestOfState", "(J)J"⟩ : MethodName), prog_1_method_60_code, 6, (some .long)) := by decide +kernel
theorem hp_11 : plainName "Plateroomprinter" = true := by decide +kernel
theorem hc_11 : Jvm.Cond.code (⟨"Plateroomprinter", "digestOfState", "(J)J"⟩ : MethodName) prog_1_method_60_code 6 (some .long) ∈ lw_tbl := (List.mem_of_getElem? (i := 1494) (by decide +kernel))
theorem hd_11 : "Plateroomprinter" ≠ "java/lang/invoke/MethodHandle" ∧ "Plateroomprinter" ≠ "java/lang/invoke/VarHandle" ∧ (parseMethodDescriptor "(J)J").map (fun d => d.parameters.length) = some 1 := ⟨by decide +kernel, by decide +kernel, by decide +kernel⟩
theorem hi_11 : Jvm.Cond.initialized "Plateroomprinter" ∈ lw_tbl := (List.mem_of_getElem? (i := 138) (by decide +kernel))
theorem hs_11 : Jvm.Cond.instanceMethod (⟨"Plateroomprinter", "digestOfState", "(J)J"⟩ : MethodName) ∈ lw_tbl := (List.mem_of_getElem? (i := 1493) (by decide +kernel))
theorem hy_12 : e_ml[12]? = some ((⟨"Plateroomprinter", "done", "(I)I"⟩ : MethodName), prog_1_method_18_code, 2, (some .int)) := by decide +kernel
theorem hp_12 : plainName "Plateroomprinter" = true := by decide +kernel
theorem hc_12 : Jvm.Cond.code (⟨"Plateroomprinter", "done", "(I)I"⟩ : MethodName) prog_1_method_18_code 2 (some .int) ∈ lw_tbl := (List.mem_of_getElem? (i := 1489) (by decide +kernel))
theorem hd_12 : "Plateroomprinter" ≠ "java/lang/invoke/MethodHandle" ∧ "Plateroomprinter" ≠ "java/lang/invoke/VarHandle" ∧ (parseMethodDescriptor "(I)I").map (fun d => d.parameters.length) = some 1 := ⟨by decide +kernel, by decide +kernel, by decide +kernel⟩
theorem hi_12 : Jvm.Cond.initialized "Plateroomprinter" ∈ lw_tbl := (List.mem_of_getElem? (i := 138) (by decide +kernel))
theorem hs_12 : Jvm.Cond.instanceMethod (⟨"Plateroomprinter", "done", "(I)I"⟩ : MethodName) ∈ lw_tbl := (List.mem_of_getElem? (i := 1487) (by decide +kernel))
theorem hy_13 : e_ml[13]? = some ((⟨"Plateroomprinter", "dot", "(II)I"⟩ : MethodName), prog_1_method_41_code, 3, (some .int)) := by decide +kernel
theorem hp_13 : plainName "Plateroomprinter" = true := by decide +kernel
theorem hc_13 : Jvm.Cond.code (⟨"Plateroomprinter", "dot", "(II)I"⟩ : MethodName) prog_1_method_41_code 3 (some .int) ∈ lw_tbl := (List.mem_of_getElem? (i := 1699) (by decide +kernel))
theorem hd_13 : "Plateroomprinter" ≠ "java/lang/invoke/MethodHandle" ∧ "Plateroomprinter" ≠ "java/lang/invoke/VarHandle" ∧ (parseMethodDescriptor "(II)I").map (fun d => d.parameters.length) = some 2 := ⟨by decide +kernel, by decide +kernel, by decide +kernel⟩
theorem hi_13 : Jvm.Cond.initialized "Plateroomprinter" ∈ lw_tbl := (List.mem_of_getElem? (i := 138) (by decide +kernel))
theorem hs_13 : Jvm.Cond.instanceMethod (⟨"Plateroomprinter", "dot", "(II)I"⟩ : MethodName) ∈ lw_tbl := (List.mem_of_getElem? (i := 1697) (by decide +kernel))
theorem hy_14 : e_ml[14]? = some ((⟨"Plateroomprinter", "dots", "(I)I"⟩ : MethodName), prog_1_method_25_code, 2, (some .int)) := by decide +kernel
theorem hp_14 : plainName "Plateroomprinter" = true := by decide +kernel
theorem hc_14 : Jvm.Cond.code (⟨"Plateroomprinter", "dots", "(I)I"⟩ : MethodName) prog_1_method_25_code 2 (some .int) ∈ lw_tbl := (List.mem_of_getElem? (i := 1290) (by decide +kernel))
theorem hd_14 : "Plateroomprinter" ≠ "java/lang/invoke/MethodHandle" ∧ "Plateroomprinter" ≠ "java/lang/invoke/VarHandle" ∧ (parseMethodDescriptor "(I)I").map (fun d => d.parameters.length) = some 1 := ⟨by decide +kernel, by decide +kernel, by decide +kernel⟩
theorem hi_14 : Jvm.Cond.initialized "Plateroomprinter" ∈ lw_tbl := (List.mem_of_getElem? (i := 138) (by decide +kernel))
theorem hs_14 : Jvm.Cond.instanceMethod (⟨"Plateroomprinter", "dots", "(I)I"⟩ : MethodName) ∈ lw_tbl := (List.mem_of_getElem? (i := 1288) (by decide +kernel))
theorem hy_15 : e_ml[15]? = some ((⟨"Plateroomprinter", "drop", "()I"⟩ : MethodName), prog_1_method_4_code, 2, (some .int)) := by decide +kernel
theorem hp_15 : plainName "Plateroomprinter" = true := by decide +kernel
theorem hc_15 : Jvm.Cond.code (⟨"Plateroomprinter", "drop", "()I"⟩ : MethodName) prog_1_method_4_code 2 (some .int) ∈ lw_tbl := (List.mem_of_getElem? (i := 1607) (by decide +kernel))
theorem hd_15 : "Plateroomprinter" ≠ "java/lang/invoke/MethodHandle" ∧ "Plateroomprinter" ≠ "java/lang/invoke/VarHandle" ∧ (parseMethodDescriptor "()I").map (fun d => d.parameters.length) = some 0 := ⟨by decide +kernel, by decide +kernel, by decide +kernel⟩
theorem hi_15 : Jvm.Cond.initialized "Plateroomprinter" ∈ lw_tbl := (List.mem_of_getElem? (i := 138) (by decide +kernel))
theorem hs_15 : Jvm.Cond.instanceMethod (⟨"Plateroomprinter", "drop", "()I"⟩ : MethodName) ∈ lw_tbl := (List.mem_of_getElem? (i := 1605) (by decide +kernel))
theorem hy_16 : e_ml[16]? = some ((⟨"Plateroomprinter", "fault", "(I)I"⟩ : MethodName), prog_1_method_13_code, 2, (some .int)) := by decide +kernel
theorem hp_16 : plainName "Plateroomprinter" = true := by decide +kernel
theorem hc_16 : Jvm.Cond.code (⟨"Plateroomprinter", "fault", "(I)I"⟩ : MethodName) prog_1_method_13_code 2 (some .int) ∈ lw_tbl := (List.mem_of_getElem? (i := 1462) (by decide +kernel))
theorem hd_16 : "Plateroomprinter" ≠ "java/lang/invoke/MethodHandle" ∧ "Plateroomprinter" ≠ "java/lang/invoke/VarHandle" ∧ (parseMethodDescriptor "(I)I").map (fun d => d.parameters.length) = some 1 := ⟨by decide +kernel, by decide +kernel, by decide +kernel⟩
theorem hi_16 : Jvm.Cond.initialized "Plateroomprinter" ∈ lw_tbl := (List.mem_of_getElem? (i := 138) (by decide +kernel))
theorem hs_16 : Jvm.Cond.instanceMethod (⟨"Plateroomprinter", "fault", "(I)I"⟩ : MethodName) ∈ lw_tbl := (List.mem_of_getElem? (i := 1460) (by decide +kernel))
theorem hy_17 : e_ml[17]? = some ((⟨"Plateroomprinter", "figure", "(II)I"⟩ : MethodName), prog_1_method_39_code, 3, (some .int)) := by decide +kernel
theorem hp_17 : plainName "Plateroomprinter" = true := by decide +kernel
theorem hc_17 : Jvm.Cond.code (⟨"Plateroomprinter", "figure", "(II)I"⟩ : MethodName) prog_1_method_39_code 3 (some .int) ∈ lw_tbl := (List.mem_of_getElem? (i := 1533) (by decide +kernel))
theorem hd_17 : "Plateroomprinter" ≠ "java/lang/invoke/MethodHandle" ∧ "Plateroomprinter" ≠ "java/lang/invoke/VarHandle" ∧ (parseMethodDescriptor "(II)I").map (fun d => d.parameters.length) = some 2 := ⟨by decide +kernel, by decide +kernel, by decide +kernel⟩
theorem hi_17 : Jvm.Cond.initialized "Plateroomprinter" ∈ lw_tbl := (List.mem_of_getElem? (i := 138) (by decide +kernel))
theorem hs_17 : Jvm.Cond.instanceMethod (⟨"Plateroomprinter", "figure", "(II)I"⟩ : MethodName) ∈ lw_tbl := (List.mem_of_getElem? (i := 1531) (by decide +kernel))
theorem hy_18 : e_ml[18]? = some ((⟨"Plateroomprinter", "figures", "()I"⟩ : MethodName), prog_1_method_38_code, 1, (some .int)) := by decide +kernel
theorem hp_18 : plainName "Plateroomprinter" = true := by decide +kernel
theorem hc_18 : Jvm.Cond.code (⟨"Plateroomprinter", "figures", "()I"⟩ : MethodName) prog_1_method_38_code 1 (some .int) ∈ lw_tbl := (List.mem_of_getElem? (i := 1270) (by decide +kernel))
theorem hd_18 : "Plateroomprinter" ≠ "java/lang/invoke/MethodHandle" ∧ "Plateroomprinter" ≠ "java/lang/invoke/VarHandle" ∧ (parseMethodDescriptor "()I").map (fun d => d.parameters.length) = some 0 := ⟨by decide +kernel, by decide +kernel, by decide +kernel⟩
theorem hi_18 : Jvm.Cond.initialized "Plateroomprinter" ∈ lw_tbl := (List.mem_of_getElem? (i := 138) (by decide +kernel))
theorem hs_18 : Jvm.Cond.instanceMethod (⟨"Plateroomprinter", "figures", "()I"⟩ : MethodName) ∈ lw_tbl := (List.mem_of_getElem? (i := 1268) (by decide +kernel))
theorem hy_19 : e_ml[19]? = some ((⟨"Plateroomprinter", "fillPath", "(III[I)V"⟩ : MethodName), prog_1_method_32_code, 5, none) := by decide +kernel
theorem hp_19 : plainName "Plateroomprinter" = true := by decide +kernel
theorem hc_19 : Jvm.Cond.code (⟨"Plateroomprinter", "fillPath", "(III[I)V"⟩ : MethodName) prog_1_method_32_code 5 none ∈ lw_tbl := (List.mem_of_getElem? (i := 1366) (by decide +kernel))
theorem hd_19 : "Plateroomprinter" ≠ "java/lang/invoke/MethodHandle" ∧ "Plateroomprinter" ≠ "java/lang/invoke/VarHandle" ∧ (parseMethodDescriptor "(III[I)V").map (fun d => d.parameters.length) = some 4 := ⟨by decide +kernel, by decide +kernel, by decide +kernel⟩
theorem hi_19 : Jvm.Cond.initialized "Plateroomprinter" ∈ lw_tbl := (List.mem_of_getElem? (i := 138) (by decide +kernel))
theorem hs_19 : Jvm.Cond.instanceMethod (⟨"Plateroomprinter", "fillPath", "(III[I)V"⟩ : MethodName) ∈ lw_tbl := (List.mem_of_getElem? (i := 1365) (by decide +kernel))
theorem hy_20 : e_ml[20]? = some ((⟨"Plateroomprinter", "form", "(II)I"⟩ : MethodName), prog_1_method_23_code, 3, (some .int)) := by decide +kernel
theorem hp_20 : plainName "Plateroomprinter" = true := by decide +kernel
theorem hc_20 : Jvm.Cond.code (⟨"Plateroomprinter", "form", "(II)I"⟩ : MethodName) prog_1_method_23_code 3 (some .int) ∈ lw_tbl := (List.mem_of_getElem? (i := 1523) (by decide +kernel))
theorem hd_20 : "Plateroomprinter" ≠ "java/lang/invoke/MethodHandle" ∧ "Plateroomprinter" ≠ "java/lang/invoke/VarHandle" ∧ (parseMethodDescriptor "(II)I").map (fun d => d.parameters.length) = some 2 := ⟨by decide +kernel, by decide +kernel, by decide +kernel⟩
theorem hi_20 : Jvm.Cond.initialized "Plateroomprinter" ∈ lw_tbl := (List.mem_of_getElem? (i := 138) (by decide +kernel))
theorem hs_20 : Jvm.Cond.instanceMethod (⟨"Plateroomprinter", "form", "(II)I"⟩ : MethodName) ∈ lw_tbl := (List.mem_of_getElem? (i := 1521) (by decide +kernel))
theorem hy_21 : e_ml[21]? = some ((⟨"Plateroomprinter", "fresh", "()I"⟩ : MethodName), prog_1_method_7_code, 2, (some .int)) := by decide +kernel
theorem hp_21 : plainName "Plateroomprinter" = true := by decide +kernel
theorem hc_21 : Jvm.Cond.code (⟨"Plateroomprinter", "fresh", "()I"⟩ : MethodName) prog_1_method_7_code 2 (some .int) ∈ lw_tbl := (List.mem_of_getElem? (i := 1240) (by decide +kernel))
theorem hd_21 : "Plateroomprinter" ≠ "java/lang/invoke/MethodHandle" ∧ "Plateroomprinter" ≠ "java/lang/invoke/VarHandle" ∧ (parseMethodDescriptor "()I").map (fun d => d.parameters.length) = some 0 := ⟨by decide +kernel, by decide +kernel, by decide +kernel⟩
theorem hi_21 : Jvm.Cond.initialized "Plateroomprinter" ∈ lw_tbl := (List.mem_of_getElem? (i := 138) (by decide +kernel))
theorem hs_21 : Jvm.Cond.instanceMethod (⟨"Plateroomprinter", "fresh", "()I"⟩ : MethodName) ∈ lw_tbl := (List.mem_of_getElem? (i := 1238) (by decide +kernel))
theorem hy_22 : e_ml[22]? = some ((⟨"Plateroomprinter", "halves", "(IIII)I"⟩ : MethodName), prog_1_method_28_code, 7, (some .int)) := by decide +kernel
theorem hp_22 : plainName "Plateroomprinter" = true := by decide +kernel
theorem hc_22 : Jvm.Cond.code (⟨"Plateroomprinter", "halves", "(IIII)I"⟩ : MethodName) prog_1_method_28_code 7 (some .int) ∈ lw_tbl := (List.mem_of_getElem? (i := 1679) (by decide +kernel))
theorem hd_22 : "Plateroomprinter" ≠ "java/lang/invoke/MethodHandle" ∧ "Plateroomprinter" ≠ "java/lang/invoke/VarHandle" ∧ (parseMethodDescriptor "(IIII)I").map (fun d => d.parameters.length) = some 4 := ⟨by decide +kernel, by decide +kernel, by decide +kernel⟩
theorem hi_22 : Jvm.Cond.initialized "Plateroomprinter" ∈ lw_tbl := (List.mem_of_getElem? (i := 138) (by decide +kernel))
theorem hs_22 : Jvm.Cond.instanceMethod (⟨"Plateroomprinter", "halves", "(IIII)I"⟩ : MethodName) ∈ lw_tbl := (List.mem_of_getElem? (i := 1677) (by decide +kernel))
theorem hy_23 : e_ml[23]? = some ((⟨"Plateroomprinter", "halvesAgree", "()Z"⟩ : MethodName), prog_1_method_53_code, 4, (some .boolean)) := by decide +kernel
theorem hp_23 : plainName "Plateroomprinter" = true := by decide +kernel
theorem hc_23 : Jvm.Cond.code (⟨"Plateroomprinter", "halvesAgree", "()Z"⟩ : MethodName) prog_1_method_53_code 4 (some .boolean) ∈ lw_tbl := (List.mem_of_getElem? (i := 1380) (by decide +kernel))
theorem hd_23 : "Plateroomprinter" ≠ "java/lang/invoke/MethodHandle" ∧ "Plateroomprinter" ≠ "java/lang/invoke/VarHandle" ∧ (parseMethodDescriptor "()Z").map (fun d => d.parameters.length) = some 0 := ⟨by decide +kernel, by decide +kernel, by decide +kernel⟩
theorem hi_23 : Jvm.Cond.initialized "Plateroomprinter" ∈ lw_tbl := (List.mem_of_getElem? (i := 138) (by decide +kernel))
theorem hs_23 : Jvm.Cond.instanceMethod (⟨"Plateroomprinter", "halvesAgree", "()Z"⟩ : MethodName) ∈ lw_tbl := (List.mem_of_getElem? (i := 1379) (by decide +kernel))
theorem hy_24 : e_ml[24]? = some ((⟨"Plateroomprinter", "has", "(III)Z"⟩ : MethodName), prog_1_method_24_code, 4, (some .boolean)) := by decide +kernel
theorem hp_24 : plainName "Plateroomprinter" = true := by decide +kernel
theorem hc_24 : Jvm.Cond.code (⟨"Plateroomprinter", "has", "(III)Z"⟩ : MethodName) prog_1_method_24_code 4 (some .boolean) ∈ lw_tbl := (List.mem_of_getElem? (i := 1660) (by decide +kernel))
theorem hd_24 : "Plateroomprinter" ≠ "java/lang/invoke/MethodHandle" ∧ "Plateroomprinter" ≠ "java/lang/invoke/VarHandle" ∧ (parseMethodDescriptor "(III)Z").map (fun d => d.parameters.length) = some 3 := ⟨by decide +kernel, by decide +kernel, by decide +kernel⟩
theorem hi_24 : Jvm.Cond.initialized "Plateroomprinter" ∈ lw_tbl := (List.mem_of_getElem? (i := 138) (by decide +kernel))
theorem hs_24 : Jvm.Cond.instanceMethod (⟨"Plateroomprinter", "has", "(III)Z"⟩ : MethodName) ∈ lw_tbl := (List.mem_of_getElem? (i := 1658) (by decide +kernel))
theorem hy_25 : e_ml[25]? = some ((⟨"Plateroomprinter", "inverse", "()I"⟩ : MethodName), prog_1_method_27_code, 1, (some .int)) := by decide +kernel
theorem hp_25 : plainName "Plateroomprinter" = true := by decide +kernel
theorem hc_25 : Jvm.Cond.code (⟨"Plateroomprinter", "inverse", "()I"⟩ : MethodName) prog_1_method_27_code 1 (some .int) ∈ lw_tbl := (List.mem_of_getElem? (i := 1257) (by decide +kernel))
theorem hd_25 : "Plateroomprinter" ≠ "java/lang/invoke/MethodHandle" ∧ "Plateroomprinter" ≠ "java/lang/invoke/VarHandle" ∧ (parseMethodDescriptor "()I").map (fun d => d.parameters.length) = some 0 := ⟨by decide +kernel, by decide +kernel, by decide +kernel⟩
theorem hi_25 : Jvm.Cond.initialized "Plateroomprinter" ∈ lw_tbl := (List.mem_of_getElem? (i := 138) (by decide +kernel))
theorem hs_25 : Jvm.Cond.instanceMethod (⟨"Plateroomprinter", "inverse", "()I"⟩ : MethodName) ∈ lw_tbl := (List.mem_of_getElem? (i := 1255) (by decide +kernel))
theorem hy_26 : e_ml[26]? = some ((⟨"Plateroomprinter", "isOnPage", "(II)Z"⟩ : MethodName), prog_1_method_33_code, 2, (some .boolean)) := by decide +kernel
theorem hp_26 : plainName "Plateroomprinter" = true := by decide +kernel
theorem hc_26 : Jvm.Cond.code (⟨"Plateroomprinter", "isOnPage", "(II)Z"⟩ : MethodName) prog_1_method_33_code 2 (some .boolean) ∈ lw_tbl := (List.mem_of_getElem? (i := 1373) (by decide +kernel))
theorem hd_26 : "Plateroomprinter" ≠ "java/lang/invoke/MethodHandle" ∧ "Plateroomprinter" ≠ "java/lang/invoke/VarHandle" ∧ (parseMethodDescriptor "(II)Z").map (fun d => d.parameters.length) = some 2 := ⟨by decide +kernel, by decide +kernel, by decide +kernel⟩
theorem hi_26 : Jvm.Cond.initialized "Plateroomprinter" ∈ lw_tbl := (List.mem_of_getElem? (i := 138) (by decide +kernel))
theorem hs_26 : Jvm.Cond.static (⟨"Plateroomprinter", "isOnPage", "(II)Z"⟩ : MethodName) ∈ lw_tbl := (List.mem_of_getElem? (i := 1372) (by decide +kernel))
theorem hy_27 : e_ml[27]? = some ((⟨"Plateroomprinter", "isRule", "(I)Z"⟩ : MethodName), prog_1_method_34_code, 1, (some .boolean)) := by decide +kernel
theorem hp_27 : plainName "Plateroomprinter" = true := by decide +kernel
theorem hc_27 : Jvm.Cond.code (⟨"Plateroomprinter", "isRule", "(I)Z"⟩ : MethodName) prog_1_method_34_code 1 (some .boolean) ∈ lw_tbl := (List.mem_of_getElem? (i := 1293) (by decide +kernel))
theorem hd_27 : "Plateroomprinter" ≠ "java/lang/invoke/MethodHandle" ∧ "Plateroomprinter" ≠ "java/lang/invoke/VarHandle" ∧ (parseMethodDescriptor "(I)Z").map (fun d => d.parameters.length) = some 1 := ⟨by decide +kernel, by decide +kernel, by decide +kernel⟩
theorem hi_27 : Jvm.Cond.initialized "Plateroomprinter" ∈ lw_tbl := (List.mem_of_getElem? (i := 138) (by decide +kernel))
theorem hs_27 : Jvm.Cond.static (⟨"Plateroomprinter", "isRule", "(I)Z"⟩ : MethodName) ∈ lw_tbl := (List.mem_of_getElem? (i := 1292) (by decide +kernel))
theorem hy_28 : e_ml[28]? = some ((⟨"Plateroomprinter", "isSet", "([III)Z"⟩ : MethodName), prog_1_method_36_code, 3, (some .boolean)) := by decide +kernel
theorem hp_28 : plainName "Plateroomprinter" = true := by decide +kernel
theorem hc_28 : Jvm.Cond.code (⟨"Plateroomprinter", "isSet", "([III)Z"⟩ : MethodName) prog_1_method_36_code 3 (some .boolean) ∈ lw_tbl := (List.mem_of_getElem? (i := 1376) (by decide +kernel))
theorem hd_28 : "Plateroomprinter" ≠ "java/lang/invoke/MethodHandle" ∧ "Plateroomprinter" ≠ "java/lang/invoke/VarHandle" ∧ (parseMethodDescriptor "([III)Z").map (fun d => d.parameters.length) = some 3 := ⟨by decide +kernel, by decide +kernel, by decide +kernel⟩
theorem hi_28 : Jvm.Cond.initialized "Plateroomprinter" ∈ lw_tbl := (List.mem_of_getElem? (i := 138) (by decide +kernel))
theorem hs_28 : Jvm.Cond.static (⟨"Plateroomprinter", "isSet", "([III)Z"⟩ : MethodName) ∈ lw_tbl := (List.mem_of_getElem? (i := 1375) (by decide +kernel))
theorem hy_29 : e_ml[29]? = some ((⟨"Plateroomprinter", "isSound", "()Z"⟩ : MethodName), prog_1_method_49_code, 2, (some .boolean)) := by decide +kernel
theorem hp_29 : plainName "Plateroomprinter" = true := by decide +kernel
theorem hc_29 : Jvm.Cond.code (⟨"Plateroomprinter", "isSound", "()Z"⟩ : MethodName) prog_1_method_49_code 2 (some .boolean) ∈ lw_tbl := (List.mem_of_getElem? (i := 1274) (by decide +kernel))
theorem hd_29 : "Plateroomprinter" ≠ "java/lang/invoke/MethodHandle" ∧ "Plateroomprinter" ≠ "java/lang/invoke/VarHandle" ∧ (parseMethodDescriptor "()Z").map (fun d => d.parameters.length) = some 0 := ⟨by decide +kernel, by decide +kernel, by decide +kernel⟩
theorem hi_29 : Jvm.Cond.initialized "Plateroomprinter" ∈ lw_tbl := (List.mem_of_getElem? (i := 138) (by decide +kernel))
theorem hs_29 : Jvm.Cond.instanceMethod (⟨"Plateroomprinter", "isSound", "()Z"⟩ : MethodName) ∈ lw_tbl := (List.mem_of_getElem? (i := 1272) (by decide +kernel))
theorem hy_30 : e_ml[30]? = some ((⟨"Plateroomprinter", "isToken", "(II)Z"⟩ : MethodName), prog_1_method_10_code, 2, (some .boolean)) := by decide +kernel
theorem hp_30 : plainName "Plateroomprinter" = true := by decide +kernel
theorem hc_30 : Jvm.Cond.code (⟨"Plateroomprinter", "isToken", "(II)Z"⟩ : MethodName) prog_1_method_10_code 2 (some .boolean) ∈ lw_tbl := (List.mem_of_getElem? (i := 1572) (by decide +kernel))
theorem hd_30 : "Plateroomprinter" ≠ "java/lang/invoke/MethodHandle" ∧ "Plateroomprinter" ≠ "java/lang/invoke/VarHandle" ∧ (parseMethodDescriptor "(II)Z").map (fun d => d.parameters.length) = some 2 := ⟨by decide +kernel, by decide +kernel, by decide +kernel⟩
theorem hi_30 : Jvm.Cond.initialized "Plateroomprinter" ∈ lw_tbl := (List.mem_of_getElem? (i := 138) (by decide +kernel))
theorem hs_30 : Jvm.Cond.static (⟨"Plateroomprinter", "isToken", "(II)Z"⟩ : MethodName) ∈ lw_tbl := (List.mem_of_getElem? (i := 1571) (by decide +kernel))
theorem hy_31 : e_ml[31]? = some ((⟨"Plateroomprinter", "item", "(II)I"⟩ : MethodName), prog_1_method_15_code, 4, (some .int)) := by decide +kernel
theorem hp_31 : plainName "Plateroomprinter" = true := by decide +kernel
theorem hc_31 : Jvm.Cond.code (⟨"Plateroomprinter", "item", "(II)I"⟩ : MethodName) prog_1_method_15_code 4 (some .int) ∈ lw_tbl := (List.mem_of_getElem? (i := 1468) (by decide +kernel))
theorem hd_31 : "Plateroomprinter" ≠ "java/lang/invoke/MethodHandle" ∧ "Plateroomprinter" ≠ "java/lang/invoke/VarHandle" ∧ (parseMethodDescriptor "(II)I").map (fun d => d.parameters.length) = some 2 := ⟨by decide +kernel, by decide +kernel, by decide +kernel⟩
theorem hi_31 : Jvm.Cond.initialized "Plateroomprinter" ∈ lw_tbl := (List.mem_of_getElem? (i := 138) (by decide +kernel))
theorem hs_31 : Jvm.Cond.instanceMethod (⟨"Plateroomprinter", "item", "(II)I"⟩ : MethodName) ∈ lw_tbl := (List.mem_of_getElem? (i := 1466) (by decide +kernel))
theorem hy_32 : e_ml[32]? = some ((⟨"Plateroomprinter", "items", "()I"⟩ : MethodName), prog_1_method_14_code, 1, (some .int)) := by decide +kernel
theorem hp_32 : plainName "Plateroomprinter" = true := by decide +kernel
theorem hc_32 : Jvm.Cond.code (⟨"Plateroomprinter", "items", "()I"⟩ : MethodName) prog_1_method_14_code 1 (some .int) ∈ lw_tbl := (List.mem_of_getElem? (i := 1253) (by decide +kernel))
theorem hd_32 : "Plateroomprinter" ≠ "java/lang/invoke/MethodHandle" ∧ "Plateroomprinter" ≠ "java/lang/invoke/VarHandle" ∧ (parseMethodDescriptor "()I").map (fun d => d.parameters.length) = some 0 := ⟨by decide +kernel, by decide +kernel, by decide +kernel⟩
theorem hi_32 : Jvm.Cond.initialized "Plateroomprinter" ∈ lw_tbl := (List.mem_of_getElem? (i := 138) (by decide +kernel))
theorem hs_32 : Jvm.Cond.instanceMethod (⟨"Plateroomprinter", "items", "()I"⟩ : MethodName) ∈ lw_tbl := (List.mem_of_getElem? (i := 1251) (by decide +kernel))
theorem hy_33 : e_ml[33]? = some ((⟨"Plateroomprinter", "knock", "()I"⟩ : MethodName), prog_1_method_8_code, 1, (some .int)) := by decide +kernel
theorem hp_33 : plainName "Plateroomprinter" = true := by decide +kernel
theorem hc_33 : Jvm.Cond.code (⟨"Plateroomprinter", "knock", "()I"⟩ : MethodName) prog_1_method_8_code 1 (some .int) ∈ lw_tbl := (List.mem_of_getElem? (i := 1245) (by decide +kernel))
theorem hd_33 : "Plateroomprinter" ≠ "java/lang/invoke/MethodHandle" ∧ "Plateroomprinter" ≠ "java/lang/invoke/VarHandle" ∧ (parseMethodDescriptor "()I").map (fun d => d.parameters.length) = some 0 := ⟨by decide +kernel, by decide +kernel, by decide +kernel⟩
theorem hi_33 : Jvm.Cond.initialized "Plateroomprinter" ∈ lw_tbl := (List.mem_of_getElem? (i := 138) (by decide +kernel))
theorem hs_33 : Jvm.Cond.instanceMethod (⟨"Plateroomprinter", "knock", "()I"⟩ : MethodName) ∈ lw_tbl := (List.mem_of_getElem? (i := 1243) (by decide +kernel))
theorem hy_34 : e_ml[34]? = some ((⟨"Plateroomprinter", "last", "(II)I"⟩ : MethodName), prog_1_method_40_code, 4, (some .int)) := by decide +kernel
theorem hp_34 : plainName "Plateroomprinter" = true := by decide +kernel
theorem hc_34 : Jvm.Cond.code (⟨"Plateroomprinter", "last", "(II)I"⟩ : MethodName) prog_1_method_40_code 4 (some .int) ∈ lw_tbl := (List.mem_of_getElem? (i := 1401) (by decide +kernel))
theorem hd_34 : "Plateroomprinter" ≠ "java/lang/invoke/MethodHandle" ∧ "Plateroomprinter" ≠ "java/lang/invoke/VarHandle" ∧ (parseMethodDescriptor "(II)I").map (fun d => d.parameters.length) = some 2 := ⟨by decide +kernel, by decide +kernel, by decide +kernel⟩
theorem hi_34 : Jvm.Cond.initialized "Plateroomprinter" ∈ lw_tbl := (List.mem_of_getElem? (i := 138) (by decide +kernel))
theorem hs_34 : Jvm.Cond.instanceMethod (⟨"Plateroomprinter", "last", "(II)I"⟩ : MethodName) ∈ lw_tbl := (List.mem_of_getElem? (i := 1399) (by decide +kernel))
theorem hy_35 : e_ml[35]? = some ((⟨"Plateroomprinter", "lastDot", "(II)I"⟩ : MethodName), prog_1_method_48_code, 3, (some .int)) := by decide +kernel
theorem hp_35 : plainName "Plateroomprinter" = true := by decide +kernel
theorem hc_35 : Jvm.Cond.code (⟨"Plateroomprinter", "lastDot", "(II)I"⟩ : MethodName) prog_1_method_48_code 3 (some .int) ∈ lw_tbl := (List.mem_of_getElem? (i := 1737) (by decide +kernel))
theorem hd_35 : "Plateroomprinter" ≠ "java/lang/invoke/MethodHandle" ∧ "Plateroomprinter" ≠ "java/lang/invoke/VarHandle" ∧ (parseMethodDescriptor "(II)I").map (fun d => d.parameters.length) = some 2 := ⟨by decide +kernel, by decide +kernel, by decide +kernel⟩
theorem hi_35 : Jvm.Cond.initialized "Plateroomprinter" ∈ lw_tbl := (List.mem_of_getElem? (i := 138) (by decide +kernel))
theorem hs_35 : Jvm.Cond.instanceMethod (⟨"Plateroomprinter", "lastDot", "(II)I"⟩ : MethodName) ∈ lw_tbl := (List.mem_of_getElem? (i := 1735) (by decide +kernel))
theorem hy_36 : e_ml[36]? = some ((⟨"Plateroomprinter", "lastTells", "(I)Z"⟩ : MethodName), prog_1_method_54_code, 8, (some .boolean)) := by decide +kernel
theorem hp_36 : plainName "Plateroomprinter" = true := by decide +kernel
theorem hc_36 : Jvm.Cond.code (⟨"Plateroomprinter", "lastTells", "(I)Z"⟩ : MethodName) prog_1_method_54_code 8 (some .boolean) ∈ lw_tbl := (List.mem_of_getElem? (i := 1397) (by decide +kernel))
theorem hd_36 : "Plateroomprinter" ≠ "java/lang/invoke/MethodHandle" ∧ "Plateroomprinter" ≠ "java/lang/invoke/VarHandle" ∧ (parseMethodDescriptor "(I)Z").map (fun d => d.parameters.length) = some 1 := ⟨by decide +kernel, by decide +kernel, by decide +kernel⟩
theorem hi_36 : Jvm.Cond.initialized "Plateroomprinter" ∈ lw_tbl := (List.mem_of_getElem? (i := 138) (by decide +kernel))
theorem hs_36 : Jvm.Cond.instanceMethod (⟨"Plateroomprinter", "lastTells", "(I)Z"⟩ : MethodName) ∈ lw_tbl := (List.mem_of_getElem? (i := 1396) (by decide +kernel))
theorem hy_37 : e_ml[37]? = some ((⟨"Plateroomprinter", "matrix", "(II)I"⟩ : MethodName), prog_1_method_20_code, 3, (some .int)) := by decide +kernel
theorem hp_37 : plainName "Plateroomprinter" = true := by decide +kernel
theorem hc_37 : Jvm.Cond.code (⟨"Plateroomprinter", "matrix", "(II)I"⟩ : MethodName) prog_1_method_20_code 3 (some .int) ∈ lw_tbl := (List.mem_of_getElem? (i := 1503) (by decide +kernel))
theorem hd_37 : "Plateroomprinter" ≠ "java/lang/invoke/MethodHandle" ∧ "Plateroomprinter" ≠ "java/lang/invoke/VarHandle" ∧ (parseMethodDescriptor "(II)I").map (fun d => d.parameters.length) = some 2 := ⟨by decide +kernel, by decide +kernel, by decide +kernel⟩
theorem hi_37 : Jvm.Cond.initialized "Plateroomprinter" ∈ lw_tbl := (List.mem_of_getElem? (i := 138) (by decide +kernel))
theorem hs_37 : Jvm.Cond.instanceMethod (⟨"Plateroomprinter", "matrix", "(II)I"⟩ : MethodName) ∈ lw_tbl := (List.mem_of_getElem? (i := 1501) (by decide +kernel))
theorem hy_38 : e_ml[38]? = some ((⟨"Plateroomprinter", "moved", "(III)I"⟩ : MethodName), prog_1_method_26_code, 4, (some .int)) := by decide +kernel
theorem hp_38 : plainName "Plateroomprinter" = true := by decide +kernel
theorem hc_38 : Jvm.Cond.code (⟨"Plateroomprinter", "moved", "(III)I"⟩ : MethodName) prog_1_method_26_code 4 (some .int) ∈ lw_tbl := (List.mem_of_getElem? (i := 1671) (by decide +kernel))
theorem hd_38 : "Plateroomprinter" ≠ "java/lang/invoke/MethodHandle" ∧ "Plateroomprinter" ≠ "java/lang/invoke/VarHandle" ∧ (parseMethodDescriptor "(III)I").map (fun d => d.parameters.length) = some 3 := ⟨by decide +kernel, by decide +kernel, by decide +kernel⟩
theorem hi_38 : Jvm.Cond.initialized "Plateroomprinter" ∈ lw_tbl := (List.mem_of_getElem? (i := 138) (by decide +kernel))
theorem hs_38 : Jvm.Cond.instanceMethod (⟨"Plateroomprinter", "moved", "(III)I"⟩ : MethodName) ∈ lw_tbl := (List.mem_of_getElem? (i := 1669) (by decide +kernel))
theorem hy_39 : e_ml[39]? = some ((⟨"Plateroomprinter", "movesAlong", "(II)Z"⟩ : MethodName), prog_1_method_52_code, 5, (some .boolean)) := by decide +kernel
theorem hp_39 : plainName "Plateroomprinter" = true := by decide +kernel
theorem hc_39 : Jvm.Cond.code (⟨"Plateroomprinter", "movesAlong", "(II)Z"⟩ : MethodName) prog_1_method_52_code 5 (some .boolean) ∈ lw_tbl := (List.mem_of_getElem? (i := 1370) (by decide +kernel))
theorem hd_39 : "Plateroomprinter" ≠ "java/lang/invoke/MethodHandle" ∧ "Plateroomprinter" ≠ "java/lang/invoke/VarHandle" ∧ (parseMethodDescriptor "(II)Z").map (fun d => d.parameters.length) = some 2 := ⟨by decide +kernel, by decide +kernel, by decide +kernel⟩
theorem hi_39 : Jvm.Cond.initialized "Plateroomprinter" ∈ lw_tbl := (List.mem_of_getElem? (i := 138) (by decide +kernel))
theorem hs_39 : Jvm.Cond.instanceMethod (⟨"Plateroomprinter", "movesAlong", "(II)Z"⟩ : MethodName) ∈ lw_tbl := (List.mem_of_getElem? (i := 1369) (by decide +kernel))
theorem hy_40 : e_ml[40]? = some ((⟨"Plateroomprinter", "name", "(II)I"⟩ : MethodName), prog_1_method_16_code, 3, (some .int)) := by decide +kernel
theorem hp_40 : plainName "Plateroomprinter" = true := by decide +kernel
theorem hc_40 : Jvm.Cond.code (⟨"Plateroomprinter", "name", "(II)I"⟩ : MethodName) prog_1_method_16_code 3 (some .int) ∈ lw_tbl := (List.mem_of_getElem? (i := 1480) (by decide +kernel))
theorem hd_40 : "Plateroomprinter" ≠ "java/lang/invoke/MethodHandle" ∧ "Plateroomprinter" ≠ "java/lang/invoke/VarHandle" ∧ (parseMethodDescriptor "(II)I").map (fun d => d.parameters.length) = some 2 := ⟨by decide +kernel, by decide +kernel, by decide +kernel⟩
theorem hi_40 : Jvm.Cond.initialized "Plateroomprinter" ∈ lw_tbl := (List.mem_of_getElem? (i := 138) (by decide +kernel))
theorem hs_40 : Jvm.Cond.instanceMethod (⟨"Plateroomprinter", "name", "(II)I"⟩ : MethodName) ∈ lw_tbl := (List.mem_of_getElem? (i := 1478) (by decide +kernel))
theorem hy_41 : e_ml[41]? = some ((⟨"Plateroomprinter", "pack", "(I)I"⟩ : MethodName), prog_1_method_57_code, 8, (some .int)) := by decide +kernel
theorem hp_41 : plainName "Plateroomprinter" = true := by decide +kernel
theorem hc_41 : Jvm.Cond.code (⟨"Plateroomprinter", "pack", "(I)I"⟩ : MethodName) prog_1_method_57_code 8 (some .int) ∈ lw_tbl := (List.mem_of_getElem? (i := 1431) (by decide +kernel))
theorem hd_41 : "Plateroomprinter" ≠ "java/lang/invoke/MethodHandle" ∧ "Plateroomprinter" ≠ "java/lang/invoke/VarHandle" ∧ (parseMethodDescriptor "(I)I").map (fun d => d.parameters.length) = some 1 := ⟨by decide +kernel, by decide +kernel, by decide +kernel⟩
theorem hi_41 : Jvm.Cond.initialized "Plateroomprinter" ∈ lw_tbl := (List.mem_of_getElem? (i := 138) (by decide +kernel))
theorem hs_41 : Jvm.Cond.instanceMethod (⟨"Plateroomprinter", "pack", "(I)I"⟩ : MethodName) ∈ lw_tbl := (List.mem_of_getElem? (i := 1430) (by decide +kernel))
theorem hy_42 : e_ml[42]? = some ((⟨"Plateroomprinter", "packsAgree", "()Z"⟩ : MethodName), prog_1_method_55_code, 5, (some .boolean)) := by decide +kernel
theorem hp_42 : plainName "Plateroomprinter" = true := by decide +kernel
theorem hc_42 : Jvm.Cond.code (⟨"Plateroomprinter", "packsAgree", "()Z"⟩ : MethodName) prog_1_method_55_code 5 (some .boolean) ∈ lw_tbl := (List.mem_of_getElem? (i := 1427) (by decide +kernel))
theorem hd_42 : "Plateroomprinter" ≠ "java/lang/invoke/MethodHandle" ∧ "Plateroomprinter" ≠ "java/lang/invoke/VarHandle" ∧ (parseMethodDescriptor "()Z").map (fun d => d.parameters.length) = some 0 := ⟨by decide +kernel, by decide +kernel, by decide +kernel⟩
theorem hi_42 : Jvm.Cond.initialized "Plateroomprinter" ∈ lw_tbl := (List.mem_of_getElem? (i := 138) (by decide +kernel))
theorem hs_42 : Jvm.Cond.instanceMethod (⟨"Plateroomprinter", "packsAgree", "()Z"⟩ : MethodName) ∈ lw_tbl := (List.mem_of_getElem? (i := 1426) (by decide +kernel))
theorem hy_43 : e_ml[43]? = some ((⟨"Plateroomprinter", "page", "(I)I"⟩ : MethodName), prog_1_method_47_code, 2, (some .int)) := by decide +kernel
theorem hp_43 : plainName "Plateroomprinter" = true := by decide +kernel
theorem hc_43 : Jvm.Cond.code (⟨"Plateroomprinter", "page", "(I)I"⟩ : MethodName) prog_1_method_47_code 2 (some .int) ∈ lw_tbl := (List.mem_of_getElem? (i := 1553) (by decide +kernel))
theorem hd_43 : "Plateroomprinter" ≠ "java/lang/invoke/MethodHandle" ∧ "Plateroomprinter" ≠ "java/lang/invoke/VarHandle" ∧ (parseMethodDescriptor "(I)I").map (fun d => d.parameters.length) = some 1 := ⟨by decide +kernel, by decide +kernel, by decide +kernel⟩
theorem hi_43 : Jvm.Cond.initialized "Plateroomprinter" ∈ lw_tbl := (List.mem_of_getElem? (i := 138) (by decide +kernel))
theorem hs_43 : Jvm.Cond.instanceMethod (⟨"Plateroomprinter", "page", "(I)I"⟩ : MethodName) ∈ lw_tbl := (List.mem_of_getElem? (i := 1551) (by decide +kernel))
theorem hy_44 : e_ml[44]? = some ((⟨"Plateroomprinter", "point", "(III)I"⟩ : MethodName), prog_1_method_22_code, 6, (some .int)) := by decide +kernel
theorem hp_44 : plainName "Plateroomprinter" = true := by decide +kernel
theorem hc_44 : Jvm.Cond.code (⟨"Plateroomprinter", "point", "(III)I"⟩ : MethodName) prog_1_method_22_code 6 (some .int) ∈ lw_tbl := (List.mem_of_getElem? (i := 1518) (by decide +kernel))
theorem hd_44 : "Plateroomprinter" ≠ "java/lang/invoke/MethodHandle" ∧ "Plateroomprinter" ≠ "java/lang/invoke/VarHandle" ∧ (parseMethodDescriptor "(III)I").map (fun d => d.parameters.length) = some 3 := ⟨by decide +kernel, by decide +kernel, by decide +kernel⟩
theorem hi_44 : Jvm.Cond.initialized "Plateroomprinter" ∈ lw_tbl := (List.mem_of_getElem? (i := 138) (by decide +kernel))
theorem hs_44 : Jvm.Cond.instanceMethod (⟨"Plateroomprinter", "point", "(III)I"⟩ : MethodName) ∈ lw_tbl := (List.mem_of_getElem? (i := 1516) (by decide +kernel))
theorem hy_45 : e_ml[45]? = some ((⟨"Plateroomprinter", "ring", "(II)I"⟩ : MethodName), prog_1_method_21_code, 4, (some .int)) := by decide +kernel
theorem hp_45 : plainName "Plateroomprinter" = true := by decide +kernel
theorem hc_45 : Jvm.Cond.code (⟨"Plateroomprinter", "ring", "(II)I"⟩ : MethodName) prog_1_method_21_code 4 (some .int) ∈ lw_tbl := (List.mem_of_getElem? (i := 1513) (by decide +kernel))
theorem hd_45 : "Plateroomprinter" ≠ "java/lang/invoke/MethodHandle" ∧ "Plateroomprinter" ≠ "java/lang/invoke/VarHandle" ∧ (parseMethodDescriptor "(II)I").map (fun d => d.parameters.length) = some 2 := ⟨by decide +kernel, by decide +kernel, by decide +kernel⟩
theorem hi_45 : Jvm.Cond.initialized "Plateroomprinter" ∈ lw_tbl := (List.mem_of_getElem? (i := 138) (by decide +kernel))
theorem hs_45 : Jvm.Cond.instanceMethod (⟨"Plateroomprinter", "ring", "(II)I"⟩ : MethodName) ∈ lw_tbl := (List.mem_of_getElem? (i := 1511) (by decide +kernel))
theorem hy_46 : e_ml[46]? = some ((⟨"Plateroomprinter", "row", "(II)I"⟩ : MethodName), prog_1_method_42_code, 3, (some .int)) := by decide +kernel
theorem hp_46 : plainName "Plateroomprinter" = true := by decide +kernel
theorem hc_46 : Jvm.Cond.code (⟨"Plateroomprinter", "row", "(II)I"⟩ : MethodName) prog_1_method_42_code 3 (some .int) ∈ lw_tbl := (List.mem_of_getElem? (i := 1539) (by decide +kernel))
theorem hd_46 : "Plateroomprinter" ≠ "java/lang/invoke/MethodHandle" ∧ "Plateroomprinter" ≠ "java/lang/invoke/VarHandle" ∧ (parseMethodDescriptor "(II)I").map (fun d => d.parameters.length) = some 2 := ⟨by decide +kernel, by decide +kernel, by decide +kernel⟩
theorem hi_46 : Jvm.Cond.initialized "Plateroomprinter" ∈ lw_tbl := (List.mem_of_getElem? (i := 138) (by decide +kernel))
theorem hs_46 : Jvm.Cond.instanceMethod (⟨"Plateroomprinter", "row", "(II)I"⟩ : MethodName) ∈ lw_tbl := (List.mem_of_getElem? (i := 1537) (by decide +kernel))
theorem hy_47 : e_ml[47]? = some ((⟨"Plateroomprinter", "run", "()I"⟩ : MethodName), prog_1_method_6_code, 3, (some .int)) := by decide +kernel
theorem hp_47 : plainName "Plateroomprinter" = true := by decide +kernel
theorem hc_47 : Jvm.Cond.code (⟨"Plateroomprinter", "run", "()I"⟩ : MethodName) prog_1_method_6_code 3 (some .int) ∈ lw_tbl := (List.mem_of_getElem? (i := 739) (by decide +kernel))
theorem hd_47 : "Plateroomprinter" ≠ "java/lang/invoke/MethodHandle" ∧ "Plateroomprinter" ≠ "java/lang/invoke/VarHandle" ∧ (parseMethodDescriptor "()I").map (fun d => d.parameters.length) = some 0 := ⟨by decide +kernel, by decide +kernel, by decide +kernel⟩
theorem hi_47 : Jvm.Cond.initialized "Plateroomprinter" ∈ lw_tbl := (List.mem_of_getElem? (i := 138) (by decide +kernel))
theorem hs_47 : Jvm.Cond.instanceMethod (⟨"Plateroomprinter", "run", "()I"⟩ : MethodName) ∈ lw_tbl := (List.mem_of_getElem? (i := 737) (by decide +kernel))
theorem hy_48 : e_ml[48]? = some ((⟨"Plateroomprinter", "runAt", "(II)I"⟩ : MethodName), prog_1_method_46_code, 4, (some .int)) := by decide +kernel
theorem hp_48 : plainName "Plateroomprinter" = true := by decide +kernel
theorem hc_48 : Jvm.Cond.code (⟨"Plateroomprinter", "runAt", "(II)I"⟩ : MethodName) prog_1_method_46_code 4 (some .int) ∈ lw_tbl := (List.mem_of_getElem? (i := 1726) (by decide +kernel))
theorem hd_48 : "Plateroomprinter" ≠ "java/lang/invoke/MethodHandle" ∧ "Plateroomprinter" ≠ "java/lang/invoke/VarHandle" ∧ (parseMethodDescriptor "(II)I").map (fun d => d.parameters.length) = some 2 := ⟨by decide +kernel, by decide +kernel, by decide +kernel⟩
theorem hi_48 : Jvm.Cond.initialized "Plateroomprinter" ∈ lw_tbl := (List.mem_of_getElem? (i := 138) (by decide +kernel))
theorem hs_48 : Jvm.Cond.instanceMethod (⟨"Plateroomprinter", "runAt", "(II)I"⟩ : MethodName) ∈ lw_tbl := (List.mem_of_getElem? (i := 1724) (by decide +kernel))
theorem hy_49 : e_ml[49]? = some ((⟨"Plateroomprinter", "runs", "(I)I"⟩ : MethodName), prog_1_method_45_code, 2, (some .int)) := by decide +kernel
theorem hp_49 : plainName "Plateroomprinter" = true := by decide +kernel
theorem hc_49 : Jvm.Cond.code (⟨"Plateroomprinter", "runs", "(I)I"⟩ : MethodName) prog_1_method_45_code 2 (some .int) ∈ lw_tbl := (List.mem_of_getElem? (i := 1549) (by decide +kernel))
theorem hd_49 : "Plateroomprinter" ≠ "java/lang/invoke/MethodHandle" ∧ "Plateroomprinter" ≠ "java/lang/invoke/VarHandle" ∧ (parseMethodDescriptor "(I)I").map (fun d => d.parameters.length) = some 1 := ⟨by decide +kernel, by decide +kernel, by decide +kernel⟩
theorem hi_49 : Jvm.Cond.initialized "Plateroomprinter" ∈ lw_tbl := (List.mem_of_getElem? (i := 138) (by decide +kernel))
theorem hs_49 : Jvm.Cond.instanceMethod (⟨"Plateroomprinter", "runs", "(I)I"⟩ : MethodName) ∈ lw_tbl := (List.mem_of_getElem? (i := 1547) (by decide +kernel))
theorem hy_50 : e_ml[50]? = some ((⟨"Plateroomprinter", "setFault", "(III)V"⟩ : MethodName), prog_1_method_9_code, 4, none) := by decide +kernel
theorem hp_50 : plainName "Plateroomprinter" = true := by decide +kernel
theorem hc_50 : Jvm.Cond.code (⟨"Plateroomprinter", "setFault", "(III)V"⟩ : MethodName) prog_1_method_9_code 4 none ∈ lw_tbl := (List.mem_of_getElem? (i := 1228) (by decide +kernel))
theorem hd_50 : "Plateroomprinter" ≠ "java/lang/invoke/MethodHandle" ∧ "Plateroomprinter" ≠ "java/lang/invoke/VarHandle" ∧ (parseMethodDescriptor "(III)V").map (fun d => d.parameters.length) = some 3 := ⟨by decide +kernel, by decide +kernel, by decide +kernel⟩
theorem hi_50 : Jvm.Cond.initialized "Plateroomprinter" ∈ lw_tbl := (List.mem_of_getElem? (i := 138) (by decide +kernel))
theorem hs_50 : Jvm.Cond.instanceMethod (⟨"Plateroomprinter", "setFault", "(III)V"⟩ : MethodName) ∈ lw_tbl := (List.mem_of_getElem? (i := 1227) (by decide +kernel))
theorem hy_51 : e_ml[51]? = some ((⟨"Plateroomprinter", "state", "(I)I"⟩ : MethodName), prog_1_method_19_code, 3, (some .int)) := by decide +kernel
theorem hp_51 : plainName "Plateroomprinter" = true := by decide +kernel
theorem hc_51 : Jvm.Cond.code (⟨"Plateroomprinter", "state", "(I)I"⟩ : MethodName) prog_1_method_19_code 3 (some .int) ∈ lw_tbl := (List.mem_of_getElem? (i := 1498) (by decide +kernel))
theorem hd_51 : "Plateroomprinter" ≠ "java/lang/invoke/MethodHandle" ∧ "Plateroomprinter" ≠ "java/lang/invoke/VarHandle" ∧ (parseMethodDescriptor "(I)I").map (fun d => d.parameters.length) = some 1 := ⟨by decide +kernel, by decide +kernel, by decide +kernel⟩
theorem hi_51 : Jvm.Cond.initialized "Plateroomprinter" ∈ lw_tbl := (List.mem_of_getElem? (i := 138) (by decide +kernel))
theorem hs_51 : Jvm.Cond.instanceMethod (⟨"Plateroomprinter", "state", "(I)I"⟩ : MethodName) ∈ lw_tbl := (List.mem_of_getElem? (i := 1496) (by decide +kernel))
theorem hy_52 : e_ml[52]? = some ((⟨"Plateroomprinter", "tell", "(II)I"⟩ : MethodName), prog_1_method_58_code, 6, (some .int)) := by decide +kernel
theorem hp_52 : plainName "Plateroomprinter" = true := by decide +kernel
theorem hc_52 : Jvm.Cond.code (⟨"Plateroomprinter", "tell", "(II)I"⟩ : MethodName) prog_1_method_58_code 6 (some .int) ∈ lw_tbl := (List.mem_of_getElem? (i := 1435) (by decide +kernel))
theorem hd_52 : "Plateroomprinter" ≠ "java/lang/invoke/MethodHandle" ∧ "Plateroomprinter" ≠ "java/lang/invoke/VarHandle" ∧ (parseMethodDescriptor "(II)I").map (fun d => d.parameters.length) = some 2 := ⟨by decide +kernel, by decide +kernel, by decide +kernel⟩
theorem hi_52 : Jvm.Cond.initialized "Plateroomprinter" ∈ lw_tbl := (List.mem_of_getElem? (i := 138) (by decide +kernel))
theorem hs_52 : Jvm.Cond.instanceMethod (⟨"Plateroomprinter", "tell", "(II)I"⟩ : MethodName) ∈ lw_tbl := (List.mem_of_getElem? (i := 1434) (by decide +kernel))
theorem hy_53 : e_ml[53]? = some ((⟨"Plateroomprinter", "three", "(IIIIII)I"⟩ : MethodName), prog_1_method_3_code, 7, (some .int)) := by decide +kernel
theorem hp_53 : plainName "Plateroomprinter" = true := by decide +kernel
theorem hc_53 : Jvm.Cond.code (⟨"Plateroomprinter", "three", "(IIIIII)I"⟩ : MethodName) prog_1_method_3_code 7 (some .int) ∈ lw_tbl := (List.mem_of_getElem? (i := 1600) (by decide +kernel))
theorem hd_53 : "Plateroomprinter" ≠ "java/lang/invoke/MethodHandle" ∧ "Plateroomprinter" ≠ "java/lang/invoke/VarHandle" ∧ (parseMethodDescriptor "(IIIIII)I").map (fun d => d.parameters.length) = some 6 := ⟨by decide +kernel, by decide +kernel, by decide +kernel⟩
theorem hi_53 : Jvm.Cond.initialized "Plateroomprinter" ∈ lw_tbl := (List.mem_of_getElem? (i := 138) (by decide +kernel))
theorem hs_53 : Jvm.Cond.instanceMethod (⟨"Plateroomprinter", "three", "(IIIIII)I"⟩ : MethodName) ∈ lw_tbl := (List.mem_of_getElem? (i := 1598) (by decide +kernel))
theorem hy_54 : e_ml[54]? = some ((⟨"Plateroomprinter", "token", "(II)I"⟩ : MethodName), prog_1_method_2_code, 3, (some .int)) := by decide +kernel
theorem hp_54 : plainName "Plateroomprinter" = true := by decide +kernel
theorem hc_54 : Jvm.Cond.code (⟨"Plateroomprinter", "token", "(II)I"⟩ : MethodName) prog_1_method_2_code 3 (some .int) ∈ lw_tbl := (List.mem_of_getElem? (i := 1569) (by decide +kernel))
theorem hd_54 : "Plateroomprinter" ≠ "java/lang/invoke/MethodHandle" ∧ "Plateroomprinter" ≠ "java/lang/invoke/VarHandle" ∧ (parseMethodDescriptor "(II)I").map (fun d => d.parameters.length) = some 2 := ⟨by decide +kernel, by decide +kernel, by decide +kernel⟩
theorem hi_54 : Jvm.Cond.initialized "Plateroomprinter" ∈ lw_tbl := (List.mem_of_getElem? (i := 138) (by decide +kernel))
theorem hs_54 : Jvm.Cond.instanceMethod (⟨"Plateroomprinter", "token", "(II)I"⟩ : MethodName) ∈ lw_tbl := (List.mem_of_getElem? (i := 1567) (by decide +kernel))
theorem hy_55 : e_ml[55]? = some ((⟨"Plateroomprinter", "tokenAt", "(II)I"⟩ : MethodName), prog_1_method_12_code, 3, (some .int)) := by decide +kernel
theorem hp_55 : plainName "Plateroomprinter" = true := by decide +kernel
theorem hc_55 : Jvm.Cond.code (⟨"Plateroomprinter", "tokenAt", "(II)I"⟩ : MethodName) prog_1_method_12_code 3 (some .int) ∈ lw_tbl := (List.mem_of_getElem? (i := 1454) (by decide +kernel))
theorem hd_55 : "Plateroomprinter" ≠ "java/lang/invoke/MethodHandle" ∧ "Plateroomprinter" ≠ "java/lang/invoke/VarHandle" ∧ (parseMethodDescriptor "(II)I").map (fun d => d.parameters.length) = some 2 := ⟨by decide +kernel, by decide +kernel, by decide +kernel⟩
theorem hi_55 : Jvm.Cond.initialized "Plateroomprinter" ∈ lw_tbl := (List.mem_of_getElem? (i := 138) (by decide +kernel))
theorem hs_55 : Jvm.Cond.instanceMethod (⟨"Plateroomprinter", "tokenAt", "(II)I"⟩ : MethodName) ∈ lw_tbl := (List.mem_of_getElem? (i := 1452) (by decide +kernel))
theorem hy_56 : e_ml[56]? = some ((⟨"Plateroomprinter", "tokens", "()I"⟩ : MethodName), prog_1_method_11_code, 1, (some .int)) := by decide +kernel
theorem hp_56 : plainName "Plateroomprinter" = true := by decide +kernel
theorem hc_56 : Jvm.Cond.code (⟨"Plateroomprinter", "tokens", "()I"⟩ : MethodName) prog_1_method_11_code 1 (some .int) ∈ lw_tbl := (List.mem_of_getElem? (i := 1249) (by decide +kernel))
theorem hd_56 : "Plateroomprinter" ≠ "java/lang/invoke/MethodHandle" ∧ "Plateroomprinter" ≠ "java/lang/invoke/VarHandle" ∧ (parseMethodDescriptor "()I").map (fun d => d.parameters.length) = some 0 := ⟨by decide +kernel, by decide +kernel, by decide +kernel⟩
theorem hi_56 : Jvm.Cond.initialized "Plateroomprinter" ∈ lw_tbl := (List.mem_of_getElem? (i := 138) (by decide +kernel))
theorem hs_56 : Jvm.Cond.instanceMethod (⟨"Plateroomprinter", "tokens", "()I"⟩ : MethodName) ∈ lw_tbl := (List.mem_of_getElem? (i := 1247) (by decide +kernel))
theorem hy_57 : e_ml[57]? = some ((⟨"Plateroomprinter", "unpack", "(I[I)Z"⟩ : MethodName), prog_1_method_56_code, 7, (some .boolean)) := by decide +kernel
theorem hp_57 : plainName "Plateroomprinter" = true := by decide +kernel
theorem hc_57 : Jvm.Cond.code (⟨"Plateroomprinter", "unpack", "(I[I)Z"⟩ : MethodName) prog_1_method_56_code 7 (some .boolean) ∈ lw_tbl := (List.mem_of_getElem? (i := 1439) (by decide +kernel))
theorem hd_57 : "Plateroomprinter" ≠ "java/lang/invoke/MethodHandle" ∧ "Plateroomprinter" ≠ "java/lang/invoke/VarHandle" ∧ (parseMethodDescriptor "(I[I)Z").map (fun d => d.parameters.length) = some 2 := ⟨by decide +kernel, by decide +kernel, by decide +kernel⟩
theorem hi_57 : Jvm.Cond.initialized "Plateroomprinter" ∈ lw_tbl := (List.mem_of_getElem? (i := 138) (by decide +kernel))
theorem hs_57 : Jvm.Cond.instanceMethod (⟨"Plateroomprinter", "unpack", "(I[I)Z"⟩ : MethodName) ∈ lw_tbl := (List.mem_of_getElem? (i := 1438) (by decide +kernel))
theorem hy_58 : e_ml[58]? = some ((⟨"Plateroomprinter", "wipe", "()I"⟩ : MethodName), prog_1_method_5_code, 2, (some .int)) := by decide +kernel
theorem hp_58 : plainName "Plateroomprinter" = true := by decide +kernel
theorem hc_58 : Jvm.Cond.code (⟨"Plateroomprinter", "wipe", "()I"⟩ : MethodName) prog_1_method_5_code 2 (some .int) ∈ lw_tbl := (List.mem_of_getElem? (i := 735) (by decide +kernel))
theorem hd_58 : "Plateroomprinter" ≠ "java/lang/invoke/MethodHandle" ∧ "Plateroomprinter" ≠ "java/lang/invoke/VarHandle" ∧ (parseMethodDescriptor "()I").map (fun d => d.parameters.length) = some 0 := ⟨by decide +kernel, by decide +kernel, by decide +kernel⟩
theorem hi_58 : Jvm.Cond.initialized "Plateroomprinter" ∈ lw_tbl := (List.mem_of_getElem? (i := 138) (by decide +kernel))
theorem hs_58 : Jvm.Cond.instanceMethod (⟨"Plateroomprinter", "wipe", "()I"⟩ : MethodName) ∈ lw_tbl := (List.mem_of_getElem? (i := 733) (by decide +kernel))
theorem hy_59 : e_ml[59]? = some ((⟨"Plateroomprinter$Code", "<init>", "()V"⟩ : MethodName), prog_2_method_1_code, 1, none) := by decide +kernel
theorem hp_59 : plainName "Plateroomprinter$Code" = true := by decide +kernel
theorem hc_59 : Jvm.Cond.code (⟨"Plateroomprinter$Code", "<init>", "()V"⟩ : MethodName) prog_2_method_1_code 1 none ∈ lw_tbl := (List.mem_of_getElem? (i := 196) (by decide +kernel))
theorem hd_59 : "Plateroomprinter$Code" ≠ "java/lang/invoke/MethodHandle" ∧ "Plateroomprinter$Code" ≠ "java/lang/invoke/VarHandle" ∧ (parseMethodDescriptor "()V").map (fun d => d.parameters.length) = some 0 := ⟨by decide +kernel, by decide +kernel, by decide +kernel⟩
theorem hi_59 : Jvm.Cond.initialized "Plateroomprinter$Code" ∈ lw_tbl := (List.mem_of_getElem? (i := 139) (by decide +kernel))
theorem hs_59 : Jvm.Cond.instanceMethod (⟨"Plateroomprinter$Code", "<init>", "()V"⟩ : MethodName) ∈ lw_tbl := (List.mem_of_getElem? (i := 195) (by decide +kernel))
theorem hy_60 : e_ml[60]? = some ((⟨"Plateroomprinter$Code", "append", "(II)V"⟩ : MethodName), prog_2_method_2_code, 4, none) := by decide +kernel
theorem hp_60 : plainName "Plateroomprinter$Code" = true := by decide +kernel
theorem hc_60 : Jvm.Cond.code (⟨"Plateroomprinter$Code", "append", "(II)V"⟩ : MethodName) prog_2_method_2_code 4 none ∈ lw_tbl := (List.mem_of_getElem? (i := 1593) (by decide +kernel))
theorem hd_60 : "Plateroomprinter$Code" ≠ "java/lang/invoke/MethodHandle" ∧ "Plateroomprinter$Code" ≠ "java/lang/invoke/VarHandle" ∧ (parseMethodDescriptor "(II)V").map (fun d => d.parameters.length) = some 2 := ⟨by decide +kernel, by decide +kernel, by decide +kernel⟩
theorem hi_60 : Jvm.Cond.initialized "Plateroomprinter$Code" ∈ lw_tbl := (List.mem_of_getElem? (i := 139) (by decide +kernel))
theorem hs_60 : Jvm.Cond.instanceMethod (⟨"Plateroomprinter$Code", "append", "(II)V"⟩ : MethodName) ∈ lw_tbl := (List.mem_of_getElem? (i := 1591) (by decide +kernel))
theorem hy_61 : e_ml[61]? = some ((⟨"Plateroomprinter$Code", "retire", "()V"⟩ : MethodName), prog_2_method_6_code, 1, none) := by decide +kernel
theorem hp_61 : plainName "Plateroomprinter$Code" = true := by decide +kernel
theorem hc_61 : Jvm.Cond.code (⟨"Plateroomprinter$Code", "retire", "()V"⟩ : MethodName) prog_2_method_6_code 1 none ∈ lw_tbl := (List.mem_of_getElem? (i := 1236) (by decide +kernel))
theorem hd_61 : "Plateroomprinter$Code" ≠ "java/lang/invoke/MethodHandle" ∧ "Plateroomprinter$Code" ≠ "java/lang/invoke/VarHandle" ∧ (parseMethodDescriptor "()V").map (fun d => d.parameters.length) = some 0 := ⟨by decide +kernel, by decide +kernel, by decide +kernel⟩
theorem hi_61 : Jvm.Cond.initialized "Plateroomprinter$Code" ∈ lw_tbl := (List.mem_of_getElem? (i := 139) (by decide +kernel))
theorem hs_61 : Jvm.Cond.instanceMethod (⟨"Plateroomprinter$Code", "retire", "()V"⟩ : MethodName) ∈ lw_tbl := (List.mem_of_getElem? (i := 1234) (by decide +kernel))
theorem hy_62 : e_ml[62]? = some ((⟨"Plateroomprinter$Engine", "<init>", "(LPlateroomprinter$World;LPlateroomprinter$Code;)V"⟩ : MethodName), prog_3_method_1_code, 3, none) := by decide +kernel
theorem hp_62 : plainName "Plateroomprinter$Engine" = true := by decide +kernel
theorem hc_62 : Jvm.Cond.code (⟨"Plateroomprinter$Engine", "<init>", "(LPlateroomprinter$World;LPlateroomprinter$Code;)V"⟩ : MethodName) prog_3_method_1_code 3 none ∈ lw_tbl := (List.mem_of_getElem? (i := 614) (by decide +kernel))
theorem hd_62 : "Plateroomprinter$Engine" ≠ "java/lang/invoke/MethodHandle" ∧ "Plateroomprinter$Engine" ≠ "java/lang/invoke/VarHandle" ∧ (parseMethodDescriptor "(LPlateroomprinter$World;LPlateroomprinter$Code;)V").map (fun d => d.parameters.length) = some 2 := ⟨by decide +kernel, by decide +kernel, by decide +kernel⟩
theorem hi_62 : Jvm.Cond.initialized "Plateroomprinter$Engine" ∈ lw_tbl := (List.mem_of_getElem? (i := 150) (by decide +kernel))
theorem hs_62 : Jvm.Cond.instanceMethod (⟨"Plateroomprinter$Engine", "<init>", "(LPlateroomprinter$World;LPlateroomprinter$Code;)V"⟩ : MethodName) ∈ lw_tbl := (List.mem_of_getElem? (i := 613) (by decide +kernel))
theorem hy_63 : e_ml[63]? = some ((⟨"Plateroomprinter$Engine", "begin", "()V"⟩ : MethodName), prog_3_method_2_code, 1, none) := by decide +kernel
theorem hp_63 : plainName "Plateroomprinter$Engine" = true := by decide +kernel
theorem hc_63 : Jvm.Cond.code (⟨"Plateroomprinter$Engine", "begin", "()V"⟩ : MethodName) prog_3_method_2_code 1 none ∈ lw_tbl := (List.mem_of_getElem? (i := 783) (by decide +kernel))
theorem hd_63 : "Plateroomprinter$Engine" ≠ "java/lang/invoke/MethodHandle" ∧ "Plateroomprinter$Engine" ≠ "java/lang/invoke/VarHandle" ∧ (parseMethodDescriptor "()V").map (fun d => d.parameters.length) = some 0 := ⟨by decide +kernel, by decide +kernel, by decide +kernel⟩
theorem hi_63 : Jvm.Cond.initialized "Plateroomprinter$Engine" ∈ lw_tbl := (List.mem_of_getElem? (i := 150) (by decide +kernel))
theorem hs_63 : Jvm.Cond.instanceMethod (⟨"Plateroomprinter$Engine", "begin", "()V"⟩ : MethodName) ∈ lw_tbl := (List.mem_of_getElem? (i := 781) (by decide +kernel))
theorem hy_64 : e_ml[64]? = some ((⟨"Plateroomprinter$Engine", "enter", "(II)I"⟩ : MethodName), prog_3_method_11_code, 3, (some .int)) := by decide +kernel
theorem hp_64 : plainName "Plateroomprinter$Engine" = true := by decide +kernel
theorem hc_64 : Jvm.Cond.code (⟨"Plateroomprinter$Engine", "enter", "(II)I"⟩ : MethodName) prog_3_method_11_code 3 (some .int) ∈ lw_tbl := (List.mem_of_getElem? (i := 787) (by decide +kernel))
theorem hd_64 : "Plateroomprinter$Engine" ≠ "java/lang/invoke/MethodHandle" ∧ "Plateroomprinter$Engine" ≠ "java/lang/invoke/VarHandle" ∧ (parseMethodDescriptor "(II)I").map (fun d => d.parameters.length) = some 2 := ⟨by decide +kernel, by decide +kernel, by decide +kernel⟩
theorem hi_64 : Jvm.Cond.initialized "Plateroomprinter$Engine" ∈ lw_tbl := (List.mem_of_getElem? (i := 150) (by decide +kernel))
theorem hs_64 : Jvm.Cond.instanceMethod (⟨"Plateroomprinter$Engine", "enter", "(II)I"⟩ : MethodName) ∈ lw_tbl := (List.mem_of_getElem? (i := 786) (by decide +kernel))
theorem hy_65 : e_ml[65]? = some ((⟨"Plateroomprinter$Engine", "hasNextRound", "(I)Z"⟩ : MethodName), prog_3_method_6_code, 3, (some .boolean)) := by decide +kernel
theorem hp_65 : plainName "Plateroomprinter$Engine" = true := by decide +kernel
theorem hc_65 : Jvm.Cond.code (⟨"Plateroomprinter$Engine", "hasNextRound", "(I)Z"⟩ : MethodName) prog_3_method_6_code 3 (some .boolean) ∈ lw_tbl := (List.mem_of_getElem? (i := 796) (by decide +kernel))
theorem hd_65 : "Plateroomprinter$Engine" ≠ "java/lang/invoke/MethodHandle" ∧ "Plateroomprinter$Engine" ≠ "java/lang/invoke/VarHandle" ∧ (parseMethodDescriptor "(I)Z").map (fun d => d.parameters.length) = some 1 := ⟨by decide +kernel, by decide +kernel, by decide +kernel⟩
theorem hi_65 : Jvm.Cond.initialized "Plateroomprinter$Engine" ∈ lw_tbl := (List.mem_of_getElem? (i := 150) (by decide +kernel))
theorem hs_65 : Jvm.Cond.instanceMethod (⟨"Plateroomprinter$Engine", "hasNextRound", "(I)Z"⟩ : MethodName) ∈ lw_tbl := (List.mem_of_getElem? (i := 795) (by decide +kernel))
theorem hy_66 : e_ml[66]? = some ((⟨"Plateroomprinter$Engine", "seek", "()I"⟩ : MethodName), prog_3_method_4_code, 4, (some .int)) := by decide +kernel
theorem hp_66 : plainName "Plateroomprinter$Engine" = true := by decide +kernel
theorem hc_66 : Jvm.Cond.code (⟨"Plateroomprinter$Engine", "seek", "()I"⟩ : MethodName) prog_3_method_4_code 4 (some .int) ∈ lw_tbl := (List.mem_of_getElem? (i := 791) (by decide +kernel))
theorem hd_66 : "Plateroomprinter$Engine" ≠ "java/lang/invoke/MethodHandle" ∧ "Plateroomprinter$Engine" ≠ "java/lang/invoke/VarHandle" ∧ (parseMethodDescriptor "()I").map (fun d => d.parameters.length) = some 0 := ⟨by decide +kernel, by decide +kernel, by decide +kernel⟩
theorem hi_66 : Jvm.Cond.initialized "Plateroomprinter$Engine" ∈ lw_tbl := (List.mem_of_getElem? (i := 150) (by decide +kernel))
theorem hs_66 : Jvm.Cond.instanceMethod (⟨"Plateroomprinter$Engine", "seek", "()I"⟩ : MethodName) ∈ lw_tbl := (List.mem_of_getElem? (i := 789) (by decide +kernel))
theorem hy_67 : e_ml[67]? = some ((⟨"Plateroomprinter$Engine", "tally", "()V"⟩ : MethodName), prog_3_method_3_code, 1, none) := by decide +kernel
theorem hp_67 : plainName "Plateroomprinter$Engine" = true := by decide +kernel
theorem hc_67 : Jvm.Cond.code (⟨"Plateroomprinter$Engine", "tally", "()V"⟩ : MethodName) prog_3_method_3_code 1 none ∈ lw_tbl := (List.mem_of_getElem? (i := 1232) (by decide +kernel))
theorem hd_67 : "Plateroomprinter$Engine" ≠ "java/lang/invoke/MethodHandle" ∧ "Plateroomprinter$Engine" ≠ "java/lang/invoke/VarHandle" ∧ (parseMethodDescriptor "()V").map (fun d => d.parameters.length) = some 0 := ⟨by decide +kernel, by decide +kernel, by decide +kernel⟩
theorem hi_67 : Jvm.Cond.initialized "Plateroomprinter$Engine" ∈ lw_tbl := (List.mem_of_getElem? (i := 150) (by decide +kernel))
theorem hs_67 : Jvm.Cond.instanceMethod (⟨"Plateroomprinter$Engine", "tally", "()V"⟩ : MethodName) ∈ lw_tbl := (List.mem_of_getElem? (i := 1230) (by decide +kernel))
theorem hy_68 : e_ml[68]? = some ((⟨"Plateroomprinter$Figures", "<init>", "()V"⟩ : MethodName), prog_4_method_1_code, 1, none) := by decide +kernel
theorem hp_68 : plainName "Plateroomprinter$Figures" = true := by decide +kernel
theorem hc_68 : Jvm.Cond.code (⟨"Plateroomprinter$Figures", "<init>", "()V"⟩ : MethodName) prog_4_method_1_code 1 none ∈ lw_tbl := (List.mem_of_getElem? (i := 390) (by decide +kernel))
theorem hd_68 : "Plateroomprinter$Figures" ≠ "java/lang/invoke/MethodHandle" ∧ "Plateroomprinter$Figures" ≠ "java/lang/invoke/VarHandle" ∧ (parseMethodDescriptor "()V").map (fun d => d.parameters.length) = some 0 := ⟨by decide +kernel, by decide +kernel, by decide +kernel⟩
theorem hi_68 : Jvm.Cond.initialized "Plateroomprinter$Figures" ∈ lw_tbl := (List.mem_of_getElem? (i := 147) (by decide +kernel))
theorem hs_68 : Jvm.Cond.instanceMethod (⟨"Plateroomprinter$Figures", "<init>", "()V"⟩ : MethodName) ∈ lw_tbl := (List.mem_of_getElem? (i := 389) (by decide +kernel))
theorem hy_69 : e_ml[69]? = some ((⟨"Plateroomprinter$Figures", "copyFrom", "(LPlateroomprinter$Figures;)V"⟩ : MethodName), prog_4_method_2_code, 4, none) := by decide +kernel
theorem hp_69 : plainName "Plateroomprinter$Figures" = true := by decide +kernel
theorem hc_69 : Jvm.Cond.code (⟨"Plateroomprinter$Figures", "copyFrom", "(LPlateroomprinter$Figures;)V"⟩ : MethodName) prog_4_method_2_code 4 none ∈ lw_tbl := (List.mem_of_getElem? (i := 774) (by decide +kernel))
theorem hd_69 : "Plateroomprinter$Figures" ≠ "java/lang/invoke/MethodHandle" ∧ "Plateroomprinter$Figures" ≠ "java/lang/invoke/VarHandle" ∧ (parseMethodDescriptor "(LPlateroomprinter$Figures;)V").map (fun d => d.parameters.length) = some 1 := ⟨by decide +kernel, by decide +kernel, by decide +kernel⟩
theorem hi_69 : Jvm.Cond.initialized "Plateroomprinter$Figures" ∈ lw_tbl := (List.mem_of_getElem? (i := 147) (by decide +kernel))
theorem hs_69 : Jvm.Cond.instanceMethod (⟨"Plateroomprinter$Figures", "copyFrom", "(LPlateroomprinter$Figures;)V"⟩ : MethodName) ∈ lw_tbl := (List.mem_of_getElem? (i := 772) (by decide +kernel))
theorem hy_70 : e_ml[70]? = some ((⟨"Plateroomprinter$Items", "<init>", "(I)V"⟩ : MethodName), prog_5_method_1_code, 2, none) := by decide +kernel
theorem hp_70 : plainName "Plateroomprinter$Items" = true := by decide +kernel
theorem hc_70 : Jvm.Cond.code (⟨"Plateroomprinter$Items", "<init>", "(I)V"⟩ : MethodName) prog_5_method_1_code 2 none ∈ lw_tbl := (List.mem_of_getElem? (i := 226) (by decide +kernel))
theorem hd_70 : "Plateroomprinter$Items" ≠ "java/lang/invoke/MethodHandle" ∧ "Plateroomprinter$Items" ≠ "java/lang/invoke/VarHandle" ∧ (parseMethodDescriptor "(I)V").map (fun d => d.parameters.length) = some 1 := ⟨by decide +kernel, by decide +kernel, by decide +kernel⟩
theorem hi_70 : Jvm.Cond.initialized "Plateroomprinter$Items" ∈ lw_tbl := (List.mem_of_getElem? (i := 141) (by decide +kernel))
theorem hs_70 : Jvm.Cond.instanceMethod (⟨"Plateroomprinter$Items", "<init>", "(I)V"⟩ : MethodName) ∈ lw_tbl := (List.mem_of_getElem? (i := 225) (by decide +kernel))
theorem hy_71 : e_ml[71]? = some ((⟨"Plateroomprinter$Items", "clear", "(I)V"⟩ : MethodName), prog_5_method_2_code, 3, none) := by decide +kernel
theorem hp_71 : plainName "Plateroomprinter$Items" = true := by decide +kernel
theorem hc_71 : Jvm.Cond.code (⟨"Plateroomprinter$Items", "clear", "(I)V"⟩ : MethodName) prog_5_method_2_code 3 none ∈ lw_tbl := (List.mem_of_getElem? (i := 423) (by decide +kernel))
theorem hd_71 : "Plateroomprinter$Items" ≠ "java/lang/invoke/MethodHandle" ∧ "Plateroomprinter$Items" ≠ "java/lang/invoke/VarHandle" ∧ (parseMethodDescriptor "(I)V").map (fun d => d.parameters.length) = some 1 := ⟨by decide +kernel, by decide +kernel, by decide +kernel⟩
theorem hi_71 : Jvm.Cond.initialized "Plateroomprinter$Items" ∈ lw_tbl := (List.mem_of_getElem? (i := 141) (by decide +kernel))
theorem hs_71 : Jvm.Cond.instanceMethod (⟨"Plateroomprinter$Items", "clear", "(I)V"⟩ : MethodName) ∈ lw_tbl := (List.mem_of_getElem? (i := 421) (by decide +kernel))
theorem hy_72 : e_ml[72]? = some ((⟨"Plateroomprinter$Items", "copyFrom", "(LPlateroomprinter$Items;)V"⟩ : MethodName), prog_5_method_3_code, 4, none) := by decide +kernel
theorem hp_72 : plainName "Plateroomprinter$Items" = true := by decide +kernel
theorem hc_72 : Jvm.Cond.code (⟨"Plateroomprinter$Items", "copyFrom", "(LPlateroomprinter$Items;)V"⟩ : MethodName) prog_5_method_3_code 4 none ∈ lw_tbl := (List.mem_of_getElem? (i := 747) (by decide +kernel))
theorem hd_72 : "Plateroomprinter$Items" ≠ "java/lang/invoke/MethodHandle" ∧ "Plateroomprinter$Items" ≠ "java/lang/invoke/VarHandle" ∧ (parseMethodDescriptor "(LPlateroomprinter$Items;)V").map (fun d => d.parameters.length) = some 1 := ⟨by decide +kernel, by decide +kernel, by decide +kernel⟩
theorem hi_72 : Jvm.Cond.initialized "Plateroomprinter$Items" ∈ lw_tbl := (List.mem_of_getElem? (i := 141) (by decide +kernel))
theorem hs_72 : Jvm.Cond.instanceMethod (⟨"Plateroomprinter$Items", "copyFrom", "(LPlateroomprinter$Items;)V"⟩ : MethodName) ∈ lw_tbl := (List.mem_of_getElem? (i := 745) (by decide +kernel))
theorem hy_73 : e_ml[73]? = some ((⟨"Plateroomprinter$Items", "sortAt", "(I)I"⟩ : MethodName), prog_5_method_5_code, 2, (some .int)) := by decide +kernel
theorem hp_73 : plainName "Plateroomprinter$Items" = true := by decide +kernel
theorem hc_73 : Jvm.Cond.code (⟨"Plateroomprinter$Items", "sortAt", "(I)I"⟩ : MethodName) prog_5_method_5_code 2 (some .int) ∈ lw_tbl := (List.mem_of_getElem? (i := 832) (by decide +kernel))
theorem hd_73 : "Plateroomprinter$Items" ≠ "java/lang/invoke/MethodHandle" ∧ "Plateroomprinter$Items" ≠ "java/lang/invoke/VarHandle" ∧ (parseMethodDescriptor "(I)I").map (fun d => d.parameters.length) = some 1 := ⟨by decide +kernel, by decide +kernel, by decide +kernel⟩
theorem hi_73 : Jvm.Cond.initialized "Plateroomprinter$Items" ∈ lw_tbl := (List.mem_of_getElem? (i := 141) (by decide +kernel))
theorem hs_73 : Jvm.Cond.instanceMethod (⟨"Plateroomprinter$Items", "sortAt", "(I)I"⟩ : MethodName) ∈ lw_tbl := (List.mem_of_getElem? (i := 830) (by decide +kernel))
theorem hy_74 : e_ml[74]? = some ((⟨"Plateroomprinter$Items", "toldAt", "(I)I"⟩ : MethodName), prog_5_method_8_code, 2, (some .int)) := by decide +kernel
theorem hp_74 : plainName "Plateroomprinter$Items" = true := by decide +kernel
theorem hc_74 : Jvm.Cond.code (⟨"Plateroomprinter$Items", "toldAt", "(I)I"⟩ : MethodName) prog_5_method_8_code 2 (some .int) ∈ lw_tbl := (List.mem_of_getElem? (i := 1473) (by decide +kernel))
theorem hd_74 : "Plateroomprinter$Items" ≠ "java/lang/invoke/MethodHandle" ∧ "Plateroomprinter$Items" ≠ "java/lang/invoke/VarHandle" ∧ (parseMethodDescriptor "(I)I").map (fun d => d.parameters.length) = some 1 := ⟨by decide +kernel, by decide +kernel, by decide +kernel⟩
theorem hi_74 : Jvm.Cond.initialized "Plateroomprinter$Items" ∈ lw_tbl := (List.mem_of_getElem? (i := 141) (by decide +kernel))
theorem hs_74 : Jvm.Cond.instanceMethod (⟨"Plateroomprinter$Items", "toldAt", "(I)I"⟩ : MethodName) ∈ lw_tbl := (List.mem_of_getElem? (i := 1471) (by decide +kernel))
theorem hy_75 : e_ml[75]? = some ((⟨"Plateroomprinter$Items", "valueAt", "(I)I"⟩ : MethodName), prog_5_method_6_code, 2, (some .int)) := by decide +kernel
theorem hp_75 : plainName "Plateroomprinter$Items" = true := by decide +kernel
theorem hc_75 : Jvm.Cond.code (⟨"Plateroomprinter$Items", "valueAt", "(I)I"⟩ : MethodName) prog_5_method_6_code 2 (some .int) ∈ lw_tbl := (List.mem_of_getElem? (i := 836) (by decide +kernel))
theorem hd_75 : "Plateroomprinter$Items" ≠ "java/lang/invoke/MethodHandle" ∧ "Plateroomprinter$Items" ≠ "java/lang/invoke/VarHandle" ∧ (parseMethodDescriptor "(I)I").map (fun d => d.parameters.length) = some 1 := ⟨by decide +kernel, by decide +kernel, by decide +kernel⟩
theorem hi_75 : Jvm.Cond.initialized "Plateroomprinter$Items" ∈ lw_tbl := (List.mem_of_getElem? (i := 141) (by decide +kernel))
theorem hs_75 : Jvm.Cond.instanceMethod (⟨"Plateroomprinter$Items", "valueAt", "(I)I"⟩ : MethodName) ∈ lw_tbl := (List.mem_of_getElem? (i := 834) (by decide +kernel))
theorem hy_76 : e_ml[76]? = some ((⟨"Plateroomprinter$Items", "write", "(IIII)V"⟩ : MethodName), prog_5_method_4_code, 5, none) := by decide +kernel
theorem hp_76 : plainName "Plateroomprinter$Items" = true := by decide +kernel
theorem hc_76 : Jvm.Cond.code (⟨"Plateroomprinter$Items", "write", "(IIII)V"⟩ : MethodName) prog_5_method_4_code 5 none ∈ lw_tbl := (List.mem_of_getElem? (i := 430) (by decide +kernel))
theorem hd_76 : "Plateroomprinter$Items" ≠ "java/lang/invoke/MethodHandle" ∧ "Plateroomprinter$Items" ≠ "java/lang/invoke/VarHandle" ∧ (parseMethodDescriptor "(IIII)V").map (fun d => d.parameters.length) = some 4 := ⟨by decide +kernel, by decide +kernel, by decide +kernel⟩
theorem hi_76 : Jvm.Cond.initialized "Plateroomprinter$Items" ∈ lw_tbl := (List.mem_of_getElem? (i := 141) (by decide +kernel))
theorem hs_76 : Jvm.Cond.instanceMethod (⟨"Plateroomprinter$Items", "write", "(IIII)V"⟩ : MethodName) ∈ lw_tbl := (List.mem_of_getElem? (i := 428) (by decide +kernel))
theorem hy_77 : e_ml[77]? = some ((⟨"Plateroomprinter$Matrix", "<init>", "()V"⟩ : MethodName), prog_6_method_1_code, 1, none) := by decide +kernel
theorem hp_77 : plainName "Plateroomprinter$Matrix" = true := by decide +kernel
theorem hc_77 : Jvm.Cond.code (⟨"Plateroomprinter$Matrix", "<init>", "()V"⟩ : MethodName) prog_6_method_1_code 1 none ∈ lw_tbl := (List.mem_of_getElem? (i := 259) (by decide +kernel))
theorem hd_77 : "Plateroomprinter$Matrix" ≠ "java/lang/invoke/MethodHandle" ∧ "Plateroomprinter$Matrix" ≠ "java/lang/invoke/VarHandle" ∧ (parseMethodDescriptor "()V").map (fun d => d.parameters.length) = some 0 := ⟨by decide +kernel, by decide +kernel, by decide +kernel⟩
theorem hi_77 : Jvm.Cond.initialized "Plateroomprinter$Matrix" ∈ lw_tbl := (List.mem_of_getElem? (i := 144) (by decide +kernel))
theorem hs_77 : Jvm.Cond.instanceMethod (⟨"Plateroomprinter$Matrix", "<init>", "()V"⟩ : MethodName) ∈ lw_tbl := (List.mem_of_getElem? (i := 258) (by decide +kernel))
theorem hy_78 : e_ml[78]? = some ((⟨"Plateroomprinter$Matrix", "clear", "()V"⟩ : MethodName), prog_6_method_2_code, 2, none) := by decide +kernel
theorem hp_78 : plainName "Plateroomprinter$Matrix" = true := by decide +kernel
theorem hc_78 : Jvm.Cond.code (⟨"Plateroomprinter$Matrix", "clear", "()V"⟩ : MethodName) prog_6_method_2_code 2 none ∈ lw_tbl := (List.mem_of_getElem? (i := 438) (by decide +kernel))
theorem hd_78 : "Plateroomprinter$Matrix" ≠ "java/lang/invoke/MethodHandle" ∧ "Plateroomprinter$Matrix" ≠ "java/lang/invoke/VarHandle" ∧ (parseMethodDescriptor "()V").map (fun d => d.parameters.length) = some 0 := ⟨by decide +kernel, by decide +kernel, by decide +kernel⟩
theorem hi_78 : Jvm.Cond.initialized "Plateroomprinter$Matrix" ∈ lw_tbl := (List.mem_of_getElem? (i := 144) (by decide +kernel))
theorem hs_78 : Jvm.Cond.instanceMethod (⟨"Plateroomprinter$Matrix", "clear", "()V"⟩ : MethodName) ∈ lw_tbl := (List.mem_of_getElem? (i := 436) (by decide +kernel))
theorem hy_79 : e_ml[79]? = some ((⟨"Plateroomprinter$Matrix", "copyFrom", "(LPlateroomprinter$Matrix;)V"⟩ : MethodName), prog_6_method_3_code, 3, none) := by decide +kernel
theorem hp_79 : plainName "Plateroomprinter$Matrix" = true := by decide +kernel
theorem hc_79 : Jvm.Cond.code (⟨"Plateroomprinter$Matrix", "copyFrom", "(LPlateroomprinter$Matrix;)V"⟩ : MethodName) prog_6_method_3_code 3 none ∈ lw_tbl := (List.mem_of_getElem? (i := 755) (by decide +kernel))
theorem hd_79 : "Plateroomprinter$Matrix" ≠ "java/lang/invoke/MethodHandle" ∧ "Plateroomprinter$Matrix" ≠ "java/lang/invoke/VarHandle" ∧ (parseMethodDescriptor "(LPlateroomprinter$Matrix;)V").map (fun d => d.parameters.length) = some 1 := ⟨by decide +kernel, by decide +kernel, by decide +kernel⟩
theorem hi_79 : Jvm.Cond.initialized "Plateroomprinter$Matrix" ∈ lw_tbl := (List.mem_of_getElem? (i := 144) (by decide +kernel))
theorem hs_79 : Jvm.Cond.instanceMethod (⟨"Plateroomprinter$Matrix", "copyFrom", "(LPlateroomprinter$Matrix;)V"⟩ : MethodName) ∈ lw_tbl := (List.mem_of_getElem? (i := 753) (by decide +kernel))
theorem hy_80 : e_ml[80]? = some ((⟨"Plateroomprinter$Painter", "<init>", "(LPlateroomprinter$World;LPlateroomprinter$Raster;)V"⟩ : MethodName), prog_7_method_1_code, 3, none) := by decide +kernel
theorem hp_80 : plainName "Plateroomprinter$Painter" = true := by decide +kernel
theorem hc_80 : Jvm.Cond.code (⟨"Plateroomprinter$Painter", "<init>", "(LPlateroomprinter$World;LPlateroomprinter$Raster;)V"⟩ : MethodName) prog_7_method_1_code 3 none ∈ lw_tbl := (List.mem_of_getElem? (i := 554) (by decide +kernel))
theorem hd_80 : "Plateroomprinter$Painter" ≠ "java/lang/invoke/MethodHandle" ∧ "Plateroomprinter$Painter" ≠ "java/lang/invoke/VarHandle" ∧ (parseMethodDescriptor "(LPlateroomprinter$World;LPlateroomprinter$Raster;)V").map (fun d => d.parameters.length) = some 2 := ⟨by decide +kernel, by decide +kernel, by decide +kernel⟩
theorem hi_80 : Jvm.Cond.initialized "Plateroomprinter$Painter" ∈ lw_tbl := (List.mem_of_getElem? (i := 149) (by decide +kernel))
theorem hs_80 : Jvm.Cond.instanceMethod (⟨"Plateroomprinter$Painter", "<init>", "(LPlateroomprinter$World;LPlateroomprinter$Raster;)V"⟩ : MethodName) ∈ lw_tbl := (List.mem_of_getElem? (i := 553) (by decide +kernel))
theorem hy_81 : e_ml[81]? = some ((⟨"Plateroomprinter$Painter", "takePainted", "()I"⟩ : MethodName), prog_7_method_2_code, 2, (some .int)) := by decide +kernel
theorem hp_81 : plainName "Plateroomprinter$Painter" = true := by decide +kernel
theorem hc_81 : Jvm.Cond.code (⟨"Plateroomprinter$Painter", "takePainted", "()I"⟩ : MethodName) prog_7_method_2_code 2 (some .int) ∈ lw_tbl := (List.mem_of_getElem? (i := 779) (by decide +kernel))
theorem hd_81 : "Plateroomprinter$Painter" ≠ "java/lang/invoke/MethodHandle" ∧ "Plateroomprinter$Painter" ≠ "java/lang/invoke/VarHandle" ∧ (parseMethodDescriptor "()I").map (fun d => d.parameters.length) = some 0 := ⟨by decide +kernel, by decide +kernel, by decide +kernel⟩
theorem hi_81 : Jvm.Cond.initialized "Plateroomprinter$Painter" ∈ lw_tbl := (List.mem_of_getElem? (i := 149) (by decide +kernel))
theorem hs_81 : Jvm.Cond.instanceMethod (⟨"Plateroomprinter$Painter", "takePainted", "()I"⟩ : MethodName) ∈ lw_tbl := (List.mem_of_getElem? (i := 777) (by decide +kernel))
theorem hy_82 : e_ml[82]? = some ((⟨"Plateroomprinter$Path", "<init>", "()V"⟩ : MethodName), prog_8_method_1_code, 1, none) := by decide +kernel
theorem hp_82 : plainName "Plateroomprinter$Path" = true := by decide +kernel
theorem hc_82 : Jvm.Cond.code (⟨"Plateroomprinter$Path", "<init>", "()V"⟩ : MethodName) prog_8_method_1_code 1 none ∈ lw_tbl := (List.mem_of_getElem? (i := 284) (by decide +kernel))
theorem hd_82 : "Plateroomprinter$Path" ≠ "java/lang/invoke/MethodHandle" ∧ "Plateroomprinter$Path" ≠ "java/lang/invoke/VarHandle" ∧ (parseMethodDescriptor "()V").map (fun d => d.parameters.length) = some 0 := ⟨by decide +kernel, by decide +kernel, by decide +kernel⟩
theorem hi_82 : Jvm.Cond.initialized "Plateroomprinter$Path" ∈ lw_tbl := (List.mem_of_getElem? (i := 145) (by decide +kernel))
theorem hs_82 : Jvm.Cond.instanceMethod (⟨"Plateroomprinter$Path", "<init>", "()V"⟩ : MethodName) ∈ lw_tbl := (List.mem_of_getElem? (i := 283) (by decide +kernel))
theorem hy_83 : e_ml[83]? = some ((⟨"Plateroomprinter$Path", "clear", "()V"⟩ : MethodName), prog_8_method_2_code, 1, none) := by decide +kernel
theorem hp_83 : plainName "Plateroomprinter$Path" = true := by decide +kernel
theorem hc_83 : Jvm.Cond.code (⟨"Plateroomprinter$Path", "clear", "()V"⟩ : MethodName) prog_8_method_2_code 1 none ∈ lw_tbl := (List.mem_of_getElem? (i := 446) (by decide +kernel))
theorem hd_83 : "Plateroomprinter$Path" ≠ "java/lang/invoke/MethodHandle" ∧ "Plateroomprinter$Path" ≠ "java/lang/invoke/VarHandle" ∧ (parseMethodDescriptor "()V").map (fun d => d.parameters.length) = some 0 := ⟨by decide +kernel, by decide +kernel, by decide +kernel⟩
theorem hi_83 : Jvm.Cond.initialized "Plateroomprinter$Path" ∈ lw_tbl := (List.mem_of_getElem? (i := 145) (by decide +kernel))
theorem hs_83 : Jvm.Cond.instanceMethod (⟨"Plateroomprinter$Path", "clear", "()V"⟩ : MethodName) ∈ lw_tbl := (List.mem_of_getElem? (i := 444) (by decide +kernel))
theorem hy_84 : e_ml[84]? = some ((⟨"Plateroomprinter$Path", "copyFrom", "(LPlateroomprinter$Path;)V"⟩ : MethodName), prog_8_method_3_code, 2, none) := by decide +kernel
theorem hp_84 : plainName "Plateroomprinter$Path" = true := by decide +kernel
theorem hc_84 : Jvm.Cond.code (⟨"Plateroomprinter$Path", "copyFrom", "(LPlateroomprinter$Path;)V"⟩ : MethodName) prog_8_method_3_code 2 none ∈ lw_tbl := (List.mem_of_getElem? (i := 759) (by decide +kernel))
theorem hd_84 : "Plateroomprinter$Path" ≠ "java/lang/invoke/MethodHandle" ∧ "Plateroomprinter$Path" ≠ "java/lang/invoke/VarHandle" ∧ (parseMethodDescriptor "(LPlateroomprinter$Path;)V").map (fun d => d.parameters.length) = some 1 := ⟨by decide +kernel, by decide +kernel, by decide +kernel⟩
theorem hi_84 : Jvm.Cond.initialized "Plateroomprinter$Path" ∈ lw_tbl := (List.mem_of_getElem? (i := 145) (by decide +kernel))
theorem hs_84 : Jvm.Cond.instanceMethod (⟨"Plateroomprinter$Path", "copyFrom", "(LPlateroomprinter$Path;)V"⟩ : MethodName) ∈ lw_tbl := (List.mem_of_getElem? (i := 757) (by decide +kernel))
theorem hy_85 : e_ml[85]? = some ((⟨"Plateroomprinter$Raster", "<init>", "()V"⟩ : MethodName), prog_9_method_1_code, 1, none) := by decide +kernel
theorem hp_85 : plainName "Plateroomprinter$Raster" = true := by decide +kernel
theorem hc_85 : Jvm.Cond.code (⟨"Plateroomprinter$Raster", "<init>", "()V"⟩ : MethodName) prog_9_method_1_code 1 none ∈ lw_tbl := (List.mem_of_getElem? (i := 538) (by decide +kernel))
theorem hd_85 : "Plateroomprinter$Raster" ≠ "java/lang/invoke/MethodHandle" ∧ "Plateroomprinter$Raster" ≠ "java/lang/invoke/VarHandle" ∧ (parseMethodDescriptor "()V").map (fun d => d.parameters.length) = some 0 := ⟨by decide +kernel, by decide +kernel, by decide +kernel⟩
theorem hi_85 : Jvm.Cond.initialized "Plateroomprinter$Raster" ∈ lw_tbl := (List.mem_of_getElem? (i := 148) (by decide +kernel))
theorem hs_85 : Jvm.Cond.instanceMethod (⟨"Plateroomprinter$Raster", "<init>", "()V"⟩ : MethodName) ∈ lw_tbl := (List.mem_of_getElem? (i := 537) (by decide +kernel))
theorem hy_86 : e_ml[86]? = some ((⟨"Plateroomprinter$Raster", "addEdge", "(IIIII)V"⟩ : MethodName), prog_9_method_3_code, 17, none) := by decide +kernel
theorem hp_86 : plainName "Plateroomprinter$Raster" = true := by decide +kernel
theorem hc_86 : Jvm.Cond.code (⟨"Plateroomprinter$Raster", "addEdge", "(IIIII)V"⟩ : MethodName) prog_9_method_3_code 17 none ∈ lw_tbl := (List.mem_of_getElem? (i := 1048) (by decide +kernel))
theorem hd_86 : "Plateroomprinter$Raster" ≠ "java/lang/invoke/MethodHandle" ∧ "Plateroomprinter$Raster" ≠ "java/lang/invoke/VarHandle" ∧ (parseMethodDescriptor "(IIIII)V").map (fun d => d.parameters.length) = some 5 := ⟨by decide +kernel, by decide +kernel, by decide +kernel⟩
theorem hi_86 : Jvm.Cond.initialized "Plateroomprinter$Raster" ∈ lw_tbl := (List.mem_of_getElem? (i := 148) (by decide +kernel))
theorem hs_86 : Jvm.Cond.instanceMethod (⟨"Plateroomprinter$Raster", "addEdge", "(IIIII)V"⟩ : MethodName) ∈ lw_tbl := (List.mem_of_getElem? (i := 1047) (by decide +kernel))
theorem hy_87 : e_ml[87]? = some ((⟨"Plateroomprinter$Raster", "addPath", "(LPlateroomprinter$Path;II)V"⟩ : MethodName), prog_9_method_4_code, 6, none) := by decide +kernel
theorem hp_87 : plainName "Plateroomprinter$Raster" = true := by decide +kernel
theorem hc_87 : Jvm.Cond.code (⟨"Plateroomprinter$Raster", "addPath", "(LPlateroomprinter$Path;II)V"⟩ : MethodName) prog_9_method_4_code 6 none ∈ lw_tbl := (List.mem_of_getElem? (i := 1201) (by decide +kernel))
theorem hd_87 : "Plateroomprinter$Raster" ≠ "java/lang/invoke/MethodHandle" ∧ "Plateroomprinter$Raster" ≠ "java/lang/invoke/VarHandle" ∧ (parseMethodDescriptor "(LPlateroomprinter$Path;II)V").map (fun d => d.parameters.length) = some 3 := ⟨by decide +kernel, by decide +kernel, by decide +kernel⟩
theorem hi_87 : Jvm.Cond.initialized "Plateroomprinter$Raster" ∈ lw_tbl := (List.mem_of_getElem? (i := 148) (by decide +kernel))
theorem hs_87 : Jvm.Cond.instanceMethod (⟨"Plateroomprinter$Raster", "addPath", "(LPlateroomprinter$Path;II)V"⟩ : MethodName) ∈ lw_tbl := (List.mem_of_getElem? (i := 1199) (by decide +kernel))
theorem hy_88 : e_ml[88]? = some ((⟨"Plateroomprinter$Raster", "addRing", "([I[IIIII)V"⟩ : MethodName), prog_9_method_2_code, 12, none) := by decide +kernel
theorem hp_88 : plainName "Plateroomprinter$Raster" = true := by decide +kernel
theorem hc_88 : Jvm.Cond.code (⟨"Plateroomprinter$Raster", "addRing", "([I[IIIII)V"⟩ : MethodName) prog_9_method_2_code 12 none ∈ lw_tbl := (List.mem_of_getElem? (i := 1044) (by decide +kernel))
theorem hd_88 : "Plateroomprinter$Raster" ≠ "java/lang/invoke/MethodHandle" ∧ "Plateroomprinter$Raster" ≠ "java/lang/invoke/VarHandle" ∧ (parseMethodDescriptor "([I[IIIII)V").map (fun d => d.parameters.length) = some 6 := ⟨by decide +kernel, by decide +kernel, by decide +kernel⟩
theorem hi_88 : Jvm.Cond.initialized "Plateroomprinter$Raster" ∈ lw_tbl := (List.mem_of_getElem? (i := 148) (by decide +kernel))
theorem hs_88 : Jvm.Cond.instanceMethod (⟨"Plateroomprinter$Raster", "addRing", "([I[IIIII)V"⟩ : MethodName) ∈ lw_tbl := (List.mem_of_getElem? (i := 1042) (by decide +kernel))
theorem hy_89 : e_ml[89]? = some ((⟨"Plateroomprinter$Raster", "settle", "(I[I)V"⟩ : MethodName), prog_9_method_5_code, 7, none) := by decide +kernel
theorem hp_89 : plainName "Plateroomprinter$Raster" = true := by decide +kernel
theorem hc_89 : Jvm.Cond.code (⟨"Plateroomprinter$Raster", "settle", "(I[I)V"⟩ : MethodName) prog_9_method_5_code 7 none ∈ lw_tbl := (List.mem_of_getElem? (i := 1055) (by decide +kernel))
theorem hd_89 : "Plateroomprinter$Raster" ≠ "java/lang/invoke/MethodHandle" ∧ "Plateroomprinter$Raster" ≠ "java/lang/invoke/VarHandle" ∧ (parseMethodDescriptor "(I[I)V").map (fun d => d.parameters.length) = some 2 := ⟨by decide +kernel, by decide +kernel, by decide +kernel⟩
theorem hi_89 : Jvm.Cond.initialized "Plateroomprinter$Raster" ∈ lw_tbl := (List.mem_of_getElem? (i := 148) (by decide +kernel))
theorem hs_89 : Jvm.Cond.instanceMethod (⟨"Plateroomprinter$Raster", "settle", "(I[I)V"⟩ : MethodName) ∈ lw_tbl := (List.mem_of_getElem? (i := 1053) (by decide +kernel))
theorem hy_90 : e_ml[90]? = some ((⟨"Plateroomprinter$Sheet", "<init>", "()V"⟩ : MethodName), prog_10_method_1_code, 1, none) := by decide +kernel
theorem hp_90 : plainName "Plateroomprinter$Sheet" = true := by decide +kernel
theorem hc_90 : Jvm.Cond.code (⟨"Plateroomprinter$Sheet", "<init>", "()V"⟩ : MethodName) prog_10_method_1_code 1 none ∈ lw_tbl := (List.mem_of_getElem? (i := 379) (by decide +kernel))
theorem hd_90 : "Plateroomprinter$Sheet" ≠ "java/lang/invoke/MethodHandle" ∧ "Plateroomprinter$Sheet" ≠ "java/lang/invoke/VarHandle" ∧ (parseMethodDescriptor "()V").map (fun d => d.parameters.length) = some 0 := ⟨by decide +kernel, by decide +kernel, by decide +kernel⟩
theorem hi_90 : Jvm.Cond.initialized "Plateroomprinter$Sheet" ∈ lw_tbl := (List.mem_of_getElem? (i := 146) (by decide +kernel))
theorem hs_90 : Jvm.Cond.instanceMethod (⟨"Plateroomprinter$Sheet", "<init>", "()V"⟩ : MethodName) ∈ lw_tbl := (List.mem_of_getElem? (i := 378) (by decide +kernel))
theorem hy_91 : e_ml[91]? = some ((⟨"Plateroomprinter$Sheet", "agreesWith", "(LPlateroomprinter$Sheet;)Z"⟩ : MethodName), prog_10_method_4_code, 3, (some .boolean)) := by decide +kernel
theorem hp_91 : plainName "Plateroomprinter$Sheet" = true := by decide +kernel
theorem hc_91 : Jvm.Cond.code (⟨"Plateroomprinter$Sheet", "agreesWith", "(LPlateroomprinter$Sheet;)Z"⟩ : MethodName) prog_10_method_4_code 3 (some .boolean) ∈ lw_tbl := (List.mem_of_getElem? (i := 1285) (by decide +kernel))
theorem hd_91 : "Plateroomprinter$Sheet" ≠ "java/lang/invoke/MethodHandle" ∧ "Plateroomprinter$Sheet" ≠ "java/lang/invoke/VarHandle" ∧ (parseMethodDescriptor "(LPlateroomprinter$Sheet;)Z").map (fun d => d.parameters.length) = some 1 := ⟨by decide +kernel, by decide +kernel, by decide +kernel⟩
theorem hi_91 : Jvm.Cond.initialized "Plateroomprinter$Sheet" ∈ lw_tbl := (List.mem_of_getElem? (i := 146) (by decide +kernel))
theorem hs_91 : Jvm.Cond.instanceMethod (⟨"Plateroomprinter$Sheet", "agreesWith", "(LPlateroomprinter$Sheet;)Z"⟩ : MethodName) ∈ lw_tbl := (List.mem_of_getElem? (i := 1283) (by decide +kernel))
theorem hy_92 : e_ml[92]? = some ((⟨"Plateroomprinter$Sheet", "clear", "()V"⟩ : MethodName), prog_10_method_2_code, 1, none) := by decide +kernel
theorem hp_92 : plainName "Plateroomprinter$Sheet" = true := by decide +kernel
theorem hc_92 : Jvm.Cond.code (⟨"Plateroomprinter$Sheet", "clear", "()V"⟩ : MethodName) prog_10_method_2_code 1 none ∈ lw_tbl := (List.mem_of_getElem? (i := 455) (by decide +kernel))
theorem hd_92 : "Plateroomprinter$Sheet" ≠ "java/lang/invoke/MethodHandle" ∧ "Plateroomprinter$Sheet" ≠ "java/lang/invoke/VarHandle" ∧ (parseMethodDescriptor "()V").map (fun d => d.parameters.length) = some 0 := ⟨by decide +kernel, by decide +kernel, by decide +kernel⟩
theorem hi_92 : Jvm.Cond.initialized "Plateroomprinter$Sheet" ∈ lw_tbl := (List.mem_of_getElem? (i := 146) (by decide +kernel))
theorem hs_92 : Jvm.Cond.instanceMethod (⟨"Plateroomprinter$Sheet", "clear", "()V"⟩ : MethodName) ∈ lw_tbl := (List.mem_of_getElem? (i := 453) (by decide +kernel))
theorem hy_93 : e_ml[93]? = some ((⟨"Plateroomprinter$Sheet", "colourOf", "(II)I"⟩ : MethodName), prog_10_method_7_code, 5, (some .int)) := by decide +kernel
theorem hp_93 : plainName "Plateroomprinter$Sheet" = true := by decide +kernel
theorem hc_93 : Jvm.Cond.code (⟨"Plateroomprinter$Sheet", "colourOf", "(II)I"⟩ : MethodName) prog_10_method_7_code 5 (some .int) ∈ lw_tbl := (List.mem_of_getElem? (i := 1422) (by decide +kernel))
theorem hd_93 : "Plateroomprinter$Sheet" ≠ "java/lang/invoke/MethodHandle" ∧ "Plateroomprinter$Sheet" ≠ "java/lang/invoke/VarHandle" ∧ (parseMethodDescriptor "(II)I").map (fun d => d.parameters.length) = some 2 := ⟨by decide +kernel, by decide +kernel, by decide +kernel⟩
theorem hi_93 : Jvm.Cond.initialized "Plateroomprinter$Sheet" ∈ lw_tbl := (List.mem_of_getElem? (i := 146) (by decide +kernel))
theorem hs_93 : Jvm.Cond.instanceMethod (⟨"Plateroomprinter$Sheet", "colourOf", "(II)I"⟩ : MethodName) ∈ lw_tbl := (List.mem_of_getElem? (i := 1420) (by decide +kernel))
theorem hy_94 : e_ml[94]? = some ((⟨"Plateroomprinter$Sheet", "coloured", "()I"⟩ : MethodName), prog_10_method_8_code, 3, (some .int)) := by decide +kernel
theorem hp_94 : plainName "Plateroomprinter$Sheet" = true := by decide +kernel
theorem hc_94 : Jvm.Cond.code (⟨"Plateroomprinter$Sheet", "coloured", "()I"⟩ : MethodName) prog_10_method_8_code 3 (some .int) ∈ lw_tbl := (List.mem_of_getElem? (i := 1557) (by decide +kernel))
theorem hd_94 : "Plateroomprinter$Sheet" ≠ "java/lang/invoke/MethodHandle" ∧ "Plateroomprinter$Sheet" ≠ "java/lang/invoke/VarHandle" ∧ (parseMethodDescriptor "()I").map (fun d => d.parameters.length) = some 0 := ⟨by decide +kernel, by decide +kernel, by decide +kernel⟩
theorem hi_94 : Jvm.Cond.initialized "Plateroomprinter$Sheet" ∈ lw_tbl := (List.mem_of_getElem? (i := 146) (by decide +kernel))
theorem hs_94 : Jvm.Cond.instanceMethod (⟨"Plateroomprinter$Sheet", "coloured", "()I"⟩ : MethodName) ∈ lw_tbl := (List.mem_of_getElem? (i := 1555) (by decide +kernel))
theorem hy_95 : e_ml[95]? = some ((⟨"Plateroomprinter$Sheet", "copyFrom", "(LPlateroomprinter$Sheet;)V"⟩ : MethodName), prog_10_method_3_code, 3, none) := by decide +kernel
theorem hp_95 : plainName "Plateroomprinter$Sheet" = true := by decide +kernel
theorem hc_95 : Jvm.Cond.code (⟨"Plateroomprinter$Sheet", "copyFrom", "(LPlateroomprinter$Sheet;)V"⟩ : MethodName) prog_10_method_3_code 3 none ∈ lw_tbl := (List.mem_of_getElem? (i := 770) (by decide +kernel))
theorem hd_95 : "Plateroomprinter$Sheet" ≠ "java/lang/invoke/MethodHandle" ∧ "Plateroomprinter$Sheet" ≠ "java/lang/invoke/VarHandle" ∧ (parseMethodDescriptor "(LPlateroomprinter$Sheet;)V").map (fun d => d.parameters.length) = some 1 := ⟨by decide +kernel, by decide +kernel, by decide +kernel⟩
theorem hi_95 : Jvm.Cond.initialized "Plateroomprinter$Sheet" ∈ lw_tbl := (List.mem_of_getElem? (i := 146) (by decide +kernel))
theorem hs_95 : Jvm.Cond.instanceMethod (⟨"Plateroomprinter$Sheet", "copyFrom", "(LPlateroomprinter$Sheet;)V"⟩ : MethodName) ∈ lw_tbl := (List.mem_of_getElem? (i := 768) (by decide +kernel))
theorem hy_96 : e_ml[96]? = some ((⟨"Plateroomprinter$State", "<init>", "()V"⟩ : MethodName), prog_11_method_1_code, 1, none) := by decide +kernel
theorem hp_96 : plainName "Plateroomprinter$State" = true := by decide +kernel
theorem hc_96 : Jvm.Cond.code (⟨"Plateroomprinter$State", "<init>", "()V"⟩ : MethodName) prog_11_method_1_code 1 none ∈ lw_tbl := (List.mem_of_getElem? (i := 253) (by decide +kernel))
theorem hd_96 : "Plateroomprinter$State" ≠ "java/lang/invoke/MethodHandle" ∧ "Plateroomprinter$State" ≠ "java/lang/invoke/VarHandle" ∧ (parseMethodDescriptor "()V").map (fun d => d.parameters.length) = some 0 := ⟨by decide +kernel, by decide +kernel, by decide +kernel⟩
theorem hi_96 : Jvm.Cond.initialized "Plateroomprinter$State" ∈ lw_tbl := (List.mem_of_getElem? (i := 143) (by decide +kernel))
theorem hs_96 : Jvm.Cond.instanceMethod (⟨"Plateroomprinter$State", "<init>", "()V"⟩ : MethodName) ∈ lw_tbl := (List.mem_of_getElem? (i := 252) (by decide +kernel))
theorem hy_97 : e_ml[97]? = some ((⟨"Plateroomprinter$State", "clear", "()V"⟩ : MethodName), prog_11_method_2_code, 2, none) := by decide +kernel
theorem hp_97 : plainName "Plateroomprinter$State" = true := by decide +kernel
theorem hc_97 : Jvm.Cond.code (⟨"Plateroomprinter$State", "clear", "()V"⟩ : MethodName) prog_11_method_2_code 2 none ∈ lw_tbl := (List.mem_of_getElem? (i := 434) (by decide +kernel))
theorem hd_97 : "Plateroomprinter$State" ≠ "java/lang/invoke/MethodHandle" ∧ "Plateroomprinter$State" ≠ "java/lang/invoke/VarHandle" ∧ (parseMethodDescriptor "()V").map (fun d => d.parameters.length) = some 0 := ⟨by decide +kernel, by decide +kernel, by decide +kernel⟩
theorem hi_97 : Jvm.Cond.initialized "Plateroomprinter$State" ∈ lw_tbl := (List.mem_of_getElem? (i := 143) (by decide +kernel))
theorem hs_97 : Jvm.Cond.instanceMethod (⟨"Plateroomprinter$State", "clear", "()V"⟩ : MethodName) ∈ lw_tbl := (List.mem_of_getElem? (i := 432) (by decide +kernel))
theorem hy_98 : e_ml[98]? = some ((⟨"Plateroomprinter$State", "copyFrom", "(LPlateroomprinter$State;)V"⟩ : MethodName), prog_11_method_3_code, 3, none) := by decide +kernel
theorem hp_98 : plainName "Plateroomprinter$State" = true := by decide +kernel
theorem hc_98 : Jvm.Cond.code (⟨"Plateroomprinter$State", "copyFrom", "(LPlateroomprinter$State;)V"⟩ : MethodName) prog_11_method_3_code 3 none ∈ lw_tbl := (List.mem_of_getElem? (i := 751) (by decide +kernel))
theorem hd_98 : "Plateroomprinter$State" ≠ "java/lang/invoke/MethodHandle" ∧ "Plateroomprinter$State" ≠ "java/lang/invoke/VarHandle" ∧ (parseMethodDescriptor "(LPlateroomprinter$State;)V").map (fun d => d.parameters.length) = some 1 := ⟨by decide +kernel, by decide +kernel, by decide +kernel⟩
theorem hi_98 : Jvm.Cond.initialized "Plateroomprinter$State" ∈ lw_tbl := (List.mem_of_getElem? (i := 143) (by decide +kernel))
theorem hs_98 : Jvm.Cond.instanceMethod (⟨"Plateroomprinter$State", "copyFrom", "(LPlateroomprinter$State;)V"⟩ : MethodName) ∈ lw_tbl := (List.mem_of_getElem? (i := 749) (by decide +kernel))
theorem hy_99 : e_ml[99]? = some ((⟨"Plateroomprinter$State", "forgetPath", "()V"⟩ : MethodName), prog_11_method_5_code, 1, none) := by decide +kernel
theorem hp_99 : plainName "Plateroomprinter$State" = true := by decide +kernel
theorem hc_99 : Jvm.Cond.code (⟨"Plateroomprinter$State", "forgetPath", "()V"⟩ : MethodName) prog_11_method_5_code 1 none ∈ lw_tbl := (List.mem_of_getElem? (i := 442) (by decide +kernel))
theorem hd_99 : "Plateroomprinter$State" ≠ "java/lang/invoke/MethodHandle" ∧ "Plateroomprinter$State" ≠ "java/lang/invoke/VarHandle" ∧ (parseMethodDescriptor "()V").map (fun d => d.parameters.length) = some 0 := ⟨by decide +kernel, by decide +kernel, by decide +kernel⟩
theorem hi_99 : Jvm.Cond.initialized "Plateroomprinter$State" ∈ lw_tbl := (List.mem_of_getElem? (i := 143) (by decide +kernel))
theorem hs_99 : Jvm.Cond.instanceMethod (⟨"Plateroomprinter$State", "forgetPath", "()V"⟩ : MethodName) ∈ lw_tbl := (List.mem_of_getElem? (i := 440) (by decide +kernel))
theorem hy_100 : e_ml[100]? = some ((⟨"Plateroomprinter$State", "openClip", "()V"⟩ : MethodName), prog_11_method_4_code, 2, none) := by decide +kernel
theorem hp_100 : plainName "Plateroomprinter$State" = true := by decide +kernel
theorem hc_100 : Jvm.Cond.code (⟨"Plateroomprinter$State", "openClip", "()V"⟩ : MethodName) prog_11_method_4_code 2 none ∈ lw_tbl := (List.mem_of_getElem? (i := 450) (by decide +kernel))
theorem hd_100 : "Plateroomprinter$State" ≠ "java/lang/invoke/MethodHandle" ∧ "Plateroomprinter$State" ≠ "java/lang/invoke/VarHandle" ∧ (parseMethodDescriptor "()V").map (fun d => d.parameters.length) = some 0 := ⟨by decide +kernel, by decide +kernel, by decide +kernel⟩
theorem hi_100 : Jvm.Cond.initialized "Plateroomprinter$State" ∈ lw_tbl := (List.mem_of_getElem? (i := 143) (by decide +kernel))
theorem hs_100 : Jvm.Cond.instanceMethod (⟨"Plateroomprinter$State", "openClip", "()V"⟩ : MethodName) ∈ lw_tbl := (List.mem_of_getElem? (i := 448) (by decide +kernel))
theorem hy_101 : e_ml[101]? = some ((⟨"Plateroomprinter$World", "<init>", "()V"⟩ : MethodName), prog_12_method_1_code, 2, none) := by decide +kernel
theorem hp_101 : plainName "Plateroomprinter$World" = true := by decide +kernel
theorem hc_101 : Jvm.Cond.code (⟨"Plateroomprinter$World", "<init>", "()V"⟩ : MethodName) prog_12_method_1_code 2 none ∈ lw_tbl := (List.mem_of_getElem? (i := 220) (by decide +kernel))
theorem hd_101 : "Plateroomprinter$World" ≠ "java/lang/invoke/MethodHandle" ∧ "Plateroomprinter$World" ≠ "java/lang/invoke/VarHandle" ∧ (parseMethodDescriptor "()V").map (fun d => d.parameters.length) = some 0 := ⟨by decide +kernel, by decide +kernel, by decide +kernel⟩
theorem hi_101 : Jvm.Cond.initialized "Plateroomprinter$World" ∈ lw_tbl := (List.mem_of_getElem? (i := 140) (by decide +kernel))
theorem hs_101 : Jvm.Cond.instanceMethod (⟨"Plateroomprinter$World", "<init>", "()V"⟩ : MethodName) ∈ lw_tbl := (List.mem_of_getElem? (i := 219) (by decide +kernel))
theorem hy_102 : e_ml[102]? = some ((⟨"Plateroomprinter$World", "clear", "()V"⟩ : MethodName), prog_12_method_2_code, 2, none) := by decide +kernel
theorem hp_102 : plainName "Plateroomprinter$World" = true := by decide +kernel
theorem hc_102 : Jvm.Cond.code (⟨"Plateroomprinter$World", "clear", "()V"⟩ : MethodName) prog_12_method_2_code 2 none ∈ lw_tbl := (List.mem_of_getElem? (i := 419) (by decide +kernel))
theorem hd_102 : "Plateroomprinter$World" ≠ "java/lang/invoke/MethodHandle" ∧ "Plateroomprinter$World" ≠ "java/lang/invoke/VarHandle" ∧ (parseMethodDescriptor "()V").map (fun d => d.parameters.length) = some 0 := ⟨by decide +kernel, by decide +kernel, by decide +kernel⟩
theorem hi_102 : Jvm.Cond.initialized "Plateroomprinter$World" ∈ lw_tbl := (List.mem_of_getElem? (i := 140) (by decide +kernel))
theorem hs_102 : Jvm.Cond.instanceMethod (⟨"Plateroomprinter$World", "clear", "()V"⟩ : MethodName) ∈ lw_tbl := (List.mem_of_getElem? (i := 417) (by decide +kernel))
theorem hy_103 : e_ml[103]? = some ((⟨"Plateroomprinter$World", "copyFrom", "(LPlateroomprinter$World;)V"⟩ : MethodName), prog_12_method_3_code, 3, none) := by decide +kernel
theorem hp_103 : plainName "Plateroomprinter$World" = true := by decide +kernel
theorem hc_103 : Jvm.Cond.code (⟨"Plateroomprinter$World", "copyFrom", "(LPlateroomprinter$World;)V"⟩ : MethodName) prog_12_method_3_code 3 none ∈ lw_tbl := (List.mem_of_getElem? (i := 743) (by decide +kernel))
theorem hd_103 : "Plateroomprinter$World" ≠ "java/lang/invoke/MethodHandle" ∧ "Plateroomprinter$World" ≠ "java/lang/invoke/VarHandle" ∧ (parseMethodDescriptor "(LPlateroomprinter$World;)V").map (fun d => d.parameters.length) = some 1 := ⟨by decide +kernel, by decide +kernel, by decide +kernel⟩
theorem hi_103 : Jvm.Cond.initialized "Plateroomprinter$World" ∈ lw_tbl := (List.mem_of_getElem? (i := 140) (by decide +kernel))
theorem hs_103 : Jvm.Cond.instanceMethod (⟨"Plateroomprinter$World", "copyFrom", "(LPlateroomprinter$World;)V"⟩ : MethodName) ∈ lw_tbl := (List.mem_of_getElem? (i := 741) (by decide +kernel))
theorem hy_104 : e_ml[104]? = some ((⟨"PlateroomprinterLaw", "bands", "(LPlateroomprinter;I[J)I"⟩ : MethodName), method_26_code, 4, (some .int)) := by decide +kernel
theorem hp_104 : plainName "PlateroomprinterLaw" = true := by decide +kernel
theorem hc_104 : Jvm.Cond.codeWith (⟨"PlateroomprinterLaw", "bands", "(LPlateroomprinter;I[J)I"⟩ : MethodName) method_26_code 4 (some .int) [(0, 16, 19, 13)] ∈ lw_tbl := (List.mem_of_getElem? (i := 1710) (by decide +kernel))
theorem hd_104 : "PlateroomprinterLaw" ≠ "java/lang/invoke/MethodHandle" ∧ "PlateroomprinterLaw" ≠ "java/lang/invoke/VarHandle" ∧ (parseMethodDescriptor "(LPlateroomprinter;I[J)I").map (fun d => d.parameters.length) = some 3 := ⟨by decide +kernel, by decide +kernel, by decide +kernel⟩
theorem hi_104 : Jvm.Cond.initialized "PlateroomprinterLaw" ∈ lw_tbl := (List.mem_of_getElem? (i := 137) (by decide +kernel))
theorem hs_104 : Jvm.Cond.static (⟨"PlateroomprinterLaw", "bands", "(LPlateroomprinter;I[J)I"⟩ : MethodName) ∈ lw_tbl := (List.mem_of_getElem? (i := 1709) (by decide +kernel))
theorem hy_105 : e_ml[105]? = some ((⟨"PlateroomprinterLaw", "cost", "(LPlateroomprinter;I[J)I"⟩ : MethodName), method_10_code, 4, (some .int)) := by decide +kernel
theorem hp_105 : plainName "PlateroomprinterLaw" = true := by decide +kernel
theorem hc_105 : Jvm.Cond.codeWith (⟨"PlateroomprinterLaw", "cost", "(LPlateroomprinter;I[J)I"⟩ : MethodName) method_10_code 4 (some .int) [(0, 9, 12, 13)] ∈ lw_tbl := (List.mem_of_getElem? (i := 1628) (by decide +kernel))
theorem hd_105 : "PlateroomprinterLaw" ≠ "java/lang/invoke/MethodHandle" ∧ "PlateroomprinterLaw" ≠ "java/lang/invoke/VarHandle" ∧ (parseMethodDescriptor "(LPlateroomprinter;I[J)I").map (fun d => d.parameters.length) = some 3 := ⟨by decide +kernel, by decide +kernel, by decide +kernel⟩
theorem hi_105 : Jvm.Cond.initialized "PlateroomprinterLaw" ∈ lw_tbl := (List.mem_of_getElem? (i := 137) (by decide +kernel))
theorem hs_105 : Jvm.Cond.static (⟨"PlateroomprinterLaw", "cost", "(LPlateroomprinter;I[J)I"⟩ : MethodName) ∈ lw_tbl := (List.mem_of_getElem? (i := 1627) (by decide +kernel))
theorem hy_106 : e_ml[106]? = some ((⟨"PlateroomprinterLaw", "count", "(LPlateroomprinter;I[J)I"⟩ : MethodName), method_25_code, 4, (some .int)) := by decide +kernel
theorem hp_106 : plainName "PlateroomprinterLaw" = true := by decide +kernel
theorem hc_106 : Jvm.Cond.codeWith (⟨"PlateroomprinterLaw", "count", "(LPlateroomprinter;I[J)I"⟩ : MethodName) method_25_code 4 (some .int) [(0, 9, 12, 28)] ∈ lw_tbl := (List.mem_of_getElem? (i := 1706) (by decide +kernel))
theorem hd_106 : "PlateroomprinterLaw" ≠ "java/lang/invoke/MethodHandle" ∧ "PlateroomprinterLaw" ≠ "java/lang/invoke/VarHandle" ∧ (parseMethodDescriptor "(LPlateroomprinter;I[J)I").map (fun d => d.parameters.length) = some 3 := ⟨by decide +kernel, by decide +kernel, by decide +kernel⟩
theorem hi_106 : Jvm.Cond.initialized "PlateroomprinterLaw" ∈ lw_tbl := (List.mem_of_getElem? (i := 137) (by decide +kernel))
theorem hs_106 : Jvm.Cond.static (⟨"PlateroomprinterLaw", "count", "(LPlateroomprinter;I[J)I"⟩ : MethodName) ∈ lw_tbl := (List.mem_of_getElem? (i := 1705) (by decide +kernel))
theorem hy_107 : e_ml[107]? = some ((⟨"PlateroomprinterLaw", "done", "(LPlateroomprinter;I[J)I"⟩ : MethodName), method_11_code, 4, (some .int)) := by decide +kernel
theorem hp_107 : plainName "PlateroomprinterLaw" = true := by decide +kernel
theorem hc_107 : Jvm.Cond.codeWith (⟨"PlateroomprinterLaw", "done", "(LPlateroomprinter;I[J)I"⟩ : MethodName) method_11_code 4 (some .int) [(0, 9, 12, 28)] ∈ lw_tbl := (List.mem_of_getElem? (i := 1632) (by decide +kernel))
theorem hd_107 : "PlateroomprinterLaw" ≠ "java/lang/invoke/MethodHandle" ∧ "PlateroomprinterLaw" ≠ "java/lang/invoke/VarHandle" ∧ (parseMethodDescriptor "(LPlateroomprinter;I[J)I").map (fun d => d.parameters.length) = some 3 := ⟨by decide +kernel, by decide +kernel, by decide +kernel⟩
theorem hi_107 : Jvm.Cond.initialized "PlateroomprinterLaw" ∈ lw_tbl := (List.mem_of_getElem? (i := 137) (by decide +kernel))
theorem hs_107 : Jvm.Cond.static (⟨"PlateroomprinterLaw", "done", "(LPlateroomprinter;I[J)I"⟩ : MethodName) ∈ lw_tbl := (List.mem_of_getElem? (i := 1631) (by decide +kernel))
theorem hy_108 : e_ml[108]? = some ((⟨"PlateroomprinterLaw", "dot", "(LPlateroomprinter;II[J)I"⟩ : MethodName), method_23_code, 5, (some .int)) := by decide +kernel
theorem hp_108 : plainName "PlateroomprinterLaw" = true := by decide +kernel
theorem hc_108 : Jvm.Cond.codeWith (⟨"PlateroomprinterLaw", "dot", "(LPlateroomprinter;II[J)I"⟩ : MethodName) method_23_code 5 (some .int) [(0, 10, 13, 28)] ∈ lw_tbl := (List.mem_of_getElem? (i := 1695) (by decide +kernel))
theorem hd_108 : "PlateroomprinterLaw" ≠ "java/lang/invoke/MethodHandle" ∧ "PlateroomprinterLaw" ≠ "java/lang/invoke/VarHandle" ∧ (parseMethodDescriptor "(LPlateroomprinter;II[J)I").map (fun d => d.parameters.length) = some 4 := ⟨by decide +kernel, by decide +kernel, by decide +kernel⟩
theorem hi_108 : Jvm.Cond.initialized "PlateroomprinterLaw" ∈ lw_tbl := (List.mem_of_getElem? (i := 137) (by decide +kernel))
theorem hs_108 : Jvm.Cond.static (⟨"PlateroomprinterLaw", "dot", "(LPlateroomprinter;II[J)I"⟩ : MethodName) ∈ lw_tbl := (List.mem_of_getElem? (i := 1694) (by decide +kernel))
theorem hy_109 : e_ml[109]? = some ((⟨"PlateroomprinterLaw", "dots", "(LPlateroomprinter;I[J)I"⟩ : MethodName), method_18_code, 4, (some .int)) := by decide +kernel
theorem hp_109 : plainName "PlateroomprinterLaw" = true := by decide +kernel
theorem hc_109 : Jvm.Cond.codeWith (⟨"PlateroomprinterLaw", "dots", "(LPlateroomprinter;I[J)I"⟩ : MethodName) method_18_code 4 (some .int) [(0, 9, 12, 13)] ∈ lw_tbl := (List.mem_of_getElem? (i := 1663) (by decide +kernel))
theorem hd_109 : "PlateroomprinterLaw" ≠ "java/lang/invoke/MethodHandle" ∧ "PlateroomprinterLaw" ≠ "java/lang/invoke/VarHandle" ∧ (parseMethodDescriptor "(LPlateroomprinter;I[J)I").map (fun d => d.parameters.length) = some 3 := ⟨by decide +kernel, by decide +kernel, by decide +kernel⟩
theorem hi_109 : Jvm.Cond.initialized "PlateroomprinterLaw" ∈ lw_tbl := (List.mem_of_getElem? (i := 137) (by decide +kernel))
theorem hs_109 : Jvm.Cond.static (⟨"PlateroomprinterLaw", "dots", "(LPlateroomprinter;I[J)I"⟩ : MethodName) ∈ lw_tbl := (List.mem_of_getElem? (i := 1662) (by decide +kernel))
theorem hy_110 : e_ml[110]? = some ((⟨"PlateroomprinterLaw", "drop", "(LPlateroomprinter;[J)I"⟩ : MethodName), method_5_code, 3, (some .int)) := by decide +kernel
theorem hp_110 : plainName "PlateroomprinterLaw" = true := by decide +kernel
theorem hc_110 : Jvm.Cond.codeWith (⟨"PlateroomprinterLaw", "drop", "(LPlateroomprinter;[J)I"⟩ : MethodName) method_5_code 3 (some .int) [(0, 8, 11, 15)] ∈ lw_tbl := (List.mem_of_getElem? (i := 1603) (by decide +kernel))
theorem hd_110 : "PlateroomprinterLaw" ≠ "java/lang/invoke/MethodHandle" ∧ "PlateroomprinterLaw" ≠ "java/lang/invoke/VarHandle" ∧ (parseMethodDescriptor "(LPlateroomprinter;[J)I").map (fun d => d.parameters.length) = some 2 := ⟨by decide +kernel, by decide +kernel, by decide +kernel⟩
theorem hi_110 : Jvm.Cond.initialized "PlateroomprinterLaw" ∈ lw_tbl := (List.mem_of_getElem? (i := 137) (by decide +kernel))
theorem hs_110 : Jvm.Cond.static (⟨"PlateroomprinterLaw", "drop", "(LPlateroomprinter;[J)I"⟩ : MethodName) ∈ lw_tbl := (List.mem_of_getElem? (i := 1602) (by decide +kernel))
theorem hy_111 : e_ml[111]? = some ((⟨"PlateroomprinterLaw", "fault", "(LPlateroomprinter;I[J)I"⟩ : MethodName), method_7_code, 4, (some .int)) := by decide +kernel
theorem hp_111 : plainName "PlateroomprinterLaw" = true := by decide +kernel
theorem hc_111 : Jvm.Cond.codeWith (⟨"PlateroomprinterLaw", "fault", "(LPlateroomprinter;I[J)I"⟩ : MethodName) method_7_code 4 (some .int) [(0, 9, 12, 13)] ∈ lw_tbl := (List.mem_of_getElem? (i := 1616) (by decide +kernel))
theorem hd_111 : "PlateroomprinterLaw" ≠ "java/lang/invoke/MethodHandle" ∧ "PlateroomprinterLaw" ≠ "java/lang/invoke/VarHandle" ∧ (parseMethodDescriptor "(LPlateroomprinter;I[J)I").map (fun d => d.parameters.length) = some 3 := ⟨by decide +kernel, by decide +kernel, by decide +kernel⟩
theorem hi_111 : Jvm.Cond.initialized "PlateroomprinterLaw" ∈ lw_tbl := (List.mem_of_getElem? (i := 137) (by decide +kernel))
theorem hs_111 : Jvm.Cond.static (⟨"PlateroomprinterLaw", "fault", "(LPlateroomprinter;I[J)I"⟩ : MethodName) ∈ lw_tbl := (List.mem_of_getElem? (i := 1615) (by decide +kernel))
theorem hy_112 : e_ml[112]? = some ((⟨"PlateroomprinterLaw", "figure", "(LPlateroomprinter;II[J)I"⟩ : MethodName), method_21_code, 5, (some .int)) := by decide +kernel
theorem hp_112 : plainName "PlateroomprinterLaw" = true := by decide +kernel
theorem hc_112 : Jvm.Cond.codeWith (⟨"PlateroomprinterLaw", "figure", "(LPlateroomprinter;II[J)I"⟩ : MethodName) method_21_code 5 (some .int) [(0, 10, 13, 28), (0, 10, 17, 13)] ∈ lw_tbl := (List.mem_of_getElem? (i := 1687) (by decide +kernel))
theorem hd_112 : "PlateroomprinterLaw" ≠ "java/lang/invoke/MethodHandle" ∧ "PlateroomprinterLaw" ≠ "java/lang/invoke/VarHandle" ∧ (parseMethodDescriptor "(LPlateroomprinter;II[J)I").map (fun d => d.parameters.length) = some 4 := ⟨by decide +kernel, by decide +kernel, by decide +kernel⟩
theorem hi_112 : Jvm.Cond.initialized "PlateroomprinterLaw" ∈ lw_tbl := (List.mem_of_getElem? (i := 137) (by decide +kernel))
theorem hs_112 : Jvm.Cond.static (⟨"PlateroomprinterLaw", "figure", "(LPlateroomprinter;II[J)I"⟩ : MethodName) ∈ lw_tbl := (List.mem_of_getElem? (i := 1686) (by decide +kernel))
theorem hy_113 : e_ml[113]? = some ((⟨"PlateroomprinterLaw", "form", "(LPlateroomprinter;II[J)I"⟩ : MethodName), method_16_code, 5, (some .int)) := by decide +kernel
theorem hp_113 : plainName "PlateroomprinterLaw" = true := by decide +kernel
theorem hc_113 : Jvm.Cond.codeWith (⟨"PlateroomprinterLaw", "form", "(LPlateroomprinter;II[J)I"⟩ : MethodName) method_16_code 5 (some .int) [(0, 10, 13, 28), (0, 10, 17, 13)] ∈ lw_tbl := (List.mem_of_getElem? (i := 1652) (by decide +kernel))
theorem hd_113 : "PlateroomprinterLaw" ≠ "java/lang/invoke/MethodHandle" ∧ "PlateroomprinterLaw" ≠ "java/lang/invoke/VarHandle" ∧ (parseMethodDescriptor "(LPlateroomprinter;II[J)I").map (fun d => d.parameters.length) = some 4 := ⟨by decide +kernel, by decide +kernel, by decide +kernel⟩
theorem hi_113 : Jvm.Cond.initialized "PlateroomprinterLaw" ∈ lw_tbl := (List.mem_of_getElem? (i := 137) (by decide +kernel))
theorem hs_113 : Jvm.Cond.static (⟨"PlateroomprinterLaw", "form", "(LPlateroomprinter;II[J)I"⟩ : MethodName) ∈ lw_tbl := (List.mem_of_getElem? (i := 1651) (by decide +kernel))
theorem hy_114 : e_ml[114]? = some ((⟨"PlateroomprinterLaw", "halves", "(LPlateroomprinter;IIII[J)I"⟩ : MethodName), method_20_code, 7, (some .int)) := by decide +kernel
theorem hp_114 : plainName "PlateroomprinterLaw" = true := by decide +kernel
theorem hc_114 : Jvm.Cond.codeWith (⟨"PlateroomprinterLaw", "halves", "(LPlateroomprinter;IIII[J)I"⟩ : MethodName) method_20_code 7 (some .int) [(0, 14, 17, 28), (0, 14, 21, 13)] ∈ lw_tbl := (List.mem_of_getElem? (i := 1675) (by decide +kernel))
theorem hd_114 : "PlateroomprinterLaw" ≠ "java/lang/invoke/MethodHandle" ∧ "PlateroomprinterLaw" ≠ "java/lang/invoke/VarHandle" ∧ (parseMethodDescriptor "(LPlateroomprinter;IIII[J)I").map (fun d => d.parameters.length) = some 6 := ⟨by decide +kernel, by decide +kernel, by decide +kernel⟩
theorem hi_114 : Jvm.Cond.initialized "PlateroomprinterLaw" ∈ lw_tbl := (List.mem_of_getElem? (i := 137) (by decide +kernel))
theorem hs_114 : Jvm.Cond.static (⟨"PlateroomprinterLaw", "halves", "(LPlateroomprinter;IIII[J)I"⟩ : MethodName) ∈ lw_tbl := (List.mem_of_getElem? (i := 1674) (by decide +kernel))
theorem hy_115 : e_ml[115]? = some ((⟨"PlateroomprinterLaw", "has", "(LPlateroomprinter;III[J)I"⟩ : MethodName), method_17_code, 6, (some .int)) := by decide +kernel
theorem hp_115 : plainName "PlateroomprinterLaw" = true := by decide +kernel
theorem hc_115 : Jvm.Cond.codeWith (⟨"PlateroomprinterLaw", "has", "(LPlateroomprinter;III[J)I"⟩ : MethodName) method_17_code 6 (some .int) [(0, 19, 22, 28), (0, 19, 26, 13)] ∈ lw_tbl := (List.mem_of_getElem? (i := 1656) (by decide +kernel))
theorem hd_115 : "PlateroomprinterLaw" ≠ "java/lang/invoke/MethodHandle" ∧ "PlateroomprinterLaw" ≠ "java/lang/invoke/VarHandle" ∧ (parseMethodDescriptor "(LPlateroomprinter;III[J)I").map (fun d => d.parameters.length) = some 5 := ⟨by decide +kernel, by decide +kernel, by decide +kernel⟩
theorem hi_115 : Jvm.Cond.initialized "PlateroomprinterLaw" ∈ lw_tbl := (List.mem_of_getElem? (i := 137) (by decide +kernel))
theorem hs_115 : Jvm.Cond.static (⟨"PlateroomprinterLaw", "has", "(LPlateroomprinter;III[J)I"⟩ : MethodName) ∈ lw_tbl := (List.mem_of_getElem? (i := 1655) (by decide +kernel))
theorem hy_116 : e_ml[116]? = some ((⟨"PlateroomprinterLaw", "item", "(LPlateroomprinter;II[J)I"⟩ : MethodName), method_8_code, 5, (some .int)) := by decide +kernel
theorem hp_116 : plainName "PlateroomprinterLaw" = true := by decide +kernel
theorem hc_116 : Jvm.Cond.codeWith (⟨"PlateroomprinterLaw", "item", "(LPlateroomprinter;II[J)I"⟩ : MethodName) method_8_code 5 (some .int) [(0, 10, 13, 28), (0, 10, 17, 13)] ∈ lw_tbl := (List.mem_of_getElem? (i := 1620) (by decide +kernel))
theorem hd_116 : "PlateroomprinterLaw" ≠ "java/lang/invoke/MethodHandle" ∧ "PlateroomprinterLaw" ≠ "java/lang/invoke/VarHandle" ∧ (parseMethodDescriptor "(LPlateroomprinter;II[J)I").map (fun d => d.parameters.length) = some 4 := ⟨by decide +kernel, by decide +kernel, by decide +kernel⟩
theorem hi_116 : Jvm.Cond.initialized "PlateroomprinterLaw" ∈ lw_tbl := (List.mem_of_getElem? (i := 137) (by decide +kernel))
theorem hs_116 : Jvm.Cond.static (⟨"PlateroomprinterLaw", "item", "(LPlateroomprinter;II[J)I"⟩ : MethodName) ∈ lw_tbl := (List.mem_of_getElem? (i := 1619) (by decide +kernel))
theorem hy_117 : e_ml[117]? = some ((⟨"PlateroomprinterLaw", "last", "(LPlateroomprinter;II[J)I"⟩ : MethodName), method_22_code, 5, (some .int)) := by decide +kernel
theorem hp_117 : plainName "PlateroomprinterLaw" = true := by decide +kernel
theorem hc_117 : Jvm.Cond.codeWith (⟨"PlateroomprinterLaw", "last", "(LPlateroomprinter;II[J)I"⟩ : MethodName) method_22_code 5 (some .int) [(0, 10, 13, 28)] ∈ lw_tbl := (List.mem_of_getElem? (i := 1691) (by decide +kernel))
theorem hd_117 : "PlateroomprinterLaw" ≠ "java/lang/invoke/MethodHandle" ∧ "PlateroomprinterLaw" ≠ "java/lang/invoke/VarHandle" ∧ (parseMethodDescriptor "(LPlateroomprinter;II[J)I").map (fun d => d.parameters.length) = some 4 := ⟨by decide +kernel, by decide +kernel, by decide +kernel⟩
theorem hi_117 : Jvm.Cond.initialized "PlateroomprinterLaw" ∈ lw_tbl := (List.mem_of_getElem? (i := 137) (by decide +kernel))
theorem hs_117 : Jvm.Cond.static (⟨"PlateroomprinterLaw", "last", "(LPlateroomprinter;II[J)I"⟩ : MethodName) ∈ lw_tbl := (List.mem_of_getElem? (i := 1690) (by decide +kernel))
theorem hy_118 : e_ml[118]? = some ((⟨"PlateroomprinterLaw", "lastDot", "(LPlateroomprinter;II[J)I"⟩ : MethodName), method_30_code, 5, (some .int)) := by decide +kernel
theorem hp_118 : plainName "PlateroomprinterLaw" = true := by decide +kernel
theorem hc_118 : Jvm.Cond.codeWith (⟨"PlateroomprinterLaw", "lastDot", "(LPlateroomprinter;II[J)I"⟩ : MethodName) method_30_code 5 (some .int) [(0, 10, 13, 28)] ∈ lw_tbl := (List.mem_of_getElem? (i := 1733) (by decide +kernel))
theorem hd_118 : "PlateroomprinterLaw" ≠ "java/lang/invoke/MethodHandle" ∧ "PlateroomprinterLaw" ≠ "java/lang/invoke/VarHandle" ∧ (parseMethodDescriptor "(LPlateroomprinter;II[J)I").map (fun d => d.parameters.length) = some 4 := ⟨by decide +kernel, by decide +kernel, by decide +kernel⟩
theorem hi_118 : Jvm.Cond.initialized "PlateroomprinterLaw" ∈ lw_tbl := (List.mem_of_getElem? (i := 137) (by decide +kernel))
theorem hs_118 : Jvm.Cond.static (⟨"PlateroomprinterLaw", "lastDot", "(LPlateroomprinter;II[J)I"⟩ : MethodName) ∈ lw_tbl := (List.mem_of_getElem? (i := 1732) (by decide +kernel))
theorem hy_119 : e_ml[119]? = some ((⟨"PlateroomprinterLaw", "matrix", "(LPlateroomprinter;II[J)I"⟩ : MethodName), method_13_code, 5, (some .int)) := by decide +kernel
theorem hp_119 : plainName "PlateroomprinterLaw" = true := by decide +kernel
theorem hc_119 : Jvm.Cond.codeWith (⟨"PlateroomprinterLaw", "matrix", "(LPlateroomprinter;II[J)I"⟩ : MethodName) method_13_code 5 (some .int) [(0, 10, 13, 28), (0, 10, 17, 13)] ∈ lw_tbl := (List.mem_of_getElem? (i := 1640) (by decide +kernel))
theorem hd_119 : "PlateroomprinterLaw" ≠ "java/lang/invoke/MethodHandle" ∧ "PlateroomprinterLaw" ≠ "java/lang/invoke/VarHandle" ∧ (parseMethodDescriptor "(LPlateroomprinter;II[J)I").map (fun d => d.parameters.length) = some 4 := ⟨by decide +kernel, by decide +kernel, by decide +kernel⟩
theorem hi_119 : Jvm.Cond.initialized "PlateroomprinterLaw" ∈ lw_tbl := (List.mem_of_getElem? (i := 137) (by decide +kernel))
theorem hs_119 : Jvm.Cond.static (⟨"PlateroomprinterLaw", "matrix", "(LPlateroomprinter;II[J)I"⟩ : MethodName) ∈ lw_tbl := (List.mem_of_getElem? (i := 1639) (by decide +kernel))
theorem hy_120 : e_ml[120]? = some ((⟨"PlateroomprinterLaw", "moved", "(LPlateroomprinter;III[J)I"⟩ : MethodName), method_19_code, 6, (some .int)) := by decide +kernel
theorem hp_120 : plainName "PlateroomprinterLaw" = true := by decide +kernel
theorem hc_120 : Jvm.Cond.codeWith (⟨"PlateroomprinterLaw", "moved", "(LPlateroomprinter;III[J)I"⟩ : MethodName) method_19_code 6 (some .int) [(0, 12, 15, 13)] ∈ lw_tbl := (List.mem_of_getElem? (i := 1667) (by decide +kernel))
theorem hd_120 : "PlateroomprinterLaw" ≠ "java/lang/invoke/MethodHandle" ∧ "PlateroomprinterLaw" ≠ "java/lang/invoke/VarHandle" ∧ (parseMethodDescriptor "(LPlateroomprinter;III[J)I").map (fun d => d.parameters.length) = some 5 := ⟨by decide +kernel, by decide +kernel, by decide +kernel⟩
theorem hi_120 : Jvm.Cond.initialized "PlateroomprinterLaw" ∈ lw_tbl := (List.mem_of_getElem? (i := 137) (by decide +kernel))
theorem hs_120 : Jvm.Cond.static (⟨"PlateroomprinterLaw", "moved", "(LPlateroomprinter;III[J)I"⟩ : MethodName) ∈ lw_tbl := (List.mem_of_getElem? (i := 1666) (by decide +kernel))
theorem hy_121 : e_ml[121]? = some ((⟨"PlateroomprinterLaw", "name", "(LPlateroomprinter;II[J)I"⟩ : MethodName), method_9_code, 5, (some .int)) := by decide +kernel
theorem hp_121 : plainName "PlateroomprinterLaw" = true := by decide +kernel
theorem hc_121 : Jvm.Cond.codeWith (⟨"PlateroomprinterLaw", "name", "(LPlateroomprinter;II[J)I"⟩ : MethodName) method_9_code 5 (some .int) [(0, 10, 13, 28), (0, 10, 17, 13)] ∈ lw_tbl := (List.mem_of_getElem? (i := 1624) (by decide +kernel))
theorem hd_121 : "PlateroomprinterLaw" ≠ "java/lang/invoke/MethodHandle" ∧ "PlateroomprinterLaw" ≠ "java/lang/invoke/VarHandle" ∧ (parseMethodDescriptor "(LPlateroomprinter;II[J)I").map (fun d => d.parameters.length) = some 4 := ⟨by decide +kernel, by decide +kernel, by decide +kernel⟩
theorem hi_121 : Jvm.Cond.initialized "PlateroomprinterLaw" ∈ lw_tbl := (List.mem_of_getElem? (i := 137) (by decide +kernel))
theorem hs_121 : Jvm.Cond.static (⟨"PlateroomprinterLaw", "name", "(LPlateroomprinter;II[J)I"⟩ : MethodName) ∈ lw_tbl := (List.mem_of_getElem? (i := 1623) (by decide +kernel))
theorem hy_122 : e_ml[122]? = some ((⟨"PlateroomprinterLaw", "page", "(LPlateroomprinter;I[J)I"⟩ : MethodName), method_29_code, 4, (some .int)) := by decide +kernel
theorem hp_122 : plainName "PlateroomprinterLaw" = true := by decide +kernel
theorem hc_122 : Jvm.Cond.codeWith (⟨"PlateroomprinterLaw", "page", "(LPlateroomprinter;I[J)I"⟩ : MethodName) method_29_code 4 (some .int) [(0, 9, 12, 13)] ∈ lw_tbl := (List.mem_of_getElem? (i := 1729) (by decide +kernel))
theorem hd_122 : "PlateroomprinterLaw" ≠ "java/lang/invoke/MethodHandle" ∧ "PlateroomprinterLaw" ≠ "java/lang/invoke/VarHandle" ∧ (parseMethodDescriptor "(LPlateroomprinter;I[J)I").map (fun d => d.parameters.length) = some 3 := ⟨by decide +kernel, by decide +kernel, by decide +kernel⟩
theorem hi_122 : Jvm.Cond.initialized "PlateroomprinterLaw" ∈ lw_tbl := (List.mem_of_getElem? (i := 137) (by decide +kernel))
theorem hs_122 : Jvm.Cond.static (⟨"PlateroomprinterLaw", "page", "(LPlateroomprinter;I[J)I"⟩ : MethodName) ∈ lw_tbl := (List.mem_of_getElem? (i := 1728) (by decide +kernel))
theorem hy_123 : e_ml[123]? = some ((⟨"PlateroomprinterLaw", "point", "(LPlateroomprinter;III[J)I"⟩ : MethodName), method_15_code, 6, (some .int)) := by decide +kernel
theorem hp_123 : plainName "PlateroomprinterLaw" = true := by decide +kernel
theorem hc_123 : Jvm.Cond.codeWith (⟨"PlateroomprinterLaw", "point", "(LPlateroomprinter;III[J)I"⟩ : MethodName) method_15_code 6 (some .int) [(0, 12, 15, 28), (0, 12, 19, 13)] ∈ lw_tbl := (List.mem_of_getElem? (i := 1648) (by decide +kernel))
theorem hd_123 : "PlateroomprinterLaw" ≠ "java/lang/invoke/MethodHandle" ∧ "PlateroomprinterLaw" ≠ "java/lang/invoke/VarHandle" ∧ (parseMethodDescriptor "(LPlateroomprinter;III[J)I").map (fun d => d.parameters.length) = some 5 := ⟨by decide +kernel, by decide +kernel, by decide +kernel⟩
theorem hi_123 : Jvm.Cond.initialized "PlateroomprinterLaw" ∈ lw_tbl := (List.mem_of_getElem? (i := 137) (by decide +kernel))
theorem hs_123 : Jvm.Cond.static (⟨"PlateroomprinterLaw", "point", "(LPlateroomprinter;III[J)I"⟩ : MethodName) ∈ lw_tbl := (List.mem_of_getElem? (i := 1647) (by decide +kernel))
theorem hy_124 : e_ml[124]? = some ((⟨"PlateroomprinterLaw", "ring", "(LPlateroomprinter;II[J)I"⟩ : MethodName), method_14_code, 5, (some .int)) := by decide +kernel
theorem hp_124 : plainName "PlateroomprinterLaw" = true := by decide +kernel
theorem hc_124 : Jvm.Cond.codeWith (⟨"PlateroomprinterLaw", "ring", "(LPlateroomprinter;II[J)I"⟩ : MethodName) method_14_code 5 (some .int) [(0, 10, 13, 28), (0, 10, 17, 13)] ∈ lw_tbl := (List.mem_of_getElem? (i := 1644) (by decide +kernel))
theorem hd_124 : "PlateroomprinterLaw" ≠ "java/lang/invoke/MethodHandle" ∧ "PlateroomprinterLaw" ≠ "java/lang/invoke/VarHandle" ∧ (parseMethodDescriptor "(LPlateroomprinter;II[J)I").map (fun d => d.parameters.length) = some 4 := ⟨by decide +kernel, by decide +kernel, by decide +kernel⟩
theorem hi_124 : Jvm.Cond.initialized "PlateroomprinterLaw" ∈ lw_tbl := (List.mem_of_getElem? (i := 137) (by decide +kernel))
theorem hs_124 : Jvm.Cond.static (⟨"PlateroomprinterLaw", "ring", "(LPlateroomprinter;II[J)I"⟩ : MethodName) ∈ lw_tbl := (List.mem_of_getElem? (i := 1643) (by decide +kernel))
theorem hy_125 : e_ml[125]? = some ((⟨"PlateroomprinterLaw", "row", "(LPlateroomprinter;II[J)I"⟩ : MethodName), method_24_code, 5, (some .int)) := by decide +kernel
theorem hp_125 : plainName "PlateroomprinterLaw" = true := by decide +kernel
theorem hc_125 : Jvm.Cond.codeWith (⟨"PlateroomprinterLaw", "row", "(LPlateroomprinter;II[J)I"⟩ : MethodName) method_24_code 5 (some .int) [(0, 10, 13, 28)] ∈ lw_tbl := (List.mem_of_getElem? (i := 1702) (by decide +kernel))
theorem hd_125 : "PlateroomprinterLaw" ≠ "java/lang/invoke/MethodHandle" ∧ "PlateroomprinterLaw" ≠ "java/lang/invoke/VarHandle" ∧ (parseMethodDescriptor "(LPlateroomprinter;II[J)I").map (fun d => d.parameters.length) = some 4 := ⟨by decide +kernel, by decide +kernel, by decide +kernel⟩
theorem hi_125 : Jvm.Cond.initialized "PlateroomprinterLaw" ∈ lw_tbl := (List.mem_of_getElem? (i := 137) (by decide +kernel))
theorem hs_125 : Jvm.Cond.static (⟨"PlateroomprinterLaw", "row", "(LPlateroomprinter;II[J)I"⟩ : MethodName) ∈ lw_tbl := (List.mem_of_getElem? (i := 1701) (by decide +kernel))
theorem hy_126 : e_ml[126]? = some ((⟨"PlateroomprinterLaw", "runAt", "(LPlateroomprinter;II[J)I"⟩ : MethodName), method_28_code, 5, (some .int)) := by decide +kernel
theorem hp_126 : plainName "PlateroomprinterLaw" = true := by decide +kernel
theorem hc_126 : Jvm.Cond.codeWith (⟨"PlateroomprinterLaw", "runAt", "(LPlateroomprinter;II[J)I"⟩ : MethodName) method_28_code 5 (some .int) [(0, 10, 13, 28)] ∈ lw_tbl := (List.mem_of_getElem? (i := 1722) (by decide +kernel))
theorem hd_126 : "PlateroomprinterLaw" ≠ "java/lang/invoke/MethodHandle" ∧ "PlateroomprinterLaw" ≠ "java/lang/invoke/VarHandle" ∧ (parseMethodDescriptor "(LPlateroomprinter;II[J)I").map (fun d => d.parameters.length) = some 4 := ⟨by decide +kernel, by decide +kernel, by decide +kernel⟩
theorem hi_126 : Jvm.Cond.initialized "PlateroomprinterLaw" ∈ lw_tbl := (List.mem_of_getElem? (i := 137) (by decide +kernel))
theorem hs_126 : Jvm.Cond.static (⟨"PlateroomprinterLaw", "runAt", "(LPlateroomprinter;II[J)I"⟩ : MethodName) ∈ lw_tbl := (List.mem_of_getElem? (i := 1721) (by decide +kernel))
theorem hy_127 : e_ml[127]? = some ((⟨"PlateroomprinterLaw", "runs", "(LPlateroomprinter;I[J)I"⟩ : MethodName), method_27_code, 4, (some .int)) := by decide +kernel
theorem hp_127 : plainName "PlateroomprinterLaw" = true := by decide +kernel
theorem hc_127 : Jvm.Cond.codeWith (⟨"PlateroomprinterLaw", "runs", "(LPlateroomprinter;I[J)I"⟩ : MethodName) method_27_code 4 (some .int) [(0, 9, 12, 28)] ∈ lw_tbl := (List.mem_of_getElem? (i := 1718) (by decide +kernel))
theorem hd_127 : "PlateroomprinterLaw" ≠ "java/lang/invoke/MethodHandle" ∧ "PlateroomprinterLaw" ≠ "java/lang/invoke/VarHandle" ∧ (parseMethodDescriptor "(LPlateroomprinter;I[J)I").map (fun d => d.parameters.length) = some 3 := ⟨by decide +kernel, by decide +kernel, by decide +kernel⟩
theorem hi_127 : Jvm.Cond.initialized "PlateroomprinterLaw" ∈ lw_tbl := (List.mem_of_getElem? (i := 137) (by decide +kernel))
theorem hs_127 : Jvm.Cond.static (⟨"PlateroomprinterLaw", "runs", "(LPlateroomprinter;I[J)I"⟩ : MethodName) ∈ lw_tbl := (List.mem_of_getElem? (i := 1717) (by decide +kernel))
theorem hy_128 : e_ml[128]? = some ((⟨"PlateroomprinterLaw", "state", "(LPlateroomprinter;I[J)I"⟩ : MethodName), method_12_code, 4, (some .int)) := by decide +kernel
theorem hp_128 : plainName "PlateroomprinterLaw" = true := by decide +kernel
theorem hc_128 : Jvm.Cond.codeWith (⟨"PlateroomprinterLaw", "state", "(LPlateroomprinter;I[J)I"⟩ : MethodName) method_12_code 4 (some .int) [(0, 9, 12, 13)] ∈ lw_tbl := (List.mem_of_getElem? (i := 1636) (by decide +kernel))
theorem hd_128 : "PlateroomprinterLaw" ≠ "java/lang/invoke/MethodHandle" ∧ "PlateroomprinterLaw" ≠ "java/lang/invoke/VarHandle" ∧ (parseMethodDescriptor "(LPlateroomprinter;I[J)I").map (fun d => d.parameters.length) = some 3 := ⟨by decide +kernel, by decide +kernel, by decide +kernel⟩
theorem hi_128 : Jvm.Cond.initialized "PlateroomprinterLaw" ∈ lw_tbl := (List.mem_of_getElem? (i := 137) (by decide +kernel))
theorem hs_128 : Jvm.Cond.static (⟨"PlateroomprinterLaw", "state", "(LPlateroomprinter;I[J)I"⟩ : MethodName) ∈ lw_tbl := (List.mem_of_getElem? (i := 1635) (by decide +kernel))
theorem hy_129 : e_ml[129]? = some ((⟨"PlateroomprinterLaw", "three", "(LPlateroomprinter;IIIIII[J)I"⟩ : MethodName), method_4_code, 9, (some .int)) := by decide +kernel
theorem hp_129 : plainName "PlateroomprinterLaw" = true := by decide +kernel
theorem hc_129 : Jvm.Cond.codeWith (⟨"PlateroomprinterLaw", "three", "(LPlateroomprinter;IIIIII[J)I"⟩ : MethodName) method_4_code 9 (some .int) [(0, 18, 21, 13), (0, 18, 25, 15)] ∈ lw_tbl := (List.mem_of_getElem? (i := 1596) (by decide +kernel))
theorem hd_129 : "PlateroomprinterLaw" ≠ "java/lang/invoke/MethodHandle" ∧ "PlateroomprinterLaw" ≠ "java/lang/invoke/VarHandle" ∧ (parseMethodDescriptor "(LPlateroomprinter;IIIIII[J)I").map (fun d => d.parameters.length) = some 8 := ⟨by decide +kernel, by decide +kernel, by decide +kernel⟩
theorem hi_129 : Jvm.Cond.initialized "PlateroomprinterLaw" ∈ lw_tbl := (List.mem_of_getElem? (i := 137) (by decide +kernel))
theorem hs_129 : Jvm.Cond.static (⟨"PlateroomprinterLaw", "three", "(LPlateroomprinter;IIIIII[J)I"⟩ : MethodName) ∈ lw_tbl := (List.mem_of_getElem? (i := 1595) (by decide +kernel))
theorem hy_130 : e_ml[130]? = some ((⟨"PlateroomprinterLaw", "token", "(LPlateroomprinter;II[J)I"⟩ : MethodName), method_3_code, 5, (some .int)) := by decide +kernel
theorem hp_130 : plainName "PlateroomprinterLaw" = true := by decide +kernel
theorem hc_130 : Jvm.Cond.codeWith (⟨"PlateroomprinterLaw", "token", "(LPlateroomprinter;II[J)I"⟩ : MethodName) method_3_code 5 (some .int) [(0, 10, 13, 13), (0, 10, 17, 15)] ∈ lw_tbl := (List.mem_of_getElem? (i := 1563) (by decide +kernel))
theorem hd_130 : "PlateroomprinterLaw" ≠ "java/lang/invoke/MethodHandle" ∧ "PlateroomprinterLaw" ≠ "java/lang/invoke/VarHandle" ∧ (parseMethodDescriptor "(LPlateroomprinter;II[J)I").map (fun d => d.parameters.length) = some 4 := ⟨by decide +kernel, by decide +kernel, by decide +kernel⟩
theorem hi_130 : Jvm.Cond.initialized "PlateroomprinterLaw" ∈ lw_tbl := (List.mem_of_getElem? (i := 137) (by decide +kernel))
theorem hs_130 : Jvm.Cond.static (⟨"PlateroomprinterLaw", "token", "(LPlateroomprinter;II[J)I"⟩ : MethodName) ∈ lw_tbl := (List.mem_of_getElem? (i := 1562) (by decide +kernel))
theorem hy_131 : e_ml[131]? = some ((⟨"PlateroomprinterLaw", "tokenAt", "(LPlateroomprinter;II[J)I"⟩ : MethodName), method_6_code, 5, (some .int)) := by decide +kernel
theorem hp_131 : plainName "PlateroomprinterLaw" = true := by decide +kernel
theorem hc_131 : Jvm.Cond.codeWith (⟨"PlateroomprinterLaw", "tokenAt", "(LPlateroomprinter;II[J)I"⟩ : MethodName) method_6_code 5 (some .int) [(0, 10, 13, 28), (0, 10, 17, 13)] ∈ lw_tbl := (List.mem_of_getElem? (i := 1611) (by decide +kernel))
theorem hd_131 : "PlateroomprinterLaw" ≠ "java/lang/invoke/MethodHandle" ∧ "PlateroomprinterLaw" ≠ "java/lang/invoke/VarHandle" ∧ (parseMethodDescriptor "(LPlateroomprinter;II[J)I").map (fun d => d.parameters.length) = some 4 := ⟨by decide +kernel, by decide +kernel, by decide +kernel⟩
theorem hi_131 : Jvm.Cond.initialized "PlateroomprinterLaw" ∈ lw_tbl := (List.mem_of_getElem? (i := 137) (by decide +kernel))
theorem hs_131 : Jvm.Cond.static (⟨"PlateroomprinterLaw", "tokenAt", "(LPlateroomprinter;II[J)I"⟩ : MethodName) ∈ lw_tbl := (List.mem_of_getElem? (i := 1610) (by decide +kernel))
theorem hy_132 : e_ml[132]? = some ((⟨"PlateroomprinterModel", "<init>", "()V"⟩ : MethodName), prog_14_method_1_code, 1, none) := by decide +kernel
theorem hp_132 : plainName "PlateroomprinterModel" = true := by decide +kernel
theorem hc_132 : Jvm.Cond.code (⟨"PlateroomprinterModel", "<init>", "()V"⟩ : MethodName) prog_14_method_1_code 1 none ∈ lw_tbl := (List.mem_of_getElem? (i := 1742) (by decide +kernel))
theorem hd_132 : "PlateroomprinterModel" ≠ "java/lang/invoke/MethodHandle" ∧ "PlateroomprinterModel" ≠ "java/lang/invoke/VarHandle" ∧ (parseMethodDescriptor "()V").map (fun d => d.parameters.length) = some 0 := ⟨by decide +kernel, by decide +kernel, by decide +kernel⟩
theorem hi_132 : Jvm.Cond.initialized "PlateroomprinterModel" ∈ lw_tbl := (List.mem_of_getElem? (i := 151) (by decide +kernel))
theorem hs_132 : Jvm.Cond.instanceMethod (⟨"PlateroomprinterModel", "<init>", "()V"⟩ : MethodName) ∈ lw_tbl := (List.mem_of_getElem? (i := 1741) (by decide +kernel))
theorem hy_133 : e_ml[133]? = some ((⟨"PlateroomprinterModel", "add", "(JJ)J"⟩ : MethodName), prog_14_method_83_code, 4, (some .long)) := by decide +kernel
theorem hp_133 : plainName "PlateroomprinterModel" = true := by decide +kernel
theorem hc_133 : Jvm.Cond.code (⟨"PlateroomprinterModel", "add", "(JJ)J"⟩ : MethodName) prog_14_method_83_code 4 (some .long) ∈ lw_tbl := (List.mem_of_getElem? (i := 3149) (by decide +kernel))
theorem hd_133 : "PlateroomprinterModel" ≠ "java/lang/invoke/MethodHandle" ∧ "PlateroomprinterModel" ≠ "java/lang/invoke/VarHandle" ∧ (parseMethodDescriptor "(JJ)J").map (fun d => d.parameters.length) = some 2 := ⟨by decide +kernel, by decide +kernel, by decide +kernel⟩
theorem hi_133 : Jvm.Cond.initialized "PlateroomprinterModel" ∈ lw_tbl := (List.mem_of_getElem? (i := 151) (by decide +kernel))
theorem hs_133 : Jvm.Cond.static (⟨"PlateroomprinterModel", "add", "(JJ)J"⟩ : MethodName) ∈ lw_tbl := (List.mem_of_getElem? (i := 3148) (by decide +kernel))
theorem hy_134 : e_ml[134]? = some ((⟨"PlateroomprinterModel", "addState", "(J)J"⟩ : MethodName), prog_14_method_84_code, 8, (some .long)) := by decide +kernel
theorem hp_134 : plainName "PlateroomprinterModel" = true := by decide +kernel
theorem hc_134 : Jvm.Cond.code (⟨"PlateroomprinterModel", "addState", "(J)J"⟩ : MethodName) prog_14_method_84_code 8 (some .long) ∈ lw_tbl := (List.mem_of_getElem? (i := 3158) (by decide +kernel))
theorem hd_134 : "PlateroomprinterModel" ≠ "java/lang/invoke/MethodHandle" ∧ "PlateroomprinterModel" ≠ "java/lang/invoke/VarHandle" ∧ (parseMethodDescriptor "(J)J").map (fun d => d.parameters.length) = some 1 := ⟨by decide +kernel, by decide +kernel, by decide +kernel⟩
theorem hi_134 : Jvm.Cond.initialized "PlateroomprinterModel" ∈ lw_tbl := (List.mem_of_getElem? (i := 151) (by decide +kernel))
theorem hs_134 : Jvm.Cond.instanceMethod (⟨"PlateroomprinterModel", "addState", "(J)J"⟩ : MethodName) ∈ lw_tbl := (List.mem_of_getElem? (i := 3157) (by decide +kernel))
theorem hy_135 : e_ml[135]? = some ((⟨"PlateroomprinterModel", "bands", "(I)Z"⟩ : MethodName), prog_14_method_75_code, 5, (some .boolean)) := by decide +kernel
theorem hp_135 : plainName "PlateroomprinterModel" = true := by decide +kernel
theorem hc_135 : Jvm.Cond.code (⟨"PlateroomprinterModel", "bands", "(I)Z"⟩ : MethodName) prog_14_method_75_code 5 (some .boolean) ∈ lw_tbl := (List.mem_of_getElem? (i := 3085) (by decide +kernel))
theorem hd_135 : "PlateroomprinterModel" ≠ "java/lang/invoke/MethodHandle" ∧ "PlateroomprinterModel" ≠ "java/lang/invoke/VarHandle" ∧ (parseMethodDescriptor "(I)Z").map (fun d => d.parameters.length) = some 1 := ⟨by decide +kernel, by decide +kernel, by decide +kernel⟩
theorem hi_135 : Jvm.Cond.initialized "PlateroomprinterModel" ∈ lw_tbl := (List.mem_of_getElem? (i := 151) (by decide +kernel))
theorem hs_135 : Jvm.Cond.instanceMethod (⟨"PlateroomprinterModel", "bands", "(I)Z"⟩ : MethodName) ∈ lw_tbl := (List.mem_of_getElem? (i := 3083) (by decide +kernel))
theorem hy_136 : e_ml[136]? = some ((⟨"PlateroomprinterModel", "colourOf", "([ZI)I"⟩ : MethodName), prog_14_method_68_code, 4, (some .int)) := by decide +kernel
theorem hp_136 : plainName "PlateroomprinterModel" = true := by decide +kernel
theorem hc_136 : Jvm.Cond.code (⟨"PlateroomprinterModel", "colourOf", "([ZI)I"⟩ : MethodName) prog_14_method_68_code 4 (some .int) ∈ lw_tbl := (List.mem_of_getElem? (i := 3062) (by decide +kernel))
theorem hd_136 : "PlateroomprinterModel" ≠ "java/lang/invoke/MethodHandle" ∧ "PlateroomprinterModel" ≠ "java/lang/invoke/VarHandle" ∧ (parseMethodDescriptor "([ZI)I").map (fun d => d.parameters.length) = some 2 := ⟨by decide +kernel, by decide +kernel, by decide +kernel⟩
theorem hi_136 : Jvm.Cond.initialized "PlateroomprinterModel" ∈ lw_tbl := (List.mem_of_getElem? (i := 151) (by decide +kernel))
theorem hs_136 : Jvm.Cond.static (⟨"PlateroomprinterModel", "colourOf", "([ZI)I"⟩ : MethodName) ∈ lw_tbl := (List.mem_of_getElem? (i := 3061) (by decide +kernel))
theorem hy_137 : e_ml[137]? = some ((⟨"PlateroomprinterModel", "copied", "(Ljava/util/ArrayList;II)Ljava/util/ArrayList;"⟩ : MethodName), prog_14_method_13_code, 5, (some (.object "java/util/ArrayList"))) := by decide +kernel
theorem hp_137 : plainName "PlateroomprinterModel" = true := by decide +kernel
theorem hc_137 : Jvm.Cond.code (⟨"PlateroomprinterModel", "copied", "(Ljava/util/ArrayList;II)Ljava/util/ArrayList;"⟩ : MethodName) prog_14_method_13_code 5 (some (.object "java/util/ArrayList")) ∈ lw_tbl := (List.mem_of_getElem? (i := 2065) (by decide +kernel))
theorem hd_137 : "PlateroomprinterModel" ≠ "java/lang/invoke/MethodHandle" ∧ "PlateroomprinterModel" ≠ "java/lang/invoke/VarHandle" ∧ (parseMethodDescriptor "(Ljava/util/ArrayList;II)Ljava/util/ArrayList;").map (fun d => d.parameters.length) = some 3 := ⟨by decide +kernel, by decide +kernel, by decide +kernel⟩
theorem hi_137 : Jvm.Cond.initialized "PlateroomprinterModel" ∈ lw_tbl := (List.mem_of_getElem? (i := 151) (by decide +kernel))
theorem hs_137 : Jvm.Cond.static (⟨"PlateroomprinterModel", "copied", "(Ljava/util/ArrayList;II)Ljava/util/ArrayList;"⟩ : MethodName) ∈ lw_tbl := (List.mem_of_getElem? (i := 2064) (by decide +kernel))
theorem hy_138 : e_ml[138]? = some ((⟨"PlateroomprinterModel", "copied", "([I)[I"⟩ : MethodName), prog_14_method_20_code, 3, (some (.array .int))) := by decide +kernel
theorem hp_138 : plainName "PlateroomprinterModel" = true := by decide +kernel
theorem hc_138 : Jvm.Cond.code (⟨"PlateroomprinterModel", "copied", "([I)[I"⟩ : MethodName) prog_14_method_20_code 3 (some (.array .int)) ∈ lw_tbl := (List.mem_of_getElem? (i := 2100) (by decide +kernel))
theorem hd_138 : "PlateroomprinterModel" ≠ "java/lang/invoke/MethodHandle" ∧ "PlateroomprinterModel" ≠ "java/lang/invoke/VarHandle" ∧ (parseMethodDescriptor "([I)[I").map (fun d => d.parameters.length) = some 1 := ⟨by decide +kernel, by decide +kernel, by decide +kernel⟩
theorem hi_138 : Jvm.Cond.initialized "PlateroomprinterModel" ∈ lw_tbl := (List.mem_of_getElem? (i := 151) (by decide +kernel))
theorem hs_138 : Jvm.Cond.static (⟨"PlateroomprinterModel", "copied", "([I)[I"⟩ : MethodName) ∈ lw_tbl := (List.mem_of_getElem? (i := 2099) (by decide +kernel))
theorem hy_139 : e_ml[139]? = some ((⟨"PlateroomprinterModel", "copied", "([Z)[Z"⟩ : MethodName), prog_14_method_19_code, 3, (some (.array .boolean))) := by decide +kernel
theorem hp_139 : plainName "PlateroomprinterModel" = true := by decide +kernel
theorem hc_139 : Jvm.Cond.code (⟨"PlateroomprinterModel", "copied", "([Z)[Z"⟩ : MethodName) prog_14_method_19_code 3 (some (.array .boolean)) ∈ lw_tbl := (List.mem_of_getElem? (i := 2097) (by decide +kernel))
theorem hd_139 : "PlateroomprinterModel" ≠ "java/lang/invoke/MethodHandle" ∧ "PlateroomprinterModel" ≠ "java/lang/invoke/VarHandle" ∧ (parseMethodDescriptor "([Z)[Z").map (fun d => d.parameters.length) = some 1 := ⟨by decide +kernel, by decide +kernel, by decide +kernel⟩
theorem hi_139 : Jvm.Cond.initialized "PlateroomprinterModel" ∈ lw_tbl := (List.mem_of_getElem? (i := 151) (by decide +kernel))
theorem hs_139 : Jvm.Cond.static (⟨"PlateroomprinterModel", "copied", "([Z)[Z"⟩ : MethodName) ∈ lw_tbl := (List.mem_of_getElem? (i := 2096) (by decide +kernel))
theorem hy_140 : e_ml[140]? = some ((⟨"PlateroomprinterModel", "cost", "(I)I"⟩ : MethodName), prog_14_method_42_code, 2, (some .int)) := by decide +kernel
theorem hp_140 : plainName "PlateroomprinterModel" = true := by decide +kernel
theorem hc_140 : Jvm.Cond.code (⟨"PlateroomprinterModel", "cost", "(I)I"⟩ : MethodName) prog_14_method_42_code 2 (some .int) ∈ lw_tbl := (List.mem_of_getElem? (i := 2940) (by decide +kernel))
theorem hd_140 : "PlateroomprinterModel" ≠ "java/lang/invoke/MethodHandle" ∧ "PlateroomprinterModel" ≠ "java/lang/invoke/VarHandle" ∧ (parseMethodDescriptor "(I)I").map (fun d => d.parameters.length) = some 1 := ⟨by decide +kernel, by decide +kernel, by decide +kernel⟩
theorem hi_140 : Jvm.Cond.initialized "PlateroomprinterModel" ∈ lw_tbl := (List.mem_of_getElem? (i := 151) (by decide +kernel))
theorem hs_140 : Jvm.Cond.instanceMethod (⟨"PlateroomprinterModel", "cost", "(I)I"⟩ : MethodName) ∈ lw_tbl := (List.mem_of_getElem? (i := 2938) (by decide +kernel))
theorem hy_141 : e_ml[141]? = some ((⟨"PlateroomprinterModel", "costNow", "(I)I"⟩ : MethodName), prog_14_method_41_code, 2, (some .int)) := by decide +kernel
theorem hp_141 : plainName "PlateroomprinterModel" = true := by decide +kernel
theorem hc_141 : Jvm.Cond.code (⟨"PlateroomprinterModel", "costNow", "(I)I"⟩ : MethodName) prog_14_method_41_code 2 (some .int) ∈ lw_tbl := (List.mem_of_getElem? (i := 2944) (by decide +kernel))
theorem hd_141 : "PlateroomprinterModel" ≠ "java/lang/invoke/MethodHandle" ∧ "PlateroomprinterModel" ≠ "java/lang/invoke/VarHandle" ∧ (parseMethodDescriptor "(I)I").map (fun d => d.parameters.length) = some 1 := ⟨by decide +kernel, by decide +kernel, by decide +kernel⟩
theorem hi_141 : Jvm.Cond.initialized "PlateroomprinterModel" ∈ lw_tbl := (List.mem_of_getElem? (i := 151) (by decide +kernel))
theorem hs_141 : Jvm.Cond.instanceMethod (⟨"PlateroomprinterModel", "costNow", "(I)I"⟩ : MethodName) ∈ lw_tbl := (List.mem_of_getElem? (i := 2943) (by decide +kernel))
theorem hy_142 : e_ml[142]? = some ((⟨"PlateroomprinterModel", "count", "(I)I"⟩ : MethodName), prog_14_method_74_code, 2, (some .int)) := by decide +kernel
theorem hp_142 : plainName "PlateroomprinterModel" = true := by decide +kernel
theorem hc_142 : Jvm.Cond.code (⟨"PlateroomprinterModel", "count", "(I)I"⟩ : MethodName) prog_14_method_74_code 2 (some .int) ∈ lw_tbl := (List.mem_of_getElem? (i := 3078) (by decide +kernel))
theorem hd_142 : "PlateroomprinterModel" ≠ "java/lang/invoke/MethodHandle" ∧ "PlateroomprinterModel" ≠ "java/lang/invoke/VarHandle" ∧ (parseMethodDescriptor "(I)I").map (fun d => d.parameters.length) = some 1 := ⟨by decide +kernel, by decide +kernel, by decide +kernel⟩
theorem hi_142 : Jvm.Cond.initialized "PlateroomprinterModel" ∈ lw_tbl := (List.mem_of_getElem? (i := 151) (by decide +kernel))
theorem hs_142 : Jvm.Cond.instanceMethod (⟨"PlateroomprinterModel", "count", "(I)I"⟩ : MethodName) ∈ lw_tbl := (List.mem_of_getElem? (i := 3076) (by decide +kernel))
theorem hy_143 : e_ml[143]? = some ((⟨"PlateroomprinterModel", "countOf", "([ZI)I"⟩ : MethodName), prog_14_method_73_code, 4, (some .int)) := by decide +kernel
theorem hp_143 : plainName "PlateroomprinterModel" = true := by decide +kernel
theorem hc_143 : Jvm.Cond.code (⟨"PlateroomprinterModel", "countOf", "([ZI)I"⟩ : MethodName) prog_14_method_73_code 4 (some .int) ∈ lw_tbl := (List.mem_of_getElem? (i := 3081) (by decide +kernel))
theorem hd_143 : "PlateroomprinterModel" ≠ "java/lang/invoke/MethodHandle" ∧ "PlateroomprinterModel" ≠ "java/lang/invoke/VarHandle" ∧ (parseMethodDescriptor "([ZI)I").map (fun d => d.parameters.length) = some 2 := ⟨by decide +kernel, by decide +kernel, by decide +kernel⟩
theorem hi_143 : Jvm.Cond.initialized "PlateroomprinterModel" ∈ lw_tbl := (List.mem_of_getElem? (i := 151) (by decide +kernel))
theorem hs_143 : Jvm.Cond.static (⟨"PlateroomprinterModel", "countOf", "([ZI)I"⟩ : MethodName) ∈ lw_tbl := (List.mem_of_getElem? (i := 3080) (by decide +kernel))
theorem hy_144 : e_ml[144]? = some ((⟨"PlateroomprinterModel", "digest", "()J"⟩ : MethodName), prog_14_method_85_code, 7, (some .long)) := by decide +kernel
theorem hp_144 : plainName "PlateroomprinterModel" = true := by decide +kernel
theorem hc_144 : Jvm.Cond.code (⟨"PlateroomprinterModel", "digest", "()J"⟩ : MethodName) prog_14_method_85_code 7 (some .long) ∈ lw_tbl := (List.mem_of_getElem? (i := 3145) (by decide +kernel))
theorem hd_144 : "PlateroomprinterModel" ≠ "java/lang/invoke/MethodHandle" ∧ "PlateroomprinterModel" ≠ "java/lang/invoke/VarHandle" ∧ (parseMethodDescriptor "()J").map (fun d => d.parameters.length) = some 0 := ⟨by decide +kernel, by decide +kernel, by decide +kernel⟩
theorem hi_144 : Jvm.Cond.initialized "PlateroomprinterModel" ∈ lw_tbl := (List.mem_of_getElem? (i := 151) (by decide +kernel))
theorem hs_144 : Jvm.Cond.instanceMethod (⟨"PlateroomprinterModel", "digest", "()J"⟩ : MethodName) ∈ lw_tbl := (List.mem_of_getElem? (i := 3143) (by decide +kernel))
theorem hy_145 : e_ml[145]? = some ((⟨"PlateroomprinterModel", "done", "(I)I"⟩ : MethodName), prog_14_method_43_code, 2, (some .int)) := by decide +kernel
theorem hp_145 : plainName "PlateroomprinterModel" = true := by decide +kernel
theorem hc_145 : Jvm.Cond.code (⟨"PlateroomprinterModel", "done", "(I)I"⟩ : MethodName) prog_14_method_43_code 2 (some .int) ∈ lw_tbl := (List.mem_of_getElem? (i := 2948) (by decide +kernel))
theorem hd_145 : "PlateroomprinterModel" ≠ "java/lang/invoke/MethodHandle" ∧ "PlateroomprinterModel" ≠ "java/lang/invoke/VarHandle" ∧ (parseMethodDescriptor "(I)I").map (fun d => d.parameters.length) = some 1 := ⟨by decide +kernel, by decide +kernel, by decide +kernel⟩
theorem hi_145 : Jvm.Cond.initialized "PlateroomprinterModel" ∈ lw_tbl := (List.mem_of_getElem? (i := 151) (by decide +kernel))
theorem hs_145 : Jvm.Cond.instanceMethod (⟨"PlateroomprinterModel", "done", "(I)I"⟩ : MethodName) ∈ lw_tbl := (List.mem_of_getElem? (i := 2946) (by decide +kernel))
theorem hy_146 : e_ml[146]? = some ((⟨"PlateroomprinterModel", "dot", "(II)I"⟩ : MethodName), prog_14_method_69_code, 3, (some .int)) := by decide +kernel
theorem hp_146 : plainName "PlateroomprinterModel" = true := by decide +kernel
theorem hc_146 : Jvm.Cond.code (⟨"PlateroomprinterModel", "dot", "(II)I"⟩ : MethodName) prog_14_method_69_code 3 (some .int) ∈ lw_tbl := (List.mem_of_getElem? (i := 3059) (by decide +kernel))
theorem hd_146 : "PlateroomprinterModel" ≠ "java/lang/invoke/MethodHandle" ∧ "PlateroomprinterModel" ≠ "java/lang/invoke/VarHandle" ∧ (parseMethodDescriptor "(II)I").map (fun d => d.parameters.length) = some 2 := ⟨by decide +kernel, by decide +kernel, by decide +kernel⟩
theorem hi_146 : Jvm.Cond.initialized "PlateroomprinterModel" ∈ lw_tbl := (List.mem_of_getElem? (i := 151) (by decide +kernel))
theorem hs_146 : Jvm.Cond.instanceMethod (⟨"PlateroomprinterModel", "dot", "(II)I"⟩ : MethodName) ∈ lw_tbl := (List.mem_of_getElem? (i := 3057) (by decide +kernel))
theorem hy_147 : e_ml[147]? = some ((⟨"PlateroomprinterModel", "dots", "(I)I"⟩ : MethodName), prog_14_method_58_code, 2, (some .int)) := by decide +kernel
theorem hp_147 : plainName "PlateroomprinterModel" = true := by decide +kernel
theorem hc_147 : Jvm.Cond.code (⟨"PlateroomprinterModel", "dots", "(I)I"⟩ : MethodName) prog_14_method_58_code 2 (some .int) ∈ lw_tbl := (List.mem_of_getElem? (i := 3013) (by decide +kernel))
theorem hd_147 : "PlateroomprinterModel" ≠ "java/lang/invoke/MethodHandle" ∧ "PlateroomprinterModel" ≠ "java/lang/invoke/VarHandle" ∧ (parseMethodDescriptor "(I)I").map (fun d => d.parameters.length) = some 1 := ⟨by decide +kernel, by decide +kernel, by decide +kernel⟩
theorem hi_147 : Jvm.Cond.initialized "PlateroomprinterModel" ∈ lw_tbl := (List.mem_of_getElem? (i := 151) (by decide +kernel))
theorem hs_147 : Jvm.Cond.instanceMethod (⟨"PlateroomprinterModel", "dots", "(I)I"⟩ : MethodName) ∈ lw_tbl := (List.mem_of_getElem? (i := 3011) (by decide +kernel))
theorem hy_148 : e_ml[148]? = some ((⟨"PlateroomprinterModel", "dotsOf", "(Ljava/util/ArrayList;I)[Z"⟩ : MethodName), prog_14_method_17_code, 4, (some (.array .boolean))) := by decide +kernel
theorem hp_148 : plainName "PlateroomprinterModel" = true := by decide +kernel
theorem hc_148 : Jvm.Cond.code (⟨"PlateroomprinterModel", "dotsOf", "(Ljava/util/ArrayList;I)[Z"⟩ : MethodName) prog_14_method_17_code 4 (some (.array .boolean)) ∈ lw_tbl := (List.mem_of_getElem? (i := 2465) (by decide +kernel))
theorem hd_148 : "PlateroomprinterModel" ≠ "java/lang/invoke/MethodHandle" ∧ "PlateroomprinterModel" ≠ "java/lang/invoke/VarHandle" ∧ (parseMethodDescriptor "(Ljava/util/ArrayList;I)[Z").map (fun d => d.parameters.length) = some 2 := ⟨by decide +kernel, by decide +kernel, by decide +kernel⟩
theorem hi_148 : Jvm.Cond.initialized "PlateroomprinterModel" ∈ lw_tbl := (List.mem_of_getElem? (i := 151) (by decide +kernel))
theorem hs_148 : Jvm.Cond.static (⟨"PlateroomprinterModel", "dotsOf", "(Ljava/util/ArrayList;I)[Z"⟩ : MethodName) ∈ lw_tbl := (List.mem_of_getElem? (i := 2464) (by decide +kernel))
theorem hy_149 : e_ml[149]? = some ((⟨"PlateroomprinterModel", "drop", "()I"⟩ : MethodName), prog_14_method_28_code, 1, (some .int)) := by decide +kernel
theorem hp_149 : plainName "PlateroomprinterModel" = true := by decide +kernel
theorem hc_149 : Jvm.Cond.code (⟨"PlateroomprinterModel", "drop", "()I"⟩ : MethodName) prog_14_method_28_code 1 (some .int) ∈ lw_tbl := (List.mem_of_getElem? (i := 2012) (by decide +kernel))
theorem hd_149 : "PlateroomprinterModel" ≠ "java/lang/invoke/MethodHandle" ∧ "PlateroomprinterModel" ≠ "java/lang/invoke/VarHandle" ∧ (parseMethodDescriptor "()I").map (fun d => d.parameters.length) = some 0 := ⟨by decide +kernel, by decide +kernel, by decide +kernel⟩
theorem hi_149 : Jvm.Cond.initialized "PlateroomprinterModel" ∈ lw_tbl := (List.mem_of_getElem? (i := 151) (by decide +kernel))
theorem hs_149 : Jvm.Cond.instanceMethod (⟨"PlateroomprinterModel", "drop", "()I"⟩ : MethodName) ∈ lw_tbl := (List.mem_of_getElem? (i := 2010) (by decide +kernel))
theorem hy_150 : e_ml[150]? = some ((⟨"PlateroomprinterModel", "failed", "(III)I"⟩ : MethodName), prog_14_method_30_code, 4, (some .int)) := by decide +kernel
theorem hp_150 : plainName "PlateroomprinterModel" = true := by decide +kernel
theorem hc_150 : Jvm.Cond.code (⟨"PlateroomprinterModel", "failed", "(III)I"⟩ : MethodName) prog_14_method_30_code 4 (some .int) ∈ lw_tbl := (List.mem_of_getElem? (i := 2894) (by decide +kernel))
theorem hd_150 : "PlateroomprinterModel" ≠ "java/lang/invoke/MethodHandle" ∧ "PlateroomprinterModel" ≠ "java/lang/invoke/VarHandle" ∧ (parseMethodDescriptor "(III)I").map (fun d => d.parameters.length) = some 3 := ⟨by decide +kernel, by decide +kernel, by decide +kernel⟩
theorem hi_150 : Jvm.Cond.initialized "PlateroomprinterModel" ∈ lw_tbl := (List.mem_of_getElem? (i := 151) (by decide +kernel))
theorem hs_150 : Jvm.Cond.instanceMethod (⟨"PlateroomprinterModel", "failed", "(III)I"⟩ : MethodName) ∈ lw_tbl := (List.mem_of_getElem? (i := 2893) (by decide +kernel))
theorem hy_151 : e_ml[151]? = some ((⟨"PlateroomprinterModel", "fault", "(I)I"⟩ : MethodName), prog_14_method_36_code, 2, (some .int)) := by decide +kernel
theorem hp_151 : plainName "PlateroomprinterModel" = true := by decide +kernel
theorem hc_151 : Jvm.Cond.code (⟨"PlateroomprinterModel", "fault", "(I)I"⟩ : MethodName) prog_14_method_36_code 2 (some .int) ∈ lw_tbl := (List.mem_of_getElem? (i := 2914) (by decide +kernel))
theorem hd_151 : "PlateroomprinterModel" ≠ "java/lang/invoke/MethodHandle" ∧ "PlateroomprinterModel" ≠ "java/lang/invoke/VarHandle" ∧ (parseMethodDescriptor "(I)I").map (fun d => d.parameters.length) = some 1 := ⟨by decide +kernel, by decide +kernel, by decide +kernel⟩
theorem hi_151 : Jvm.Cond.initialized "PlateroomprinterModel" ∈ lw_tbl := (List.mem_of_getElem? (i := 151) (by decide +kernel))
theorem hs_151 : Jvm.Cond.instanceMethod (⟨"PlateroomprinterModel", "fault", "(I)I"⟩ : MethodName) ∈ lw_tbl := (List.mem_of_getElem? (i := 2912) (by decide +kernel))
theorem hy_152 : e_ml[152]? = some ((⟨"PlateroomprinterModel", "figure", "(II)I"⟩ : MethodName), prog_14_method_66_code, 3, (some .int)) := by decide +kernel
theorem hp_152 : plainName "PlateroomprinterModel" = true := by decide +kernel
theorem hc_152 : Jvm.Cond.code (⟨"PlateroomprinterModel", "figure", "(II)I"⟩ : MethodName) prog_14_method_66_code 3 (some .int) ∈ lw_tbl := (List.mem_of_getElem? (i := 3045) (by decide +kernel))
theorem hd_152 : "PlateroomprinterModel" ≠ "java/lang/invoke/MethodHandle" ∧ "PlateroomprinterModel" ≠ "java/lang/invoke/VarHandle" ∧ (parseMethodDescriptor "(II)I").map (fun d => d.parameters.length) = some 2 := ⟨by decide +kernel, by decide +kernel, by decide +kernel⟩
theorem hi_152 : Jvm.Cond.initialized "PlateroomprinterModel" ∈ lw_tbl := (List.mem_of_getElem? (i := 151) (by decide +kernel))
theorem hs_152 : Jvm.Cond.instanceMethod (⟨"PlateroomprinterModel", "figure", "(II)I"⟩ : MethodName) ∈ lw_tbl := (List.mem_of_getElem? (i := 3043) (by decide +kernel))
theorem hy_153 : e_ml[153]? = some ((⟨"PlateroomprinterModel", "figures", "()I"⟩ : MethodName), prog_14_method_64_code, 1, (some .int)) := by decide +kernel
theorem hp_153 : plainName "PlateroomprinterModel" = true := by decide +kernel
theorem hc_153 : Jvm.Cond.code (⟨"PlateroomprinterModel", "figures", "()I"⟩ : MethodName) prog_14_method_64_code 1 (some .int) ∈ lw_tbl := (List.mem_of_getElem? (i := 3041) (by decide +kernel))
theorem hd_153 : "PlateroomprinterModel" ≠ "java/lang/invoke/MethodHandle" ∧ "PlateroomprinterModel" ≠ "java/lang/invoke/VarHandle" ∧ (parseMethodDescriptor "()I").map (fun d => d.parameters.length) = some 0 := ⟨by decide +kernel, by decide +kernel, by decide +kernel⟩
theorem hi_153 : Jvm.Cond.initialized "PlateroomprinterModel" ∈ lw_tbl := (List.mem_of_getElem? (i := 151) (by decide +kernel))
theorem hs_153 : Jvm.Cond.instanceMethod (⟨"PlateroomprinterModel", "figures", "()I"⟩ : MethodName) ∈ lw_tbl := (List.mem_of_getElem? (i := 3039) (by decide +kernel))
theorem hy_154 : e_ml[154]? = some ((⟨"PlateroomprinterModel", "form", "(II)I"⟩ : MethodName), prog_14_method_55_code, 3, (some .int)) := by decide +kernel
theorem hp_154 : plainName "PlateroomprinterModel" = true := by decide +kernel
theorem hc_154 : Jvm.Cond.code (⟨"PlateroomprinterModel", "form", "(II)I"⟩ : MethodName) prog_14_method_55_code 3 (some .int) ∈ lw_tbl := (List.mem_of_getElem? (i := 2996) (by decide +kernel))
theorem hd_154 : "PlateroomprinterModel" ≠ "java/lang/invoke/MethodHandle" ∧ "PlateroomprinterModel" ≠ "java/lang/invoke/VarHandle" ∧ (parseMethodDescriptor "(II)I").map (fun d => d.parameters.length) = some 2 := ⟨by decide +kernel, by decide +kernel, by decide +kernel⟩
theorem hi_154 : Jvm.Cond.initialized "PlateroomprinterModel" ∈ lw_tbl := (List.mem_of_getElem? (i := 151) (by decide +kernel))
theorem hs_154 : Jvm.Cond.instanceMethod (⟨"PlateroomprinterModel", "form", "(II)I"⟩ : MethodName) ∈ lw_tbl := (List.mem_of_getElem? (i := 2994) (by decide +kernel))
theorem hy_155 : e_ml[155]? = some ((⟨"PlateroomprinterModel", "formNow", "(II)I"⟩ : MethodName), prog_14_method_54_code, 4, (some .int)) := by decide +kernel
theorem hp_155 : plainName "PlateroomprinterModel" = true := by decide +kernel
theorem hc_155 : Jvm.Cond.code (⟨"PlateroomprinterModel", "formNow", "(II)I"⟩ : MethodName) prog_14_method_54_code 4 (some .int) ∈ lw_tbl := (List.mem_of_getElem? (i := 3001) (by decide +kernel))
theorem hd_155 : "PlateroomprinterModel" ≠ "java/lang/invoke/MethodHandle" ∧ "PlateroomprinterModel" ≠ "java/lang/invoke/VarHandle" ∧ (parseMethodDescriptor "(II)I").map (fun d => d.parameters.length) = some 2 := ⟨by decide +kernel, by decide +kernel, by decide +kernel⟩
theorem hi_155 : Jvm.Cond.initialized "PlateroomprinterModel" ∈ lw_tbl := (List.mem_of_getElem? (i := 151) (by decide +kernel))
theorem hs_155 : Jvm.Cond.instanceMethod (⟨"PlateroomprinterModel", "formNow", "(II)I"⟩ : MethodName) ∈ lw_tbl := (List.mem_of_getElem? (i := 3000) (by decide +kernel))
theorem hy_156 : e_ml[156]? = some ((⟨"PlateroomprinterModel", "fresh", "()I"⟩ : MethodName), prog_14_method_32_code, 2, (some .int)) := by decide +kernel
theorem hp_156 : plainName "PlateroomprinterModel" = true := by decide +kernel
theorem hc_156 : Jvm.Cond.code (⟨"PlateroomprinterModel", "fresh", "()I"⟩ : MethodName) prog_14_method_32_code 2 (some .int) ∈ lw_tbl := (List.mem_of_getElem? (i := 2898) (by decide +kernel))
theorem hd_156 : "PlateroomprinterModel" ≠ "java/lang/invoke/MethodHandle" ∧ "PlateroomprinterModel" ≠ "java/lang/invoke/VarHandle" ∧ (parseMethodDescriptor "()I").map (fun d => d.parameters.length) = some 0 := ⟨by decide +kernel, by decide +kernel, by decide +kernel⟩
theorem hi_156 : Jvm.Cond.initialized "PlateroomprinterModel" ∈ lw_tbl := (List.mem_of_getElem? (i := 151) (by decide +kernel))
theorem hs_156 : Jvm.Cond.instanceMethod (⟨"PlateroomprinterModel", "fresh", "()I"⟩ : MethodName) ∈ lw_tbl := (List.mem_of_getElem? (i := 2896) (by decide +kernel))
theorem hy_157 : e_ml[157]? = some ((⟨"PlateroomprinterModel", "halves", "(IIII)I"⟩ : MethodName), prog_14_method_63_code, 11, (some .int)) := by decide +kernel
theorem hp_157 : plainName "PlateroomprinterModel" = true := by decide +kernel
theorem hc_157 : Jvm.Cond.code (⟨"PlateroomprinterModel", "halves", "(IIII)I"⟩ : MethodName) prog_14_method_63_code 11 (some .int) ∈ lw_tbl := (List.mem_of_getElem? (i := 3034) (by decide +kernel))
theorem hd_157 : "PlateroomprinterModel" ≠ "java/lang/invoke/MethodHandle" ∧ "PlateroomprinterModel" ≠ "java/lang/invoke/VarHandle" ∧ (parseMethodDescriptor "(IIII)I").map (fun d => d.parameters.length) = some 4 := ⟨by decide +kernel, by decide +kernel, by decide +kernel⟩
theorem hi_157 : Jvm.Cond.initialized "PlateroomprinterModel" ∈ lw_tbl := (List.mem_of_getElem? (i := 151) (by decide +kernel))
theorem hs_157 : Jvm.Cond.instanceMethod (⟨"PlateroomprinterModel", "halves", "(IIII)I"⟩ : MethodName) ∈ lw_tbl := (List.mem_of_getElem? (i := 3032) (by decide +kernel))
theorem hy_158 : e_ml[158]? = some ((⟨"PlateroomprinterModel", "has", "(III)Z"⟩ : MethodName), prog_14_method_57_code, 4, (some .boolean)) := by decide +kernel
theorem hp_158 : plainName "PlateroomprinterModel" = true := by decide +kernel
theorem hc_158 : Jvm.Cond.code (⟨"PlateroomprinterModel", "has", "(III)Z"⟩ : MethodName) prog_14_method_57_code 4 (some .boolean) ∈ lw_tbl := (List.mem_of_getElem? (i := 3005) (by decide +kernel))
theorem hd_158 : "PlateroomprinterModel" ≠ "java/lang/invoke/MethodHandle" ∧ "PlateroomprinterModel" ≠ "java/lang/invoke/VarHandle" ∧ (parseMethodDescriptor "(III)Z").map (fun d => d.parameters.length) = some 3 := ⟨by decide +kernel, by decide +kernel, by decide +kernel⟩
theorem hi_158 : Jvm.Cond.initialized "PlateroomprinterModel" ∈ lw_tbl := (List.mem_of_getElem? (i := 151) (by decide +kernel))
theorem hs_158 : Jvm.Cond.instanceMethod (⟨"PlateroomprinterModel", "has", "(III)Z"⟩ : MethodName) ∈ lw_tbl := (List.mem_of_getElem? (i := 3003) (by decide +kernel))
theorem hy_159 : e_ml[159]? = some ((⟨"PlateroomprinterModel", "has", "(Ljava/util/ArrayList;III)Z"⟩ : MethodName), prog_14_method_16_code, 10, (some .boolean)) := by decide +kernel
theorem hp_159 : plainName "PlateroomprinterModel" = true := by decide +kernel
theorem hc_159 : Jvm.Cond.code (⟨"PlateroomprinterModel", "has", "(Ljava/util/ArrayList;III)Z"⟩ : MethodName) prog_14_method_16_code 10 (some .boolean) ∈ lw_tbl := (List.mem_of_getElem? (i := 2468) (by decide +kernel))
theorem hd_159 : "PlateroomprinterModel" ≠ "java/lang/invoke/MethodHandle" ∧ "PlateroomprinterModel" ≠ "java/lang/invoke/VarHandle" ∧ (parseMethodDescriptor "(Ljava/util/ArrayList;III)Z").map (fun d => d.parameters.length) = some 4 := ⟨by decide +kernel, by decide +kernel, by decide +kernel⟩
theorem hi_159 : Jvm.Cond.initialized "PlateroomprinterModel" ∈ lw_tbl := (List.mem_of_getElem? (i := 151) (by decide +kernel))
theorem hs_159 : Jvm.Cond.static (⟨"PlateroomprinterModel", "has", "(Ljava/util/ArrayList;III)Z"⟩ : MethodName) ∈ lw_tbl := (List.mem_of_getElem? (i := 2467) (by decide +kernel))
theorem hy_160 : e_ml[160]? = some ((⟨"PlateroomprinterModel", "inverse", "()I"⟩ : MethodName), prog_14_method_61_code, 1, (some .int)) := by decide +kernel
theorem hp_160 : plainName "PlateroomprinterModel" = true := by decide +kernel
theorem hc_160 : Jvm.Cond.code (⟨"PlateroomprinterModel", "inverse", "()I"⟩ : MethodName) prog_14_method_61_code 1 (some .int) ∈ lw_tbl := (List.mem_of_getElem? (i := 3025) (by decide +kernel))
theorem hd_160 : "PlateroomprinterModel" ≠ "java/lang/invoke/MethodHandle" ∧ "PlateroomprinterModel" ≠ "java/lang/invoke/VarHandle" ∧ (parseMethodDescriptor "()I").map (fun d => d.parameters.length) = some 0 := ⟨by decide +kernel, by decide +kernel, by decide +kernel⟩
theorem hi_160 : Jvm.Cond.initialized "PlateroomprinterModel" ∈ lw_tbl := (List.mem_of_getElem? (i := 151) (by decide +kernel))
theorem hs_160 : Jvm.Cond.instanceMethod (⟨"PlateroomprinterModel", "inverse", "()I"⟩ : MethodName) ∈ lw_tbl := (List.mem_of_getElem? (i := 3023) (by decide +kernel))
theorem hy_161 : e_ml[161]? = some ((⟨"PlateroomprinterModel", "inverseNow", "()I"⟩ : MethodName), prog_14_method_60_code, 8, (some .int)) := by decide +kernel
theorem hp_161 : plainName "PlateroomprinterModel" = true := by decide +kernel
theorem hc_161 : Jvm.Cond.code (⟨"PlateroomprinterModel", "inverseNow", "()I"⟩ : MethodName) prog_14_method_60_code 8 (some .int) ∈ lw_tbl := (List.mem_of_getElem? (i := 3029) (by decide +kernel))
theorem hd_161 : "PlateroomprinterModel" ≠ "java/lang/invoke/MethodHandle" ∧ "PlateroomprinterModel" ≠ "java/lang/invoke/VarHandle" ∧ (parseMethodDescriptor "()I").map (fun d => d.parameters.length) = some 0 := ⟨by decide +kernel, by decide +kernel, by decide +kernel⟩
theorem hi_161 : Jvm.Cond.initialized "PlateroomprinterModel" ∈ lw_tbl := (List.mem_of_getElem? (i := 151) (by decide +kernel))
theorem hs_161 : Jvm.Cond.instanceMethod (⟨"PlateroomprinterModel", "inverseNow", "()I"⟩ : MethodName) ∈ lw_tbl := (List.mem_of_getElem? (i := 3028) (by decide +kernel))
theorem hy_162 : e_ml[162]? = some ((⟨"PlateroomprinterModel", "isIn", "(JJJ)Z"⟩ : MethodName), prog_14_method_2_code, 6, (some .boolean)) := by decide +kernel
theorem hp_162 : plainName "PlateroomprinterModel" = true := by decide +kernel
theorem hc_162 : Jvm.Cond.code (⟨"PlateroomprinterModel", "isIn", "(JJJ)Z"⟩ : MethodName) prog_14_method_2_code 6 (some .boolean) ∈ lw_tbl := (List.mem_of_getElem? (i := 1989) (by decide +kernel))
theorem hd_162 : "PlateroomprinterModel" ≠ "java/lang/invoke/MethodHandle" ∧ "PlateroomprinterModel" ≠ "java/lang/invoke/VarHandle" ∧ (parseMethodDescriptor "(JJJ)Z").map (fun d => d.parameters.length) = some 3 := ⟨by decide +kernel, by decide +kernel, by decide +kernel⟩
theorem hi_162 : Jvm.Cond.initialized "PlateroomprinterModel" ∈ lw_tbl := (List.mem_of_getElem? (i := 151) (by decide +kernel))
theorem hs_162 : Jvm.Cond.static (⟨"PlateroomprinterModel", "isIn", "(JJJ)Z"⟩ : MethodName) ∈ lw_tbl := (List.mem_of_getElem? (i := 1988) (by decide +kernel))
theorem hy_163 : e_ml[163]? = some ((⟨"PlateroomprinterModel", "isNoDot", "(II)Z"⟩ : MethodName), prog_14_method_56_code, 2, (some .boolean)) := by decide +kernel
theorem hp_163 : plainName "PlateroomprinterModel" = true := by decide +kernel
theorem hc_163 : Jvm.Cond.code (⟨"PlateroomprinterModel", "isNoDot", "(II)Z"⟩ : MethodName) prog_14_method_56_code 2 (some .boolean) ∈ lw_tbl := (List.mem_of_getElem? (i := 3008) (by decide +kernel))
theorem hd_163 : "PlateroomprinterModel" ≠ "java/lang/invoke/MethodHandle" ∧ "PlateroomprinterModel" ≠ "java/lang/invoke/VarHandle" ∧ (parseMethodDescriptor "(II)Z").map (fun d => d.parameters.length) = some 2 := ⟨by decide +kernel, by decide +kernel, by decide +kernel⟩
theorem hi_163 : Jvm.Cond.initialized "PlateroomprinterModel" ∈ lw_tbl := (List.mem_of_getElem? (i := 151) (by decide +kernel))
theorem hs_163 : Jvm.Cond.static (⟨"PlateroomprinterModel", "isNoDot", "(II)Z"⟩ : MethodName) ∈ lw_tbl := (List.mem_of_getElem? (i := 3007) (by decide +kernel))
theorem hy_164 : e_ml[164]? = some ((⟨"PlateroomprinterModel", "isNoPlate", "(I)Z"⟩ : MethodName), prog_14_method_71_code, 1, (some .boolean)) := by decide +kernel
theorem hp_164 : plainName "PlateroomprinterModel" = true := by decide +kernel
theorem hc_164 : Jvm.Cond.code (⟨"PlateroomprinterModel", "isNoPlate", "(I)Z"⟩ : MethodName) prog_14_method_71_code 1 (some .boolean) ∈ lw_tbl := (List.mem_of_getElem? (i := 3069) (by decide +kernel))
theorem hd_164 : "PlateroomprinterModel" ≠ "java/lang/invoke/MethodHandle" ∧ "PlateroomprinterModel" ≠ "java/lang/invoke/VarHandle" ∧ (parseMethodDescriptor "(I)Z").map (fun d => d.parameters.length) = some 1 := ⟨by decide +kernel, by decide +kernel, by decide +kernel⟩
theorem hi_164 : Jvm.Cond.initialized "PlateroomprinterModel" ∈ lw_tbl := (List.mem_of_getElem? (i := 151) (by decide +kernel))
theorem hs_164 : Jvm.Cond.static (⟨"PlateroomprinterModel", "isNoPlate", "(I)Z"⟩ : MethodName) ∈ lw_tbl := (List.mem_of_getElem? (i := 3068) (by decide +kernel))
theorem hy_165 : e_ml[165]? = some ((⟨"PlateroomprinterModel", "isNoPoint", "(II)Z"⟩ : MethodName), prog_14_method_52_code, 3, (some .boolean)) := by decide +kernel
theorem hp_165 : plainName "PlateroomprinterModel" = true := by decide +kernel
theorem hc_165 : Jvm.Cond.code (⟨"PlateroomprinterModel", "isNoPoint", "(II)Z"⟩ : MethodName) prog_14_method_52_code 3 (some .boolean) ∈ lw_tbl := (List.mem_of_getElem? (i := 2992) (by decide +kernel))
theorem hd_165 : "PlateroomprinterModel" ≠ "java/lang/invoke/MethodHandle" ∧ "PlateroomprinterModel" ≠ "java/lang/invoke/VarHandle" ∧ (parseMethodDescriptor "(II)Z").map (fun d => d.parameters.length) = some 2 := ⟨by decide +kernel, by decide +kernel, by decide +kernel⟩
theorem hi_165 : Jvm.Cond.initialized "PlateroomprinterModel" ∈ lw_tbl := (List.mem_of_getElem? (i := 151) (by decide +kernel))
theorem hs_165 : Jvm.Cond.instanceMethod (⟨"PlateroomprinterModel", "isNoPoint", "(II)Z"⟩ : MethodName) ∈ lw_tbl := (List.mem_of_getElem? (i := 2991) (by decide +kernel))
theorem hy_166 : e_ml[166]? = some ((⟨"PlateroomprinterModel", "isNoRing", "(I)Z"⟩ : MethodName), prog_14_method_49_code, 2, (some .boolean)) := by decide +kernel
theorem hp_166 : plainName "PlateroomprinterModel" = true := by decide +kernel
theorem hc_166 : Jvm.Cond.code (⟨"PlateroomprinterModel", "isNoRing", "(I)Z"⟩ : MethodName) prog_14_method_49_code 2 (some .boolean) ∈ lw_tbl := (List.mem_of_getElem? (i := 2976) (by decide +kernel))
theorem hd_166 : "PlateroomprinterModel" ≠ "java/lang/invoke/MethodHandle" ∧ "PlateroomprinterModel" ≠ "java/lang/invoke/VarHandle" ∧ (parseMethodDescriptor "(I)Z").map (fun d => d.parameters.length) = some 1 := ⟨by decide +kernel, by decide +kernel, by decide +kernel⟩
theorem hi_166 : Jvm.Cond.initialized "PlateroomprinterModel" ∈ lw_tbl := (List.mem_of_getElem? (i := 151) (by decide +kernel))
theorem hs_166 : Jvm.Cond.instanceMethod (⟨"PlateroomprinterModel", "isNoRing", "(I)Z"⟩ : MethodName) ∈ lw_tbl := (List.mem_of_getElem? (i := 2975) (by decide +kernel))
theorem hy_167 : e_ml[167]? = some ((⟨"PlateroomprinterModel", "isNoToken", "(II)Z"⟩ : MethodName), prog_14_method_25_code, 2, (some .boolean)) := by decide +kernel
theorem hp_167 : plainName "PlateroomprinterModel" = true := by decide +kernel
theorem hc_167 : Jvm.Cond.code (⟨"PlateroomprinterModel", "isNoToken", "(II)Z"⟩ : MethodName) prog_14_method_25_code 2 (some .boolean) ∈ lw_tbl := (List.mem_of_getElem? (i := 1984) (by decide +kernel))
theorem hd_167 : "PlateroomprinterModel" ≠ "java/lang/invoke/MethodHandle" ∧ "PlateroomprinterModel" ≠ "java/lang/invoke/VarHandle" ∧ (parseMethodDescriptor "(II)Z").map (fun d => d.parameters.length) = some 2 := ⟨by decide +kernel, by decide +kernel, by decide +kernel⟩
theorem hi_167 : Jvm.Cond.initialized "PlateroomprinterModel" ∈ lw_tbl := (List.mem_of_getElem? (i := 151) (by decide +kernel))
theorem hs_167 : Jvm.Cond.static (⟨"PlateroomprinterModel", "isNoToken", "(II)Z"⟩ : MethodName) ∈ lw_tbl := (List.mem_of_getElem? (i := 1983) (by decide +kernel))
theorem hy_168 : e_ml[168]? = some ((⟨"PlateroomprinterModel", "isSound", "()Z"⟩ : MethodName), prog_14_method_82_code, 1, (some .boolean)) := by decide +kernel
theorem hp_168 : plainName "PlateroomprinterModel" = true := by decide +kernel
theorem hc_168 : Jvm.Cond.code (⟨"PlateroomprinterModel", "isSound", "()Z"⟩ : MethodName) prog_14_method_82_code 1 (some .boolean) ∈ lw_tbl := (List.mem_of_getElem? (i := 3141) (by decide +kernel))
theorem hd_168 : "PlateroomprinterModel" ≠ "java/lang/invoke/MethodHandle" ∧ "PlateroomprinterModel" ≠ "java/lang/invoke/VarHandle" ∧ (parseMethodDescriptor "()Z").map (fun d => d.parameters.length) = some 0 := ⟨by decide +kernel, by decide +kernel, by decide +kernel⟩
theorem hi_168 : Jvm.Cond.initialized "PlateroomprinterModel" ∈ lw_tbl := (List.mem_of_getElem? (i := 151) (by decide +kernel))
theorem hs_168 : Jvm.Cond.instanceMethod (⟨"PlateroomprinterModel", "isSound", "()Z"⟩ : MethodName) ∈ lw_tbl := (List.mem_of_getElem? (i := 3139) (by decide +kernel))
theorem hy_169 : e_ml[169]? = some ((⟨"PlateroomprinterModel", "item", "(II)I"⟩ : MethodName), prog_14_method_38_code, 3, (some .int)) := by decide +kernel
theorem hp_169 : plainName "PlateroomprinterModel" = true := by decide +kernel
theorem hc_169 : Jvm.Cond.code (⟨"PlateroomprinterModel", "item", "(II)I"⟩ : MethodName) prog_14_method_38_code 3 (some .int) ∈ lw_tbl := (List.mem_of_getElem? (i := 2922) (by decide +kernel))
theorem hd_169 : "PlateroomprinterModel" ≠ "java/lang/invoke/MethodHandle" ∧ "PlateroomprinterModel" ≠ "java/lang/invoke/VarHandle" ∧ (parseMethodDescriptor "(II)I").map (fun d => d.parameters.length) = some 2 := ⟨by decide +kernel, by decide +kernel, by decide +kernel⟩
theorem hi_169 : Jvm.Cond.initialized "PlateroomprinterModel" ∈ lw_tbl := (List.mem_of_getElem? (i := 151) (by decide +kernel))
theorem hs_169 : Jvm.Cond.instanceMethod (⟨"PlateroomprinterModel", "item", "(II)I"⟩ : MethodName) ∈ lw_tbl := (List.mem_of_getElem? (i := 2920) (by decide +kernel))
theorem hy_170 : e_ml[170]? = some ((⟨"PlateroomprinterModel", "items", "()I"⟩ : MethodName), prog_14_method_37_code, 1, (some .int)) := by decide +kernel
theorem hp_170 : plainName "PlateroomprinterModel" = true := by decide +kernel
theorem hc_170 : Jvm.Cond.code (⟨"PlateroomprinterModel", "items", "()I"⟩ : MethodName) prog_14_method_37_code 1 (some .int) ∈ lw_tbl := (List.mem_of_getElem? (i := 2918) (by decide +kernel))
theorem hd_170 : "PlateroomprinterModel" ≠ "java/lang/invoke/MethodHandle" ∧ "PlateroomprinterModel" ≠ "java/lang/invoke/VarHandle" ∧ (parseMethodDescriptor "()I").map (fun d => d.parameters.length) = some 0 := ⟨by decide +kernel, by decide +kernel, by decide +kernel⟩
theorem hi_170 : Jvm.Cond.initialized "PlateroomprinterModel" ∈ lw_tbl := (List.mem_of_getElem? (i := 151) (by decide +kernel))
theorem hs_170 : Jvm.Cond.instanceMethod (⟨"PlateroomprinterModel", "items", "()I"⟩ : MethodName) ∈ lw_tbl := (List.mem_of_getElem? (i := 2916) (by decide +kernel))
theorem hy_171 : e_ml[171]? = some ((⟨"PlateroomprinterModel", "knock", "()I"⟩ : MethodName), prog_14_method_33_code, 1, (some .int)) := by decide +kernel
theorem hp_171 : plainName "PlateroomprinterModel" = true := by decide +kernel
theorem hc_171 : Jvm.Cond.code (⟨"PlateroomprinterModel", "knock", "()I"⟩ : MethodName) prog_14_method_33_code 1 (some .int) ∈ lw_tbl := (List.mem_of_getElem? (i := 2902) (by decide +kernel))
theorem hd_171 : "PlateroomprinterModel" ≠ "java/lang/invoke/MethodHandle" ∧ "PlateroomprinterModel" ≠ "java/lang/invoke/VarHandle" ∧ (parseMethodDescriptor "()I").map (fun d => d.parameters.length) = some 0 := ⟨by decide +kernel, by decide +kernel, by decide +kernel⟩
theorem hi_171 : Jvm.Cond.initialized "PlateroomprinterModel" ∈ lw_tbl := (List.mem_of_getElem? (i := 151) (by decide +kernel))
theorem hs_171 : Jvm.Cond.instanceMethod (⟨"PlateroomprinterModel", "knock", "()I"⟩ : MethodName) ∈ lw_tbl := (List.mem_of_getElem? (i := 2900) (by decide +kernel))
theorem hy_172 : e_ml[172]? = some ((⟨"PlateroomprinterModel", "last", "(II)I"⟩ : MethodName), prog_14_method_67_code, 5, (some .int)) := by decide +kernel
theorem hp_172 : plainName "PlateroomprinterModel" = true := by decide +kernel
theorem hc_172 : Jvm.Cond.code (⟨"PlateroomprinterModel", "last", "(II)I"⟩ : MethodName) prog_14_method_67_code 5 (some .int) ∈ lw_tbl := (List.mem_of_getElem? (i := 3055) (by decide +kernel))
theorem hd_172 : "PlateroomprinterModel" ≠ "java/lang/invoke/MethodHandle" ∧ "PlateroomprinterModel" ≠ "java/lang/invoke/VarHandle" ∧ (parseMethodDescriptor "(II)I").map (fun d => d.parameters.length) = some 2 := ⟨by decide +kernel, by decide +kernel, by decide +kernel⟩
theorem hi_172 : Jvm.Cond.initialized "PlateroomprinterModel" ∈ lw_tbl := (List.mem_of_getElem? (i := 151) (by decide +kernel))
theorem hs_172 : Jvm.Cond.instanceMethod (⟨"PlateroomprinterModel", "last", "(II)I"⟩ : MethodName) ∈ lw_tbl := (List.mem_of_getElem? (i := 3053) (by decide +kernel))
theorem hy_173 : e_ml[173]? = some ((⟨"PlateroomprinterModel", "lastDot", "(II)I"⟩ : MethodName), prog_14_method_81_code, 3, (some .int)) := by decide +kernel
theorem hp_173 : plainName "PlateroomprinterModel" = true := by decide +kernel
theorem hc_173 : Jvm.Cond.code (⟨"PlateroomprinterModel", "lastDot", "(II)I"⟩ : MethodName) prog_14_method_81_code 3 (some .int) ∈ lw_tbl := (List.mem_of_getElem? (i := 3137) (by decide +kernel))
theorem hd_173 : "PlateroomprinterModel" ≠ "java/lang/invoke/MethodHandle" ∧ "PlateroomprinterModel" ≠ "java/lang/invoke/VarHandle" ∧ (parseMethodDescriptor "(II)I").map (fun d => d.parameters.length) = some 2 := ⟨by decide +kernel, by decide +kernel, by decide +kernel⟩
theorem hi_173 : Jvm.Cond.initialized "PlateroomprinterModel" ∈ lw_tbl := (List.mem_of_getElem? (i := 151) (by decide +kernel))
theorem hs_173 : Jvm.Cond.instanceMethod (⟨"PlateroomprinterModel", "lastDot", "(II)I"⟩ : MethodName) ∈ lw_tbl := (List.mem_of_getElem? (i := 3135) (by decide +kernel))
theorem hy_174 : e_ml[174]? = some ((⟨"PlateroomprinterModel", "many", "([Z)I"⟩ : MethodName), prog_14_method_18_code, 6, (some .int)) := by decide +kernel
theorem hp_174 : plainName "PlateroomprinterModel" = true := by decide +kernel
theorem hc_174 : Jvm.Cond.code (⟨"PlateroomprinterModel", "many", "([Z)I"⟩ : MethodName) prog_14_method_18_code 6 (some .int) ∈ lw_tbl := (List.mem_of_getElem? (i := 2481) (by decide +kernel))
theorem hd_174 : "PlateroomprinterModel" ≠ "java/lang/invoke/MethodHandle" ∧ "PlateroomprinterModel" ≠ "java/lang/invoke/VarHandle" ∧ (parseMethodDescriptor "([Z)I").map (fun d => d.parameters.length) = some 1 := ⟨by decide +kernel, by decide +kernel, by decide +kernel⟩
theorem hi_174 : Jvm.Cond.initialized "PlateroomprinterModel" ∈ lw_tbl := (List.mem_of_getElem? (i := 151) (by decide +kernel))
theorem hs_174 : Jvm.Cond.static (⟨"PlateroomprinterModel", "many", "([Z)I"⟩ : MethodName) ∈ lw_tbl := (List.mem_of_getElem? (i := 2480) (by decide +kernel))
theorem hy_175 : e_ml[175]? = some ((⟨"PlateroomprinterModel", "matrix", "(II)I"⟩ : MethodName), prog_14_method_47_code, 3, (some .int)) := by decide +kernel
theorem hp_175 : plainName "PlateroomprinterModel" = true := by decide +kernel
theorem hc_175 : Jvm.Cond.code (⟨"PlateroomprinterModel", "matrix", "(II)I"⟩ : MethodName) prog_14_method_47_code 3 (some .int) ∈ lw_tbl := (List.mem_of_getElem? (i := 2963) (by decide +kernel))
theorem hd_175 : "PlateroomprinterModel" ≠ "java/lang/invoke/MethodHandle" ∧ "PlateroomprinterModel" ≠ "java/lang/invoke/VarHandle" ∧ (parseMethodDescriptor "(II)I").map (fun d => d.parameters.length) = some 2 := ⟨by decide +kernel, by decide +kernel, by decide +kernel⟩
theorem hi_175 : Jvm.Cond.initialized "PlateroomprinterModel" ∈ lw_tbl := (List.mem_of_getElem? (i := 151) (by decide +kernel))
theorem hs_175 : Jvm.Cond.instanceMethod (⟨"PlateroomprinterModel", "matrix", "(II)I"⟩ : MethodName) ∈ lw_tbl := (List.mem_of_getElem? (i := 2961) (by decide +kernel))
theorem hy_176 : e_ml[176]? = some ((⟨"PlateroomprinterModel", "matrixNow", "(II)I"⟩ : MethodName), prog_14_method_46_code, 3, (some .int)) := by decide +kernel
theorem hp_176 : plainName "PlateroomprinterModel" = true := by decide +kernel
theorem hc_176 : Jvm.Cond.code (⟨"PlateroomprinterModel", "matrixNow", "(II)I"⟩ : MethodName) prog_14_method_46_code 3 (some .int) ∈ lw_tbl := (List.mem_of_getElem? (i := 2968) (by decide +kernel))
theorem hd_176 : "PlateroomprinterModel" ≠ "java/lang/invoke/MethodHandle" ∧ "PlateroomprinterModel" ≠ "java/lang/invoke/VarHandle" ∧ (parseMethodDescriptor "(II)I").map (fun d => d.parameters.length) = some 2 := ⟨by decide +kernel, by decide +kernel, by decide +kernel⟩
theorem hi_176 : Jvm.Cond.initialized "PlateroomprinterModel" ∈ lw_tbl := (List.mem_of_getElem? (i := 151) (by decide +kernel))
theorem hs_176 : Jvm.Cond.instanceMethod (⟨"PlateroomprinterModel", "matrixNow", "(II)I"⟩ : MethodName) ∈ lw_tbl := (List.mem_of_getElem? (i := 2967) (by decide +kernel))
theorem hy_177 : e_ml[177]? = some ((⟨"PlateroomprinterModel", "moved", "(III)I"⟩ : MethodName), prog_14_method_59_code, 4, (some .int)) := by decide +kernel
theorem hp_177 : plainName "PlateroomprinterModel" = true := by decide +kernel
theorem hc_177 : Jvm.Cond.code (⟨"PlateroomprinterModel", "moved", "(III)I"⟩ : MethodName) prog_14_method_59_code 4 (some .int) ∈ lw_tbl := (List.mem_of_getElem? (i := 3018) (by decide +kernel))
theorem hd_177 : "PlateroomprinterModel" ≠ "java/lang/invoke/MethodHandle" ∧ "PlateroomprinterModel" ≠ "java/lang/invoke/VarHandle" ∧ (parseMethodDescriptor "(III)I").map (fun d => d.parameters.length) = some 3 := ⟨by decide +kernel, by decide +kernel, by decide +kernel⟩
theorem hi_177 : Jvm.Cond.initialized "PlateroomprinterModel" ∈ lw_tbl := (List.mem_of_getElem? (i := 151) (by decide +kernel))
theorem hs_177 : Jvm.Cond.instanceMethod (⟨"PlateroomprinterModel", "moved", "(III)I"⟩ : MethodName) ∈ lw_tbl := (List.mem_of_getElem? (i := 3016) (by decide +kernel))
theorem hy_178 : e_ml[178]? = some ((⟨"PlateroomprinterModel", "name", "(II)I"⟩ : MethodName), prog_14_method_40_code, 3, (some .int)) := by decide +kernel
theorem hp_178 : plainName "PlateroomprinterModel" = true := by decide +kernel
theorem hc_178 : Jvm.Cond.code (⟨"PlateroomprinterModel", "name", "(II)I"⟩ : MethodName) prog_14_method_40_code 3 (some .int) ∈ lw_tbl := (List.mem_of_getElem? (i := 2932) (by decide +kernel))
theorem hd_178 : "PlateroomprinterModel" ≠ "java/lang/invoke/MethodHandle" ∧ "PlateroomprinterModel" ≠ "java/lang/invoke/VarHandle" ∧ (parseMethodDescriptor "(II)I").map (fun d => d.parameters.length) = some 2 := ⟨by decide +kernel, by decide +kernel, by decide +kernel⟩
theorem hi_178 : Jvm.Cond.initialized "PlateroomprinterModel" ∈ lw_tbl := (List.mem_of_getElem? (i := 151) (by decide +kernel))
theorem hs_178 : Jvm.Cond.instanceMethod (⟨"PlateroomprinterModel", "name", "(II)I"⟩ : MethodName) ∈ lw_tbl := (List.mem_of_getElem? (i := 2930) (by decide +kernel))
theorem hy_179 : e_ml[179]? = some ((⟨"PlateroomprinterModel", "nameNow", "(II)I"⟩ : MethodName), prog_14_method_39_code, 3, (some .int)) := by decide +kernel
theorem hp_179 : plainName "PlateroomprinterModel" = true := by decide +kernel
theorem hc_179 : Jvm.Cond.code (⟨"PlateroomprinterModel", "nameNow", "(II)I"⟩ : MethodName) prog_14_method_39_code 3 (some .int) ∈ lw_tbl := (List.mem_of_getElem? (i := 2936) (by decide +kernel))
theorem hd_179 : "PlateroomprinterModel" ≠ "java/lang/invoke/MethodHandle" ∧ "PlateroomprinterModel" ≠ "java/lang/invoke/VarHandle" ∧ (parseMethodDescriptor "(II)I").map (fun d => d.parameters.length) = some 2 := ⟨by decide +kernel, by decide +kernel, by decide +kernel⟩
theorem hi_179 : Jvm.Cond.initialized "PlateroomprinterModel" ∈ lw_tbl := (List.mem_of_getElem? (i := 151) (by decide +kernel))
theorem hs_179 : Jvm.Cond.instanceMethod (⟨"PlateroomprinterModel", "nameNow", "(II)I"⟩ : MethodName) ∈ lw_tbl := (List.mem_of_getElem? (i := 2935) (by decide +kernel))
theorem hy_180 : e_ml[180]? = some ((⟨"PlateroomprinterModel", "one", "(Z)I"⟩ : MethodName), prog_14_method_3_code, 1, (some .int)) := by decide +kernel
theorem hp_180 : plainName "PlateroomprinterModel" = true := by decide +kernel
theorem hc_180 : Jvm.Cond.code (⟨"PlateroomprinterModel", "one", "(Z)I"⟩ : MethodName) prog_14_method_3_code 1 (some .int) ∈ lw_tbl := (List.mem_of_getElem? (i := 2282) (by decide +kernel))
theorem hd_180 : "PlateroomprinterModel" ≠ "java/lang/invoke/MethodHandle" ∧ "PlateroomprinterModel" ≠ "java/lang/invoke/VarHandle" ∧ (parseMethodDescriptor "(Z)I").map (fun d => d.parameters.length) = some 1 := ⟨by decide +kernel, by decide +kernel, by decide +kernel⟩
theorem hi_180 : Jvm.Cond.initialized "PlateroomprinterModel" ∈ lw_tbl := (List.mem_of_getElem? (i := 151) (by decide +kernel))
theorem hs_180 : Jvm.Cond.static (⟨"PlateroomprinterModel", "one", "(Z)I"⟩ : MethodName) ∈ lw_tbl := (List.mem_of_getElem? (i := 2281) (by decide +kernel))
theorem hy_181 : e_ml[181]? = some ((⟨"PlateroomprinterModel", "page", "(I)I"⟩ : MethodName), prog_14_method_80_code, 2, (some .int)) := by decide +kernel
theorem hp_181 : plainName "PlateroomprinterModel" = true := by decide +kernel
theorem hc_181 : Jvm.Cond.code (⟨"PlateroomprinterModel", "page", "(I)I"⟩ : MethodName) prog_14_method_80_code 2 (some .int) ∈ lw_tbl := (List.mem_of_getElem? (i := 3129) (by decide +kernel))
theorem hd_181 : "PlateroomprinterModel" ≠ "java/lang/invoke/MethodHandle" ∧ "PlateroomprinterModel" ≠ "java/lang/invoke/VarHandle" ∧ (parseMethodDescriptor "(I)I").map (fun d => d.parameters.length) = some 1 := ⟨by decide +kernel, by decide +kernel, by decide +kernel⟩
theorem hi_181 : Jvm.Cond.initialized "PlateroomprinterModel" ∈ lw_tbl := (List.mem_of_getElem? (i := 151) (by decide +kernel))
theorem hs_181 : Jvm.Cond.instanceMethod (⟨"PlateroomprinterModel", "page", "(I)I"⟩ : MethodName) ∈ lw_tbl := (List.mem_of_getElem? (i := 3127) (by decide +kernel))
theorem hy_182 : e_ml[182]? = some ((⟨"PlateroomprinterModel", "pageNow", "(I)I"⟩ : MethodName), prog_14_method_79_code, 4, (some .int)) := by decide +kernel
theorem hp_182 : plainName "PlateroomprinterModel" = true := by decide +kernel
theorem hc_182 : Jvm.Cond.code (⟨"PlateroomprinterModel", "pageNow", "(I)I"⟩ : MethodName) prog_14_method_79_code 4 (some .int) ∈ lw_tbl := (List.mem_of_getElem? (i := 3133) (by decide +kernel))
theorem hd_182 : "PlateroomprinterModel" ≠ "java/lang/invoke/MethodHandle" ∧ "PlateroomprinterModel" ≠ "java/lang/invoke/VarHandle" ∧ (parseMethodDescriptor "(I)I").map (fun d => d.parameters.length) = some 1 := ⟨by decide +kernel, by decide +kernel, by decide +kernel⟩
theorem hi_182 : Jvm.Cond.initialized "PlateroomprinterModel" ∈ lw_tbl := (List.mem_of_getElem? (i := 151) (by decide +kernel))
theorem hs_182 : Jvm.Cond.instanceMethod (⟨"PlateroomprinterModel", "pageNow", "(I)I"⟩ : MethodName) ∈ lw_tbl := (List.mem_of_getElem? (i := 3132) (by decide +kernel))
theorem hy_183 : e_ml[183]? = some ((⟨"PlateroomprinterModel", "passes", "([I[III)I"⟩ : MethodName), prog_14_method_15_code, 7, (some .int)) := by decide +kernel
theorem hp_183 : plainName "PlateroomprinterModel" = true := by decide +kernel
theorem hc_183 : Jvm.Cond.code (⟨"PlateroomprinterModel", "passes", "([I[III)I"⟩ : MethodName) prog_14_method_15_code 7 (some .int) ∈ lw_tbl := (List.mem_of_getElem? (i := 2471) (by decide +kernel))
theorem hd_183 : "PlateroomprinterModel" ≠ "java/lang/invoke/MethodHandle" ∧ "PlateroomprinterModel" ≠ "java/lang/invoke/VarHandle" ∧ (parseMethodDescriptor "([I[III)I").map (fun d => d.parameters.length) = some 4 := ⟨by decide +kernel, by decide +kernel, by decide +kernel⟩
theorem hi_183 : Jvm.Cond.initialized "PlateroomprinterModel" ∈ lw_tbl := (List.mem_of_getElem? (i := 151) (by decide +kernel))
theorem hs_183 : Jvm.Cond.static (⟨"PlateroomprinterModel", "passes", "([I[III)I"⟩ : MethodName) ∈ lw_tbl := (List.mem_of_getElem? (i := 2470) (by decide +kernel))
theorem hy_184 : e_ml[184]? = some ((⟨"PlateroomprinterModel", "path", "()Ljava/util/ArrayList;"⟩ : MethodName), prog_14_method_48_code, 1, (some (.object "java/util/ArrayList"))) := by decide +kernel
theorem hp_184 : plainName "PlateroomprinterModel" = true := by decide +kernel
theorem hc_184 : Jvm.Cond.code (⟨"PlateroomprinterModel", "path", "()Ljava/util/ArrayList;"⟩ : MethodName) prog_14_method_48_code 1 (some (.object "java/util/ArrayList")) ∈ lw_tbl := (List.mem_of_getElem? (i := 2980) (by decide +kernel))
theorem hd_184 : "PlateroomprinterModel" ≠ "java/lang/invoke/MethodHandle" ∧ "PlateroomprinterModel" ≠ "java/lang/invoke/VarHandle" ∧ (parseMethodDescriptor "()Ljava/util/ArrayList;").map (fun d => d.parameters.length) = some 0 := ⟨by decide +kernel, by decide +kernel, by decide +kernel⟩
theorem hi_184 : Jvm.Cond.initialized "PlateroomprinterModel" ∈ lw_tbl := (List.mem_of_getElem? (i := 151) (by decide +kernel))
theorem hs_184 : Jvm.Cond.instanceMethod (⟨"PlateroomprinterModel", "path", "()Ljava/util/ArrayList;"⟩ : MethodName) ∈ lw_tbl := (List.mem_of_getElem? (i := 2979) (by decide +kernel))
theorem hy_185 : e_ml[185]? = some ((⟨"PlateroomprinterModel", "point", "(III)I"⟩ : MethodName), prog_14_method_53_code, 4, (some .int)) := by decide +kernel
theorem hp_185 : plainName "PlateroomprinterModel" = true := by decide +kernel
theorem hc_185 : Jvm.Cond.code (⟨"PlateroomprinterModel", "point", "(III)I"⟩ : MethodName) prog_14_method_53_code 4 (some .int) ∈ lw_tbl := (List.mem_of_getElem? (i := 2988) (by decide +kernel))
theorem hd_185 : "PlateroomprinterModel" ≠ "java/lang/invoke/MethodHandle" ∧ "PlateroomprinterModel" ≠ "java/lang/invoke/VarHandle" ∧ (parseMethodDescriptor "(III)I").map (fun d => d.parameters.length) = some 3 := ⟨by decide +kernel, by decide +kernel, by decide +kernel⟩
theorem hi_185 : Jvm.Cond.initialized "PlateroomprinterModel" ∈ lw_tbl := (List.mem_of_getElem? (i := 151) (by decide +kernel))
theorem hs_185 : Jvm.Cond.instanceMethod (⟨"PlateroomprinterModel", "point", "(III)I"⟩ : MethodName) ∈ lw_tbl := (List.mem_of_getElem? (i := 2986) (by decide +kernel))
theorem hy_186 : e_ml[186]? = some ((⟨"PlateroomprinterModel", "points", "(Ljava/util/ArrayList;)I"⟩ : MethodName), prog_14_method_14_code, 3, (some .int)) := by decide +kernel
theorem hp_186 : plainName "PlateroomprinterModel" = true := by decide +kernel
theorem hc_186 : Jvm.Cond.code (⟨"PlateroomprinterModel", "points", "(Ljava/util/ArrayList;)I"⟩ : MethodName) prog_14_method_14_code 3 (some .int) ∈ lw_tbl := (List.mem_of_getElem? (i := 2401) (by decide +kernel))
theorem hd_186 : "PlateroomprinterModel" ≠ "java/lang/invoke/MethodHandle" ∧ "PlateroomprinterModel" ≠ "java/lang/invoke/VarHandle" ∧ (parseMethodDescriptor "(Ljava/util/ArrayList;)I").map (fun d => d.parameters.length) = some 1 := ⟨by decide +kernel, by decide +kernel, by decide +kernel⟩
theorem hi_186 : Jvm.Cond.initialized "PlateroomprinterModel" ∈ lw_tbl := (List.mem_of_getElem? (i := 151) (by decide +kernel))
theorem hs_186 : Jvm.Cond.static (⟨"PlateroomprinterModel", "points", "(Ljava/util/ArrayList;)I"⟩ : MethodName) ∈ lw_tbl := (List.mem_of_getElem? (i := 2400) (by decide +kernel))
theorem hy_187 : e_ml[187]? = some ((⟨"PlateroomprinterModel", "refuse", "(ZI)Z"⟩ : MethodName), prog_14_method_23_code, 3, (some .boolean)) := by decide +kernel
theorem hp_187 : plainName "PlateroomprinterModel" = true := by decide +kernel
theorem hc_187 : Jvm.Cond.code (⟨"PlateroomprinterModel", "refuse", "(ZI)Z"⟩ : MethodName) prog_14_method_23_code 3 (some .boolean) ∈ lw_tbl := (List.mem_of_getElem? (i := 1999) (by decide +kernel))
theorem hd_187 : "PlateroomprinterModel" ≠ "java/lang/invoke/MethodHandle" ∧ "PlateroomprinterModel" ≠ "java/lang/invoke/VarHandle" ∧ (parseMethodDescriptor "(ZI)Z").map (fun d => d.parameters.length) = some 2 := ⟨by decide +kernel, by decide +kernel, by decide +kernel⟩
theorem hi_187 : Jvm.Cond.initialized "PlateroomprinterModel" ∈ lw_tbl := (List.mem_of_getElem? (i := 151) (by decide +kernel))
theorem hs_187 : Jvm.Cond.instanceMethod (⟨"PlateroomprinterModel", "refuse", "(ZI)Z"⟩ : MethodName) ∈ lw_tbl := (List.mem_of_getElem? (i := 1998) (by decide +kernel))
theorem hy_188 : e_ml[188]? = some ((⟨"PlateroomprinterModel", "ring", "(II)I"⟩ : MethodName), prog_14_method_51_code, 3, (some .int)) := by decide +kernel
theorem hp_188 : plainName "PlateroomprinterModel" = true := by decide +kernel
theorem hc_188 : Jvm.Cond.code (⟨"PlateroomprinterModel", "ring", "(II)I"⟩ : MethodName) prog_14_method_51_code 3 (some .int) ∈ lw_tbl := (List.mem_of_getElem? (i := 2972) (by decide +kernel))
theorem hd_188 : "PlateroomprinterModel" ≠ "java/lang/invoke/MethodHandle" ∧ "PlateroomprinterModel" ≠ "java/lang/invoke/VarHandle" ∧ (parseMethodDescriptor "(II)I").map (fun d => d.parameters.length) = some 2 := ⟨by decide +kernel, by decide +kernel, by decide +kernel⟩
theorem hi_188 : Jvm.Cond.initialized "PlateroomprinterModel" ∈ lw_tbl := (List.mem_of_getElem? (i := 151) (by decide +kernel))
theorem hs_188 : Jvm.Cond.instanceMethod (⟨"PlateroomprinterModel", "ring", "(II)I"⟩ : MethodName) ∈ lw_tbl := (List.mem_of_getElem? (i := 2970) (by decide +kernel))
theorem hy_189 : e_ml[189]? = some ((⟨"PlateroomprinterModel", "row", "(II)I"⟩ : MethodName), prog_14_method_72_code, 3, (some .int)) := by decide +kernel
theorem hp_189 : plainName "PlateroomprinterModel" = true := by decide +kernel
theorem hc_189 : Jvm.Cond.code (⟨"PlateroomprinterModel", "row", "(II)I"⟩ : MethodName) prog_14_method_72_code 3 (some .int) ∈ lw_tbl := (List.mem_of_getElem? (i := 3066) (by decide +kernel))
theorem hd_189 : "PlateroomprinterModel" ≠ "java/lang/invoke/MethodHandle" ∧ "PlateroomprinterModel" ≠ "java/lang/invoke/VarHandle" ∧ (parseMethodDescriptor "(II)I").map (fun d => d.parameters.length) = some 2 := ⟨by decide +kernel, by decide +kernel, by decide +kernel⟩
theorem hi_189 : Jvm.Cond.initialized "PlateroomprinterModel" ∈ lw_tbl := (List.mem_of_getElem? (i := 151) (by decide +kernel))
theorem hs_189 : Jvm.Cond.instanceMethod (⟨"PlateroomprinterModel", "row", "(II)I"⟩ : MethodName) ∈ lw_tbl := (List.mem_of_getElem? (i := 3064) (by decide +kernel))
theorem hy_190 : e_ml[190]? = some ((⟨"PlateroomprinterModel", "rowNow", "(II)I"⟩ : MethodName), prog_14_method_70_code, 5, (some .int)) := by decide +kernel
theorem hp_190 : plainName "PlateroomprinterModel" = true := by decide +kernel
theorem hc_190 : Jvm.Cond.code (⟨"PlateroomprinterModel", "rowNow", "(II)I"⟩ : MethodName) prog_14_method_70_code 5 (some .int) ∈ lw_tbl := (List.mem_of_getElem? (i := 3074) (by decide +kernel))
theorem hd_190 : "PlateroomprinterModel" ≠ "java/lang/invoke/MethodHandle" ∧ "PlateroomprinterModel" ≠ "java/lang/invoke/VarHandle" ∧ (parseMethodDescriptor "(II)I").map (fun d => d.parameters.length) = some 2 := ⟨by decide +kernel, by decide +kernel, by decide +kernel⟩
theorem hi_190 : Jvm.Cond.initialized "PlateroomprinterModel" ∈ lw_tbl := (List.mem_of_getElem? (i := 151) (by decide +kernel))
theorem hs_190 : Jvm.Cond.instanceMethod (⟨"PlateroomprinterModel", "rowNow", "(II)I"⟩ : MethodName) ∈ lw_tbl := (List.mem_of_getElem? (i := 3073) (by decide +kernel))
theorem hy_191 : e_ml[191]? = some ((⟨"PlateroomprinterModel", "run", "()I"⟩ : MethodName), prog_14_method_31_code, 4, (some .int)) := by decide +kernel
theorem hp_191 : plainName "PlateroomprinterModel" = true := by decide +kernel
theorem hc_191 : Jvm.Cond.codeWith (⟨"PlateroomprinterModel", "run", "()I"⟩ : MethodName) prog_14_method_31_code 4 (some .int) [(26, 30, 33, 27)] ∈ lw_tbl := (List.mem_of_getElem? (i := 2040) (by decide +kernel))
theorem hd_191 : "PlateroomprinterModel" ≠ "java/lang/invoke/MethodHandle" ∧ "PlateroomprinterModel" ≠ "java/lang/invoke/VarHandle" ∧ (parseMethodDescriptor "()I").map (fun d => d.parameters.length) = some 0 := ⟨by decide +kernel, by decide +kernel, by decide +kernel⟩
theorem hi_191 : Jvm.Cond.initialized "PlateroomprinterModel" ∈ lw_tbl := (List.mem_of_getElem? (i := 151) (by decide +kernel))
theorem hs_191 : Jvm.Cond.instanceMethod (⟨"PlateroomprinterModel", "run", "()I"⟩ : MethodName) ∈ lw_tbl := (List.mem_of_getElem? (i := 2038) (by decide +kernel))
theorem hy_192 : e_ml[192]? = some ((⟨"PlateroomprinterModel", "runAt", "(II)I"⟩ : MethodName), prog_14_method_78_code, 3, (some .int)) := by decide +kernel
theorem hp_192 : plainName "PlateroomprinterModel" = true := by decide +kernel
theorem hc_192 : Jvm.Cond.code (⟨"PlateroomprinterModel", "runAt", "(II)I"⟩ : MethodName) prog_14_method_78_code 3 (some .int) ∈ lw_tbl := (List.mem_of_getElem? (i := 3120) (by decide +kernel))
theorem hd_192 : "PlateroomprinterModel" ≠ "java/lang/invoke/MethodHandle" ∧ "PlateroomprinterModel" ≠ "java/lang/invoke/VarHandle" ∧ (parseMethodDescriptor "(II)I").map (fun d => d.parameters.length) = some 2 := ⟨by decide +kernel, by decide +kernel, by decide +kernel⟩
theorem hi_192 : Jvm.Cond.initialized "PlateroomprinterModel" ∈ lw_tbl := (List.mem_of_getElem? (i := 151) (by decide +kernel))
theorem hs_192 : Jvm.Cond.instanceMethod (⟨"PlateroomprinterModel", "runAt", "(II)I"⟩ : MethodName) ∈ lw_tbl := (List.mem_of_getElem? (i := 3118) (by decide +kernel))
theorem hy_193 : e_ml[193]? = some ((⟨"PlateroomprinterModel", "runs", "(I)I"⟩ : MethodName), prog_14_method_77_code, 2, (some .int)) := by decide +kernel
theorem hp_193 : plainName "PlateroomprinterModel" = true := by decide +kernel
theorem hc_193 : Jvm.Cond.code (⟨"PlateroomprinterModel", "runs", "(I)I"⟩ : MethodName) prog_14_method_77_code 2 (some .int) ∈ lw_tbl := (List.mem_of_getElem? (i := 3092) (by decide +kernel))
theorem hd_193 : "PlateroomprinterModel" ≠ "java/lang/invoke/MethodHandle" ∧ "PlateroomprinterModel" ≠ "java/lang/invoke/VarHandle" ∧ (parseMethodDescriptor "(I)I").map (fun d => d.parameters.length) = some 1 := ⟨by decide +kernel, by decide +kernel, by decide +kernel⟩
theorem hi_193 : Jvm.Cond.initialized "PlateroomprinterModel" ∈ lw_tbl := (List.mem_of_getElem? (i := 151) (by decide +kernel))
theorem hs_193 : Jvm.Cond.instanceMethod (⟨"PlateroomprinterModel", "runs", "(I)I"⟩ : MethodName) ∈ lw_tbl := (List.mem_of_getElem? (i := 3090) (by decide +kernel))
theorem hy_194 : e_ml[194]? = some ((⟨"PlateroomprinterModel", "runsOf", "(I)Ljava/util/ArrayList;"⟩ : MethodName), prog_14_method_76_code, 6, (some (.object "java/util/ArrayList"))) := by decide +kernel
theorem hp_194 : plainName "PlateroomprinterModel" = true := by decide +kernel
theorem hc_194 : Jvm.Cond.code (⟨"PlateroomprinterModel", "runsOf", "(I)Ljava/util/ArrayList;"⟩ : MethodName) prog_14_method_76_code 6 (some (.object "java/util/ArrayList")) ∈ lw_tbl := (List.mem_of_getElem? (i := 3096) (by decide +kernel))
theorem hd_194 : "PlateroomprinterModel" ≠ "java/lang/invoke/MethodHandle" ∧ "PlateroomprinterModel" ≠ "java/lang/invoke/VarHandle" ∧ (parseMethodDescriptor "(I)Ljava/util/ArrayList;").map (fun d => d.parameters.length) = some 1 := ⟨by decide +kernel, by decide +kernel, by decide +kernel⟩
theorem hi_194 : Jvm.Cond.initialized "PlateroomprinterModel" ∈ lw_tbl := (List.mem_of_getElem? (i := 151) (by decide +kernel))
theorem hs_194 : Jvm.Cond.instanceMethod (⟨"PlateroomprinterModel", "runsOf", "(I)Ljava/util/ArrayList;"⟩ : MethodName) ∈ lw_tbl := (List.mem_of_getElem? (i := 3095) (by decide +kernel))
theorem hy_195 : e_ml[195]? = some ((⟨"PlateroomprinterModel", "start", "(ZI)Z"⟩ : MethodName), prog_14_method_24_code, 3, (some .boolean)) := by decide +kernel
theorem hp_195 : plainName "PlateroomprinterModel" = true := by decide +kernel
theorem hc_195 : Jvm.Cond.code (⟨"PlateroomprinterModel", "start", "(ZI)Z"⟩ : MethodName) prog_14_method_24_code 3 (some .boolean) ∈ lw_tbl := (List.mem_of_getElem? (i := 1995) (by decide +kernel))
theorem hd_195 : "PlateroomprinterModel" ≠ "java/lang/invoke/MethodHandle" ∧ "PlateroomprinterModel" ≠ "java/lang/invoke/VarHandle" ∧ (parseMethodDescriptor "(ZI)Z").map (fun d => d.parameters.length) = some 2 := ⟨by decide +kernel, by decide +kernel, by decide +kernel⟩
theorem hi_195 : Jvm.Cond.initialized "PlateroomprinterModel" ∈ lw_tbl := (List.mem_of_getElem? (i := 151) (by decide +kernel))
theorem hs_195 : Jvm.Cond.instanceMethod (⟨"PlateroomprinterModel", "start", "(ZI)Z"⟩ : MethodName) ∈ lw_tbl := (List.mem_of_getElem? (i := 1994) (by decide +kernel))
theorem hy_196 : e_ml[196]? = some ((⟨"PlateroomprinterModel", "state", "(I)I"⟩ : MethodName), prog_14_method_45_code, 2, (some .int)) := by decide +kernel
theorem hp_196 : plainName "PlateroomprinterModel" = true := by decide +kernel
theorem hc_196 : Jvm.Cond.code (⟨"PlateroomprinterModel", "state", "(I)I"⟩ : MethodName) prog_14_method_45_code 2 (some .int) ∈ lw_tbl := (List.mem_of_getElem? (i := 2952) (by decide +kernel))
theorem hd_196 : "PlateroomprinterModel" ≠ "java/lang/invoke/MethodHandle" ∧ "PlateroomprinterModel" ≠ "java/lang/invoke/VarHandle" ∧ (parseMethodDescriptor "(I)I").map (fun d => d.parameters.length) = some 1 := ⟨by decide +kernel, by decide +kernel, by decide +kernel⟩
theorem hi_196 : Jvm.Cond.initialized "PlateroomprinterModel" ∈ lw_tbl := (List.mem_of_getElem? (i := 151) (by decide +kernel))
theorem hs_196 : Jvm.Cond.instanceMethod (⟨"PlateroomprinterModel", "state", "(I)I"⟩ : MethodName) ∈ lw_tbl := (List.mem_of_getElem? (i := 2950) (by decide +kernel))
theorem hy_197 : e_ml[197]? = some ((⟨"PlateroomprinterModel", "stateNow", "(I)I"⟩ : MethodName), prog_14_method_44_code, 3, (some .int)) := by decide +kernel
theorem hp_197 : plainName "PlateroomprinterModel" = true := by decide +kernel
theorem hc_197 : Jvm.Cond.code (⟨"PlateroomprinterModel", "stateNow", "(I)I"⟩ : MethodName) prog_14_method_44_code 3 (some .int) ∈ lw_tbl := (List.mem_of_getElem? (i := 2957) (by decide +kernel))
theorem hd_197 : "PlateroomprinterModel" ≠ "java/lang/invoke/MethodHandle" ∧ "PlateroomprinterModel" ≠ "java/lang/invoke/VarHandle" ∧ (parseMethodDescriptor "(I)I").map (fun d => d.parameters.length) = some 1 := ⟨by decide +kernel, by decide +kernel, by decide +kernel⟩
theorem hi_197 : Jvm.Cond.initialized "PlateroomprinterModel" ∈ lw_tbl := (List.mem_of_getElem? (i := 151) (by decide +kernel))
theorem hs_197 : Jvm.Cond.instanceMethod (⟨"PlateroomprinterModel", "stateNow", "(I)I"⟩ : MethodName) ∈ lw_tbl := (List.mem_of_getElem? (i := 2956) (by decide +kernel))
theorem hy_198 : e_ml[198]? = some ((⟨"PlateroomprinterModel", "three", "(IIIIII)I"⟩ : MethodName), prog_14_method_27_code, 8, (some .int)) := by decide +kernel
theorem hp_198 : plainName "PlateroomprinterModel" = true := by decide +kernel
theorem hc_198 : Jvm.Cond.code (⟨"PlateroomprinterModel", "three", "(IIIIII)I"⟩ : MethodName) prog_14_method_27_code 8 (some .int) ∈ lw_tbl := (List.mem_of_getElem? (i := 2008) (by decide +kernel))
theorem hd_198 : "PlateroomprinterModel" ≠ "java/lang/invoke/MethodHandle" ∧ "PlateroomprinterModel" ≠ "java/lang/invoke/VarHandle" ∧ (parseMethodDescriptor "(IIIIII)I").map (fun d => d.parameters.length) = some 6 := ⟨by decide +kernel, by decide +kernel, by decide +kernel⟩
theorem hi_198 : Jvm.Cond.initialized "PlateroomprinterModel" ∈ lw_tbl := (List.mem_of_getElem? (i := 151) (by decide +kernel))
theorem hs_198 : Jvm.Cond.instanceMethod (⟨"PlateroomprinterModel", "three", "(IIIIII)I"⟩ : MethodName) ∈ lw_tbl := (List.mem_of_getElem? (i := 2006) (by decide +kernel))
theorem hy_199 : e_ml[199]? = some ((⟨"PlateroomprinterModel", "thrown", "()I"⟩ : MethodName), prog_14_method_22_code, 1, (some .int)) := by decide +kernel
theorem hp_199 : plainName "PlateroomprinterModel" = true := by decide +kernel
theorem hc_199 : Jvm.Cond.code (⟨"PlateroomprinterModel", "thrown", "()I"⟩ : MethodName) prog_14_method_22_code 1 (some .int) ∈ lw_tbl := (List.mem_of_getElem? (i := 1977) (by decide +kernel))
theorem hd_199 : "PlateroomprinterModel" ≠ "java/lang/invoke/MethodHandle" ∧ "PlateroomprinterModel" ≠ "java/lang/invoke/VarHandle" ∧ (parseMethodDescriptor "()I").map (fun d => d.parameters.length) = some 0 := ⟨by decide +kernel, by decide +kernel, by decide +kernel⟩
theorem hi_199 : Jvm.Cond.initialized "PlateroomprinterModel" ∈ lw_tbl := (List.mem_of_getElem? (i := 151) (by decide +kernel))
theorem hs_199 : Jvm.Cond.instanceMethod (⟨"PlateroomprinterModel", "thrown", "()I"⟩ : MethodName) ∈ lw_tbl := (List.mem_of_getElem? (i := 1975) (by decide +kernel))
theorem hy_200 : e_ml[200]? = some ((⟨"PlateroomprinterModel", "token", "(II)I"⟩ : MethodName), prog_14_method_26_code, 3, (some .int)) := by decide +kernel
theorem hp_200 : plainName "PlateroomprinterModel" = true := by decide +kernel
theorem hc_200 : Jvm.Cond.code (⟨"PlateroomprinterModel", "token", "(II)I"⟩ : MethodName) prog_14_method_26_code 3 (some .int) ∈ lw_tbl := (List.mem_of_getElem? (i := 1981) (by decide +kernel))
theorem hd_200 : "PlateroomprinterModel" ≠ "java/lang/invoke/MethodHandle" ∧ "PlateroomprinterModel" ≠ "java/lang/invoke/VarHandle" ∧ (parseMethodDescriptor "(II)I").map (fun d => d.parameters.length) = some 2 := ⟨by decide +kernel, by decide +kernel, by decide +kernel⟩
theorem hi_200 : Jvm.Cond.initialized "PlateroomprinterModel" ∈ lw_tbl := (List.mem_of_getElem? (i := 151) (by decide +kernel))
theorem hs_200 : Jvm.Cond.instanceMethod (⟨"PlateroomprinterModel", "token", "(II)I"⟩ : MethodName) ∈ lw_tbl := (List.mem_of_getElem? (i := 1979) (by decide +kernel))
theorem hy_201 : e_ml[201]? = some ((⟨"PlateroomprinterModel", "tokenAt", "(II)I"⟩ : MethodName), prog_14_method_35_code, 3, (some .int)) := by decide +kernel
theorem hp_201 : plainName "PlateroomprinterModel" = true := by decide +kernel
theorem hc_201 : Jvm.Cond.code (⟨"PlateroomprinterModel", "tokenAt", "(II)I"⟩ : MethodName) prog_14_method_35_code 3 (some .int) ∈ lw_tbl := (List.mem_of_getElem? (i := 2910) (by decide +kernel))
theorem hd_201 : "PlateroomprinterModel" ≠ "java/lang/invoke/MethodHandle" ∧ "PlateroomprinterModel" ≠ "java/lang/invoke/VarHandle" ∧ (parseMethodDescriptor "(II)I").map (fun d => d.parameters.length) = some 2 := ⟨by decide +kernel, by decide +kernel, by decide +kernel⟩
theorem hi_201 : Jvm.Cond.initialized "PlateroomprinterModel" ∈ lw_tbl := (List.mem_of_getElem? (i := 151) (by decide +kernel))
theorem hs_201 : Jvm.Cond.instanceMethod (⟨"PlateroomprinterModel", "tokenAt", "(II)I"⟩ : MethodName) ∈ lw_tbl := (List.mem_of_getElem? (i := 2908) (by decide +kernel))
theorem hy_202 : e_ml[202]? = some ((⟨"PlateroomprinterModel", "tokens", "()I"⟩ : MethodName), prog_14_method_34_code, 1, (some .int)) := by decide +kernel
theorem hp_202 : plainName "PlateroomprinterModel" = true := by decide +kernel
theorem hc_202 : Jvm.Cond.code (⟨"PlateroomprinterModel", "tokens", "()I"⟩ : MethodName) prog_14_method_34_code 1 (some .int) ∈ lw_tbl := (List.mem_of_getElem? (i := 2906) (by decide +kernel))
theorem hd_202 : "PlateroomprinterModel" ≠ "java/lang/invoke/MethodHandle" ∧ "PlateroomprinterModel" ≠ "java/lang/invoke/VarHandle" ∧ (parseMethodDescriptor "()I").map (fun d => d.parameters.length) = some 0 := ⟨by decide +kernel, by decide +kernel, by decide +kernel⟩
theorem hi_202 : Jvm.Cond.initialized "PlateroomprinterModel" ∈ lw_tbl := (List.mem_of_getElem? (i := 151) (by decide +kernel))
theorem hs_202 : Jvm.Cond.instanceMethod (⟨"PlateroomprinterModel", "tokens", "()I"⟩ : MethodName) ∈ lw_tbl := (List.mem_of_getElem? (i := 2904) (by decide +kernel))
theorem hy_203 : e_ml[203]? = some ((⟨"PlateroomprinterModel", "wipe", "()I"⟩ : MethodName), prog_14_method_29_code, 2, (some .int)) := by decide +kernel
theorem hp_203 : plainName "PlateroomprinterModel" = true := by decide +kernel
theorem hc_203 : Jvm.Cond.code (⟨"PlateroomprinterModel", "wipe", "()I"⟩ : MethodName) prog_14_method_29_code 2 (some .int) ∈ lw_tbl := (List.mem_of_getElem? (i := 2036) (by decide +kernel))
theorem hd_203 : "PlateroomprinterModel" ≠ "java/lang/invoke/MethodHandle" ∧ "PlateroomprinterModel" ≠ "java/lang/invoke/VarHandle" ∧ (parseMethodDescriptor "()I").map (fun d => d.parameters.length) = some 0 := ⟨by decide +kernel, by decide +kernel, by decide +kernel⟩
theorem hi_203 : Jvm.Cond.initialized "PlateroomprinterModel" ∈ lw_tbl := (List.mem_of_getElem? (i := 151) (by decide +kernel))
theorem hs_203 : Jvm.Cond.instanceMethod (⟨"PlateroomprinterModel", "wipe", "()I"⟩ : MethodName) ∈ lw_tbl := (List.mem_of_getElem? (i := 2034) (by decide +kernel))
theorem hy_204 : e_ml[204]? = some ((⟨"PlateroomprinterModel$Machine", "<init>", "()V"⟩ : MethodName), prog_17_method_1_code, 2, none) := by decide +kernel
theorem hp_204 : plainName "PlateroomprinterModel$Machine" = true := by decide +kernel
theorem hc_204 : Jvm.Cond.code (⟨"PlateroomprinterModel$Machine", "<init>", "()V"⟩ : MethodName) prog_17_method_1_code 2 none ∈ lw_tbl := (List.mem_of_getElem? (i := 1748) (by decide +kernel))
theorem hd_204 : "PlateroomprinterModel$Machine" ≠ "java/lang/invoke/MethodHandle" ∧ "PlateroomprinterModel$Machine" ≠ "java/lang/invoke/VarHandle" ∧ (parseMethodDescriptor "()V").map (fun d => d.parameters.length) = some 0 := ⟨by decide +kernel, by decide +kernel, by decide +kernel⟩
theorem hi_204 : Jvm.Cond.initialized "PlateroomprinterModel$Machine" ∈ lw_tbl := (List.mem_of_getElem? (i := 152) (by decide +kernel))
theorem hs_204 : Jvm.Cond.instanceMethod (⟨"PlateroomprinterModel$Machine", "<init>", "()V"⟩ : MethodName) ∈ lw_tbl := (List.mem_of_getElem? (i := 1747) (by decide +kernel))
theorem hy_205 : e_ml[205]? = some ((⟨"PlateroomprinterModel$Machine", "copy", "()LPlateroomprinterModel$Machine;"⟩ : MethodName), prog_17_method_2_code, 3, (some (.object "PlateroomprinterModel$Machine"))) := by decide +kernel
theorem hp_205 : plainName "PlateroomprinterModel$Machine" = true := by decide +kernel
theorem hc_205 : Jvm.Cond.code (⟨"PlateroomprinterModel$Machine", "copy", "()LPlateroomprinterModel$Machine;"⟩ : MethodName) prog_17_method_2_code 3 (some (.object "PlateroomprinterModel$Machine")) ∈ lw_tbl := (List.mem_of_getElem? (i := 2045) (by decide +kernel))
theorem hd_205 : "PlateroomprinterModel$Machine" ≠ "java/lang/invoke/MethodHandle" ∧ "PlateroomprinterModel$Machine" ≠ "java/lang/invoke/VarHandle" ∧ (parseMethodDescriptor "()LPlateroomprinterModel$Machine;").map (fun d => d.parameters.length) = some 0 := ⟨by decide +kernel, by decide +kernel, by decide +kernel⟩
theorem hi_205 : Jvm.Cond.initialized "PlateroomprinterModel$Machine" ∈ lw_tbl := (List.mem_of_getElem? (i := 152) (by decide +kernel))
theorem hs_205 : Jvm.Cond.instanceMethod (⟨"PlateroomprinterModel$Machine", "copy", "()LPlateroomprinterModel$Machine;"⟩ : MethodName) ∈ lw_tbl := (List.mem_of_getElem? (i := 2043) (by decide +kernel))
theorem hy_206 : e_ml[206]? = some ((⟨"PlateroomprinterModel$Ring", "<init>", "()V"⟩ : MethodName), prog_18_method_1_code, 1, none) := by decide +kernel
theorem hp_206 : plainName "PlateroomprinterModel$Ring" = true := by decide +kernel
theorem hc_206 : Jvm.Cond.code (⟨"PlateroomprinterModel$Ring", "<init>", "()V"⟩ : MethodName) prog_18_method_1_code 1 none ∈ lw_tbl := (List.mem_of_getElem? (i := 2076) (by decide +kernel))
theorem hd_206 : "PlateroomprinterModel$Ring" ≠ "java/lang/invoke/MethodHandle" ∧ "PlateroomprinterModel$Ring" ≠ "java/lang/invoke/VarHandle" ∧ (parseMethodDescriptor "()V").map (fun d => d.parameters.length) = some 0 := ⟨by decide +kernel, by decide +kernel, by decide +kernel⟩
theorem hi_206 : Jvm.Cond.initialized "PlateroomprinterModel$Ring" ∈ lw_tbl := (List.mem_of_getElem? (i := 169) (by decide +kernel))
theorem hs_206 : Jvm.Cond.instanceMethod (⟨"PlateroomprinterModel$Ring", "<init>", "()V"⟩ : MethodName) ∈ lw_tbl := (List.mem_of_getElem? (i := 2075) (by decide +kernel))
theorem hy_207 : e_ml[207]? = some ((⟨"PlateroomprinterModel$Row", "<init>", "(Ljava/util/ArrayList;)V"⟩ : MethodName), prog_19_method_1_code, 2, none) := by decide +kernel
theorem hp_207 : plainName "PlateroomprinterModel$Row" = true := by decide +kernel
theorem hc_207 : Jvm.Cond.code (⟨"PlateroomprinterModel$Row", "<init>", "(Ljava/util/ArrayList;)V"⟩ : MethodName) prog_19_method_1_code 2 none ∈ lw_tbl := (List.mem_of_getElem? (i := 2120) (by decide +kernel))
theorem hd_207 : "PlateroomprinterModel$Row" ≠ "java/lang/invoke/MethodHandle" ∧ "PlateroomprinterModel$Row" ≠ "java/lang/invoke/VarHandle" ∧ (parseMethodDescriptor "(Ljava/util/ArrayList;)V").map (fun d => d.parameters.length) = some 1 := ⟨by decide +kernel, by decide +kernel, by decide +kernel⟩
theorem hi_207 : Jvm.Cond.initialized "PlateroomprinterModel$Row" ∈ lw_tbl := (List.mem_of_getElem? (i := 171) (by decide +kernel))
theorem hs_207 : Jvm.Cond.instanceMethod (⟨"PlateroomprinterModel$Row", "<init>", "(Ljava/util/ArrayList;)V"⟩ : MethodName) ∈ lw_tbl := (List.mem_of_getElem? (i := 2119) (by decide +kernel))
theorem hy_208 : e_ml[208]? = some ((⟨"PlateroomprinterModel$Row", "isAtEnd", "()Z"⟩ : MethodName), prog_19_method_2_code, 1, (some .boolean)) := by decide +kernel
theorem hp_208 : plainName "PlateroomprinterModel$Row" = true := by decide +kernel
theorem hc_208 : Jvm.Cond.code (⟨"PlateroomprinterModel$Row", "isAtEnd", "()Z"⟩ : MethodName) prog_19_method_2_code 1 (some .boolean) ∈ lw_tbl := (List.mem_of_getElem? (i := 2186) (by decide +kernel))
theorem hd_208 : "PlateroomprinterModel$Row" ≠ "java/lang/invoke/MethodHandle" ∧ "PlateroomprinterModel$Row" ≠ "java/lang/invoke/VarHandle" ∧ (parseMethodDescriptor "()Z").map (fun d => d.parameters.length) = some 0 := ⟨by decide +kernel, by decide +kernel, by decide +kernel⟩
theorem hi_208 : Jvm.Cond.initialized "PlateroomprinterModel$Row" ∈ lw_tbl := (List.mem_of_getElem? (i := 171) (by decide +kernel))
theorem hs_208 : Jvm.Cond.instanceMethod (⟨"PlateroomprinterModel$Row", "isAtEnd", "()Z"⟩ : MethodName) ∈ lw_tbl := (List.mem_of_getElem? (i := 2184) (by decide +kernel))
theorem hy_209 : e_ml[209]? = some ((⟨"PlateroomprinterModel$Run", "<init>", "(LPlateroomprinterModel$Machine;Ljava/util/ArrayList;)V"⟩ : MethodName), prog_20_method_1_code, 3, none) := by decide +kernel
theorem hp_209 : plainName "PlateroomprinterModel$Run" = true := by decide +kernel
theorem hc_209 : Jvm.Cond.code (⟨"PlateroomprinterModel$Run", "<init>", "(LPlateroomprinterModel$Machine;Ljava/util/ArrayList;)V"⟩ : MethodName) prog_20_method_1_code 3 none ∈ lw_tbl := (List.mem_of_getElem? (i := 2112) (by decide +kernel))
theorem hd_209 : "PlateroomprinterModel$Run" ≠ "java/lang/invoke/MethodHandle" ∧ "PlateroomprinterModel$Run" ≠ "java/lang/invoke/VarHandle" ∧ (parseMethodDescriptor "(LPlateroomprinterModel$Machine;Ljava/util/ArrayList;)V").map (fun d => d.parameters.length) = some 2 := ⟨by decide +kernel, by decide +kernel, by decide +kernel⟩
theorem hi_209 : Jvm.Cond.initialized "PlateroomprinterModel$Run" ∈ lw_tbl := (List.mem_of_getElem? (i := 170) (by decide +kernel))
theorem hs_209 : Jvm.Cond.instanceMethod (⟨"PlateroomprinterModel$Run", "<init>", "(LPlateroomprinterModel$Machine;Ljava/util/ArrayList;)V"⟩ : MethodName) ∈ lw_tbl := (List.mem_of_getElem? (i := 2111) (by decide +kernel))
theorem hy_210 : e_ml[210]? = some ((⟨"PlateroomprinterModel$Run", "all", "()V"⟩ : MethodName), prog_20_method_3_code, 2, none) := by decide +kernel
theorem hp_210 : plainName "PlateroomprinterModel$Run" = true := by decide +kernel
theorem hc_210 : Jvm.Cond.code (⟨"PlateroomprinterModel$Run", "all", "()V"⟩ : MethodName) prog_20_method_3_code 2 none ∈ lw_tbl := (List.mem_of_getElem? (i := 2171) (by decide +kernel))
theorem hd_210 : "PlateroomprinterModel$Run" ≠ "java/lang/invoke/MethodHandle" ∧ "PlateroomprinterModel$Run" ≠ "java/lang/invoke/VarHandle" ∧ (parseMethodDescriptor "()V").map (fun d => d.parameters.length) = some 0 := ⟨by decide +kernel, by decide +kernel, by decide +kernel⟩
theorem hi_210 : Jvm.Cond.initialized "PlateroomprinterModel$Run" ∈ lw_tbl := (List.mem_of_getElem? (i := 170) (by decide +kernel))
theorem hs_210 : Jvm.Cond.instanceMethod (⟨"PlateroomprinterModel$Run", "all", "()V"⟩ : MethodName) ∈ lw_tbl := (List.mem_of_getElem? (i := 2169) (by decide +kernel))
theorem hy_211 : e_ml[211]? = some ((⟨"PlateroomprinterModel$Run", "isOn", "()Z"⟩ : MethodName), prog_20_method_4_code, 2, (some .boolean)) := by decide +kernel
theorem hp_211 : plainName "PlateroomprinterModel$Run" = true := by decide +kernel
theorem hc_211 : Jvm.Cond.code (⟨"PlateroomprinterModel$Run", "isOn", "()Z"⟩ : MethodName) prog_20_method_4_code 2 (some .boolean) ∈ lw_tbl := (List.mem_of_getElem? (i := 2175) (by decide +kernel))
theorem hd_211 : "PlateroomprinterModel$Run" ≠ "java/lang/invoke/MethodHandle" ∧ "PlateroomprinterModel$Run" ≠ "java/lang/invoke/VarHandle" ∧ (parseMethodDescriptor "()Z").map (fun d => d.parameters.length) = some 0 := ⟨by decide +kernel, by decide +kernel, by decide +kernel⟩
theorem hi_211 : Jvm.Cond.initialized "PlateroomprinterModel$Run" ∈ lw_tbl := (List.mem_of_getElem? (i := 170) (by decide +kernel))
theorem hs_211 : Jvm.Cond.instanceMethod (⟨"PlateroomprinterModel$Run", "isOn", "()Z"⟩ : MethodName) ∈ lw_tbl := (List.mem_of_getElem? (i := 2174) (by decide +kernel))
theorem hy_212 : e_ml[212]? = some ((⟨"PlateroomprinterModel$Run", "top", "()LPlateroomprinterModel$Row;"⟩ : MethodName), prog_20_method_2_code, 1, (some (.object "PlateroomprinterModel$Row"))) := by decide +kernel
theorem hp_212 : plainName "PlateroomprinterModel$Run" = true := by decide +kernel
theorem hc_212 : Jvm.Cond.code (⟨"PlateroomprinterModel$Run", "top", "()LPlateroomprinterModel$Row;"⟩ : MethodName) prog_20_method_2_code 1 (some (.object "PlateroomprinterModel$Row")) ∈ lw_tbl := (List.mem_of_getElem? (i := 2180) (by decide +kernel))
theorem hd_212 : "PlateroomprinterModel$Run" ≠ "java/lang/invoke/MethodHandle" ∧ "PlateroomprinterModel$Run" ≠ "java/lang/invoke/VarHandle" ∧ (parseMethodDescriptor "()LPlateroomprinterModel$Row;").map (fun d => d.parameters.length) = some 0 := ⟨by decide +kernel, by decide +kernel, by decide +kernel⟩
theorem hi_212 : Jvm.Cond.initialized "PlateroomprinterModel$Run" ∈ lw_tbl := (List.mem_of_getElem? (i := 170) (by decide +kernel))
theorem hs_212 : Jvm.Cond.instanceMethod (⟨"PlateroomprinterModel$Run", "top", "()LPlateroomprinterModel$Row;"⟩ : MethodName) ∈ lw_tbl := (List.mem_of_getElem? (i := 2179) (by decide +kernel))
theorem hy_213 : e_ml[213]? = some ((⟨"PlateroomprinterModel$State", "<init>", "()V"⟩ : MethodName), prog_21_method_1_code, 2, none) := by decide +kernel
theorem hp_213 : plainName "PlateroomprinterModel$State" = true := by decide +kernel
theorem hc_213 : Jvm.Cond.code (⟨"PlateroomprinterModel$State", "<init>", "()V"⟩ : MethodName) prog_21_method_1_code 2 none ∈ lw_tbl := (List.mem_of_getElem? (i := 1785) (by decide +kernel))
theorem hd_213 : "PlateroomprinterModel$State" ≠ "java/lang/invoke/MethodHandle" ∧ "PlateroomprinterModel$State" ≠ "java/lang/invoke/VarHandle" ∧ (parseMethodDescriptor "()V").map (fun d => d.parameters.length) = some 0 := ⟨by decide +kernel, by decide +kernel, by decide +kernel⟩
theorem hi_213 : Jvm.Cond.initialized "PlateroomprinterModel$State" ∈ lw_tbl := (List.mem_of_getElem? (i := 156) (by decide +kernel))
theorem hs_213 : Jvm.Cond.instanceMethod (⟨"PlateroomprinterModel$State", "<init>", "()V"⟩ : MethodName) ∈ lw_tbl := (List.mem_of_getElem? (i := 1784) (by decide +kernel))
theorem hy_214 : e_ml[214]? = some ((⟨"PlateroomprinterModel$State", "copy", "()LPlateroomprinterModel$State;"⟩ : MethodName), prog_21_method_2_code, 3, (some (.object "PlateroomprinterModel$State"))) := by decide +kernel
theorem hp_214 : plainName "PlateroomprinterModel$State" = true := by decide +kernel
theorem hc_214 : Jvm.Cond.code (⟨"PlateroomprinterModel$State", "copy", "()LPlateroomprinterModel$State;"⟩ : MethodName) prog_21_method_2_code 3 (some (.object "PlateroomprinterModel$State")) ∈ lw_tbl := (List.mem_of_getElem? (i := 2060) (by decide +kernel))
theorem hd_214 : "PlateroomprinterModel$State" ≠ "java/lang/invoke/MethodHandle" ∧ "PlateroomprinterModel$State" ≠ "java/lang/invoke/VarHandle" ∧ (parseMethodDescriptor "()LPlateroomprinterModel$State;").map (fun d => d.parameters.length) = some 0 := ⟨by decide +kernel, by decide +kernel, by decide +kernel⟩
theorem hi_214 : Jvm.Cond.initialized "PlateroomprinterModel$State" ∈ lw_tbl := (List.mem_of_getElem? (i := 156) (by decide +kernel))
theorem hs_214 : Jvm.Cond.instanceMethod (⟨"PlateroomprinterModel$State", "copy", "()LPlateroomprinterModel$State;"⟩ : MethodName) ∈ lw_tbl := (List.mem_of_getElem? (i := 2058) (by decide +kernel))
theorem hy_215 : e_ml[215]? = some ((⟨"java/lang/Integer", "bitCount", "(I)I"⟩ : MethodName), prog_33_method_49_code, 1, (some .int)) := by decide +kernel
theorem hp_215 : plainName "java/lang/Integer" = true := by decide +kernel
theorem hc_215 : Jvm.Cond.code (⟨"java/lang/Integer", "bitCount", "(I)I"⟩ : MethodName) prog_33_method_49_code 1 (some .int) ∈ lw_tbl := (List.mem_of_getElem? (i := 1087) (by decide +kernel))
theorem hd_215 : "java/lang/Integer" ≠ "java/lang/invoke/MethodHandle" ∧ "java/lang/Integer" ≠ "java/lang/invoke/VarHandle" ∧ (parseMethodDescriptor "(I)I").map (fun d => d.parameters.length) = some 1 := ⟨by decide +kernel, by decide +kernel, by decide +kernel⟩
theorem hi_215 : Jvm.Cond.initialized "java/lang/Integer" ∈ lw_tbl := (List.mem_of_getElem? (i := 168) (by decide +kernel))
theorem hs_215 : Jvm.Cond.static (⟨"java/lang/Integer", "bitCount", "(I)I"⟩ : MethodName) ∈ lw_tbl := (List.mem_of_getElem? (i := 1086) (by decide +kernel))
theorem hy_216 : e_ml[216]? = some ((⟨"java/lang/Integer", "intValue", "()I"⟩ : MethodName), prog_33_method_27_code, 1, (some .int)) := by decide +kernel
theorem hp_216 : plainName "java/lang/Integer" = true := by decide +kernel
theorem hc_216 : Jvm.Cond.code (⟨"java/lang/Integer", "intValue", "()I"⟩ : MethodName) prog_33_method_27_code 1 (some .int) ∈ lw_tbl := (List.mem_of_getElem? (i := 3125) (by decide +kernel))
theorem hd_216 : "java/lang/Integer" ≠ "java/lang/invoke/MethodHandle" ∧ "java/lang/Integer" ≠ "java/lang/invoke/VarHandle" ∧ (parseMethodDescriptor "()I").map (fun d => d.parameters.length) = some 0 := ⟨by decide +kernel, by decide +kernel, by decide +kernel⟩
theorem hi_216 : Jvm.Cond.initialized "java/lang/Integer" ∈ lw_tbl := (List.mem_of_getElem? (i := 168) (by decide +kernel))
theorem hs_216 : Jvm.Cond.instanceMethod (⟨"java/lang/Integer", "intValue", "()I"⟩ : MethodName) ∈ lw_tbl := (List.mem_of_getElem? (i := 3123) (by decide +kernel))
theorem hy_217 : e_ml[217]? = some ((⟨"java/lang/Integer", "valueOf", "(I)Ljava/lang/Integer;"⟩ : MethodName), prog_33_method_22_code, 1, (some (.object "java/lang/Integer"))) := by decide +kernel
theorem hp_217 : plainName "java/lang/Integer" = true := by decide +kernel
theorem hc_217 : Jvm.Cond.code (⟨"java/lang/Integer", "valueOf", "(I)Ljava/lang/Integer;"⟩ : MethodName) prog_33_method_22_code 1 (some (.object "java/lang/Integer")) ∈ lw_tbl := (List.mem_of_getElem? (i := 3099) (by decide +kernel))
theorem hd_217 : "java/lang/Integer" ≠ "java/lang/invoke/MethodHandle" ∧ "java/lang/Integer" ≠ "java/lang/invoke/VarHandle" ∧ (parseMethodDescriptor "(I)Ljava/lang/Integer;").map (fun d => d.parameters.length) = some 1 := ⟨by decide +kernel, by decide +kernel, by decide +kernel⟩
theorem hi_217 : Jvm.Cond.initialized "java/lang/Integer" ∈ lw_tbl := (List.mem_of_getElem? (i := 168) (by decide +kernel))
theorem hs_217 : Jvm.Cond.static (⟨"java/lang/Integer", "valueOf", "(I)Ljava/lang/Integer;"⟩ : MethodName) ∈ lw_tbl := (List.mem_of_getElem? (i := 3098) (by decide +kernel))
theorem hy_218 : e_ml[218]? = some ((⟨"java/lang/Math", "abs", "(I)I"⟩ : MethodName), prog_37_method_59_code, 1, (some .int)) := by decide +kernel
theorem hp_218 : plainFor (⟨"java/lang/Math", "abs", "(I)I"⟩ : MethodName) = true := by decide +kernel
theorem hc_218 : Jvm.Cond.code (⟨"java/lang/Math", "abs", "(I)I"⟩ : MethodName) prog_37_method_59_code 1 (some .int) ∈ lw_tbl := (List.mem_of_getElem? (i := 1032) (by decide +kernel))
theorem hd_218 : "java/lang/Math" ≠ "java/lang/invoke/MethodHandle" ∧ "java/lang/Math" ≠ "java/lang/invoke/VarHandle" ∧ (parseMethodDescriptor "(I)I").map (fun d => d.parameters.length) = some 1 := ⟨by decide +kernel, by decide +kernel, by decide +kernel⟩
theorem hi_218 : Jvm.Cond.initialized "java/lang/Math" ∈ lw_tbl := (List.mem_of_getElem? (i := 142) (by decide +kernel))
theorem hs_218 : Jvm.Cond.static (⟨"java/lang/Math", "abs", "(I)I"⟩ : MethodName) ∈ lw_tbl := (List.mem_of_getElem? (i := 1031) (by decide +kernel))
theorem hy_219 : e_ml[219]? = some ((⟨"java/lang/Math", "floorMod", "(II)I"⟩ : MethodName), prog_37_method_50_code, 3, (some .int)) := by decide +kernel
theorem hp_219 : plainFor (⟨"java/lang/Math", "floorMod", "(II)I"⟩ : MethodName) = true := by decide +kernel
theorem hc_219 : Jvm.Cond.code (⟨"java/lang/Math", "floorMod", "(II)I"⟩ : MethodName) prog_37_method_50_code 3 (some .int) ∈ lw_tbl := (List.mem_of_getElem? (i := 867) (by decide +kernel))
theorem hd_219 : "java/lang/Math" ≠ "java/lang/invoke/MethodHandle" ∧ "java/lang/Math" ≠ "java/lang/invoke/VarHandle" ∧ (parseMethodDescriptor "(II)I").map (fun d => d.parameters.length) = some 2 := ⟨by decide +kernel, by decide +kernel, by decide +kernel⟩
theorem hi_219 : Jvm.Cond.initialized "java/lang/Math" ∈ lw_tbl := (List.mem_of_getElem? (i := 142) (by decide +kernel))
theorem hs_219 : Jvm.Cond.static (⟨"java/lang/Math", "floorMod", "(II)I"⟩ : MethodName) ∈ lw_tbl := (List.mem_of_getElem? (i := 866) (by decide +kernel))
theorem hy_220 : e_ml[220]? = some ((⟨"java/lang/Math", "max", "(II)I"⟩ : MethodName), prog_37_method_65_code, 2, (some .int)) := by decide +kernel
theorem hp_220 : plainFor (⟨"java/lang/Math", "max", "(II)I"⟩ : MethodName) = true := by decide +kernel
theorem hc_220 : Jvm.Cond.code (⟨"java/lang/Math", "max", "(II)I"⟩ : MethodName) prog_37_method_65_code 2 (some .int) ∈ lw_tbl := (List.mem_of_getElem? (i := 230) (by decide +kernel))
theorem hd_220 : "java/lang/Math" ≠ "java/lang/invoke/MethodHandle" ∧ "java/lang/Math" ≠ "java/lang/invoke/VarHandle" ∧ (parseMethodDescriptor "(II)I").map (fun d => d.parameters.length) = some 2 := ⟨by decide +kernel, by decide +kernel, by decide +kernel⟩
theorem hi_220 : Jvm.Cond.initialized "java/lang/Math" ∈ lw_tbl := (List.mem_of_getElem? (i := 142) (by decide +kernel))
theorem hs_220 : Jvm.Cond.static (⟨"java/lang/Math", "max", "(II)I"⟩ : MethodName) ∈ lw_tbl := (List.mem_of_getElem? (i := 229) (by decide +kernel))
theorem hy_221 : e_ml[221]? = some ((⟨"java/lang/Math", "min", "(II)I"⟩ : MethodName), prog_37_method_69_code, 2, (some .int)) := by decide +kernel
theorem hp_221 : plainFor (⟨"java/lang/Math", "min", "(II)I"⟩ : MethodName) = true := by decide +kernel
theorem hc_221 : Jvm.Cond.code (⟨"java/lang/Math", "min", "(II)I"⟩ : MethodName) prog_37_method_69_code 2 (some .int) ∈ lw_tbl := (List.mem_of_getElem? (i := 426) (by decide +kernel))
theorem hd_221 : "java/lang/Math" ≠ "java/lang/invoke/MethodHandle" ∧ "java/lang/Math" ≠ "java/lang/invoke/VarHandle" ∧ (parseMethodDescriptor "(II)I").map (fun d => d.parameters.length) = some 2 := ⟨by decide +kernel, by decide +kernel, by decide +kernel⟩
theorem hi_221 : Jvm.Cond.initialized "java/lang/Math" ∈ lw_tbl := (List.mem_of_getElem? (i := 142) (by decide +kernel))
theorem hs_221 : Jvm.Cond.static (⟨"java/lang/Math", "min", "(II)I"⟩ : MethodName) ∈ lw_tbl := (List.mem_of_getElem? (i := 425) (by decide +kernel))
theorem hy_222 : e_ml[222]? = some ((⟨"java/util/AbstractCollection", "<init>", "()V"⟩ : MethodName), prog_48_method_1_code, 1, none) := by decide +kernel
theorem hp_222 : plainName "java/util/AbstractCollection" = true := by decide +kernel
theorem hc_222 : Jvm.Cond.code (⟨"java/util/AbstractCollection", "<init>", "()V"⟩ : MethodName) prog_48_method_1_code 1 none ∈ lw_tbl := (List.mem_of_getElem? (i := 1760) (by decide +kernel))
theorem hd_222 : "java/util/AbstractCollection" ≠ "java/lang/invoke/MethodHandle" ∧ "java/util/AbstractCollection" ≠ "java/lang/invoke/VarHandle" ∧ (parseMethodDescriptor "()V").map (fun d => d.parameters.length) = some 0 := ⟨by decide +kernel, by decide +kernel, by decide +kernel⟩
theorem hi_222 : Jvm.Cond.initialized "java/util/AbstractCollection" ∈ lw_tbl := (List.mem_of_getElem? (i := 153) (by decide +kernel))
theorem hs_222 : Jvm.Cond.instanceMethod (⟨"java/util/AbstractCollection", "<init>", "()V"⟩ : MethodName) ∈ lw_tbl := (List.mem_of_getElem? (i := 1759) (by decide +kernel))
theorem hy_223 : e_ml[223]? = some ((⟨"java/util/AbstractList", "<init>", "()V"⟩ : MethodName), prog_49_method_1_code, 1, none) := by decide +kernel
theorem hp_223 : plainName "java/util/AbstractList" = true := by decide +kernel
theorem hc_223 : Jvm.Cond.code (⟨"java/util/AbstractList", "<init>", "()V"⟩ : MethodName) prog_49_method_1_code 1 none ∈ lw_tbl := (List.mem_of_getElem? (i := 1757) (by decide +kernel))
theorem hd_223 : "java/util/AbstractList" ≠ "java/lang/invoke/MethodHandle" ∧ "java/util/AbstractList" ≠ "java/lang/invoke/VarHandle" ∧ (parseMethodDescriptor "()V").map (fun d => d.parameters.length) = some 0 := ⟨by decide +kernel, by decide +kernel, by decide +kernel⟩
theorem hi_223 : Jvm.Cond.initialized "java/util/AbstractList" ∈ lw_tbl := (List.mem_of_getElem? (i := 154) (by decide +kernel))
theorem hs_223 : Jvm.Cond.instanceMethod (⟨"java/util/AbstractList", "<init>", "()V"⟩ : MethodName) ∈ lw_tbl := (List.mem_of_getElem? (i := 1756) (by decide +kernel))
theorem hy_224 : e_ml[224]? = some ((⟨"java/util/ArrayList", "<init>", "()V"⟩ : MethodName), prog_50_method_2_code, 1, none) := by decide +kernel
theorem hp_224 : plainName "java/util/ArrayList" = true := by decide +kernel
theorem hc_224 : Jvm.Cond.code (⟨"java/util/ArrayList", "<init>", "()V"⟩ : MethodName) prog_50_method_2_code 1 none ∈ lw_tbl := (List.mem_of_getElem? (i := 1754) (by decide +kernel))
theorem hd_224 : "java/util/ArrayList" ≠ "java/lang/invoke/MethodHandle" ∧ "java/util/ArrayList" ≠ "java/lang/invoke/VarHandle" ∧ (parseMethodDescriptor "()V").map (fun d => d.parameters.length) = some 0 := ⟨by decide +kernel, by decide +kernel, by decide +kernel⟩
theorem hi_224 : Jvm.Cond.initialized "java/util/ArrayList" ∈ lw_tbl := (List.mem_of_getElem? (i := 155) (by decide +kernel))
theorem hs_224 : Jvm.Cond.instanceMethod (⟨"java/util/ArrayList", "<init>", "()V"⟩ : MethodName) ∈ lw_tbl := (List.mem_of_getElem? (i := 1753) (by decide +kernel))
theorem hy_225 : e_ml[225]? = some ((⟨"java/util/ArrayList", "add", "(Ljava/lang/Object;)Z"⟩ : MethodName), prog_50_method_25_code, 2, (some .boolean)) := by decide +kernel
theorem hp_225 : plainName "java/util/ArrayList" = true := by decide +kernel
theorem hc_225 : Jvm.Cond.code (⟨"java/util/ArrayList", "add", "(Ljava/lang/Object;)Z"⟩ : MethodName) prog_50_method_25_code 2 (some .boolean) ∈ lw_tbl := (List.mem_of_getElem? (i := 1823) (by decide +kernel))
theorem hd_225 : "java/util/ArrayList" ≠ "java/lang/invoke/MethodHandle" ∧ "java/util/ArrayList" ≠ "java/lang/invoke/VarHandle" ∧ (parseMethodDescriptor "(Ljava/lang/Object;)Z").map (fun d => d.parameters.length) = some 1 := ⟨by decide +kernel, by decide +kernel, by decide +kernel⟩
theorem hi_225 : Jvm.Cond.initialized "java/util/ArrayList" ∈ lw_tbl := (List.mem_of_getElem? (i := 155) (by decide +kernel))
theorem hs_225 : Jvm.Cond.instanceMethod (⟨"java/util/ArrayList", "add", "(Ljava/lang/Object;)Z"⟩ : MethodName) ∈ lw_tbl := (List.mem_of_getElem? (i := 1821) (by decide +kernel))
theorem hy_226 : e_ml[226]? = some ((⟨"java/util/ArrayList", "add", "(Ljava/lang/Object;[Ljava/lang/Object;I)V"⟩ : MethodName), prog_50_method_24_code, 4, none) := by decide +kernel
theorem hp_226 : plainName "java/util/ArrayList" = true := by decide +kernel
theorem hc_226 : Jvm.Cond.code (⟨"java/util/ArrayList", "add", "(Ljava/lang/Object;[Ljava/lang/Object;I)V"⟩ : MethodName) prog_50_method_24_code 4 none ∈ lw_tbl := (List.mem_of_getElem? (i := 1827) (by decide +kernel))
theorem hd_226 : "java/util/ArrayList" ≠ "java/lang/invoke/MethodHandle" ∧ "java/util/ArrayList" ≠ "java/lang/invoke/VarHandle" ∧ (parseMethodDescriptor "(Ljava/lang/Object;[Ljava/lang/Object;I)V").map (fun d => d.parameters.length) = some 3 := ⟨by decide +kernel, by decide +kernel, by decide +kernel⟩
theorem hi_226 : Jvm.Cond.initialized "java/util/ArrayList" ∈ lw_tbl := (List.mem_of_getElem? (i := 155) (by decide +kernel))
theorem hs_226 : Jvm.Cond.instanceMethod (⟨"java/util/ArrayList", "add", "(Ljava/lang/Object;[Ljava/lang/Object;I)V"⟩ : MethodName) ∈ lw_tbl := (List.mem_of_getElem? (i := 1826) (by decide +kernel))
theorem hy_227 : e_ml[227]? = some ((⟨"java/util/ArrayList", "elementData", "(I)Ljava/lang/Object;"⟩ : MethodName), prog_50_method_18_code, 2, (some (.object "java/lang/Object"))) := by decide +kernel
theorem hp_227 : plainName "java/util/ArrayList" = true := by decide +kernel
theorem hc_227 : Jvm.Cond.code (⟨"java/util/ArrayList", "elementData", "(I)Ljava/lang/Object;"⟩ : MethodName) prog_50_method_18_code 2 (some (.object "java/lang/Object")) ∈ lw_tbl := (List.mem_of_getElem? (i := 2056) (by decide +kernel))
theorem hd_227 : "java/util/ArrayList" ≠ "java/lang/invoke/MethodHandle" ∧ "java/util/ArrayList" ≠ "java/lang/invoke/VarHandle" ∧ (parseMethodDescriptor "(I)Ljava/lang/Object;").map (fun d => d.parameters.length) = some 1 := ⟨by decide +kernel, by decide +kernel, by decide +kernel⟩
theorem hi_227 : Jvm.Cond.initialized "java/util/ArrayList" ∈ lw_tbl := (List.mem_of_getElem? (i := 155) (by decide +kernel))
theorem hs_227 : Jvm.Cond.instanceMethod (⟨"java/util/ArrayList", "elementData", "(I)Ljava/lang/Object;"⟩ : MethodName) ∈ lw_tbl := (List.mem_of_getElem? (i := 2054) (by decide +kernel))
theorem hy_228 : e_ml[228]? = some ((⟨"java/util/ArrayList", "fastRemove", "([Ljava/lang/Object;I)V"⟩ : MethodName), prog_50_method_39_code, 4, none) := by decide +kernel
theorem hp_228 : plainName "java/util/ArrayList" = true := by decide +kernel
theorem hc_228 : Jvm.Cond.code (⟨"java/util/ArrayList", "fastRemove", "([Ljava/lang/Object;I)V"⟩ : MethodName) prog_50_method_39_code 4 none ∈ lw_tbl := (List.mem_of_getElem? (i := 2030) (by decide +kernel))
theorem hd_228 : "java/util/ArrayList" ≠ "java/lang/invoke/MethodHandle" ∧ "java/util/ArrayList" ≠ "java/lang/invoke/VarHandle" ∧ (parseMethodDescriptor "([Ljava/lang/Object;I)V").map (fun d => d.parameters.length) = some 2 := ⟨by decide +kernel, by decide +kernel, by decide +kernel⟩
theorem hi_228 : Jvm.Cond.initialized "java/util/ArrayList" ∈ lw_tbl := (List.mem_of_getElem? (i := 155) (by decide +kernel))
theorem hs_228 : Jvm.Cond.instanceMethod (⟨"java/util/ArrayList", "fastRemove", "([Ljava/lang/Object;I)V"⟩ : MethodName) ∈ lw_tbl := (List.mem_of_getElem? (i := 2029) (by decide +kernel))
theorem hy_229 : e_ml[229]? = some ((⟨"java/util/ArrayList", "get", "(I)Ljava/lang/Object;"⟩ : MethodName), prog_50_method_20_code, 2, (some (.object "java/lang/Object"))) := by decide +kernel
theorem hp_229 : plainName "java/util/ArrayList" = true := by decide +kernel
theorem hc_229 : Jvm.Cond.code (⟨"java/util/ArrayList", "get", "(I)Ljava/lang/Object;"⟩ : MethodName) prog_50_method_20_code 2 (some (.object "java/lang/Object")) ∈ lw_tbl := (List.mem_of_getElem? (i := 2052) (by decide +kernel))
theorem hd_229 : "java/util/ArrayList" ≠ "java/lang/invoke/MethodHandle" ∧ "java/util/ArrayList" ≠ "java/lang/invoke/VarHandle" ∧ (parseMethodDescriptor "(I)Ljava/lang/Object;").map (fun d => d.parameters.length) = some 1 := ⟨by decide +kernel, by decide +kernel, by decide +kernel⟩
theorem hi_229 : Jvm.Cond.initialized "java/util/ArrayList" ∈ lw_tbl := (List.mem_of_getElem? (i := 155) (by decide +kernel))
theorem hs_229 : Jvm.Cond.instanceMethod (⟨"java/util/ArrayList", "get", "(I)Ljava/lang/Object;"⟩ : MethodName) ∈ lw_tbl := (List.mem_of_getElem? (i := 2050) (by decide +kernel))
theorem hy_230 : e_ml[230]? = some ((⟨"java/util/ArrayList", "grow", "()[Ljava/lang/Object;"⟩ : MethodName), prog_50_method_7_code, 1, (some (.array (.object "java/lang/Object")))) := by decide +kernel
theorem hp_230 : plainName "java/util/ArrayList" = true := by decide +kernel
theorem hc_230 : Jvm.Cond.code (⟨"java/util/ArrayList", "grow", "()[Ljava/lang/Object;"⟩ : MethodName) prog_50_method_7_code 1 (some (.array (.object "java/lang/Object"))) ∈ lw_tbl := (List.mem_of_getElem? (i := 1831) (by decide +kernel))
theorem hd_230 : "java/util/ArrayList" ≠ "java/lang/invoke/MethodHandle" ∧ "java/util/ArrayList" ≠ "java/lang/invoke/VarHandle" ∧ (parseMethodDescriptor "()[Ljava/lang/Object;").map (fun d => d.parameters.length) = some 0 := ⟨by decide +kernel, by decide +kernel, by decide +kernel⟩
theorem hi_230 : Jvm.Cond.initialized "java/util/ArrayList" ∈ lw_tbl := (List.mem_of_getElem? (i := 155) (by decide +kernel))
theorem hs_230 : Jvm.Cond.instanceMethod (⟨"java/util/ArrayList", "grow", "()[Ljava/lang/Object;"⟩ : MethodName) ∈ lw_tbl := (List.mem_of_getElem? (i := 1830) (by decide +kernel))
theorem hy_231 : e_ml[231]? = some ((⟨"java/util/ArrayList", "grow", "(I)[Ljava/lang/Object;"⟩ : MethodName), prog_50_method_6_code, 4, (some (.array (.object "java/lang/Object")))) := by decide +kernel
theorem hp_231 : plainName "java/util/ArrayList" = true := by decide +kernel
theorem hc_231 : Jvm.Cond.code (⟨"java/util/ArrayList", "grow", "(I)[Ljava/lang/Object;"⟩ : MethodName) prog_50_method_6_code 4 (some (.array (.object "java/lang/Object"))) ∈ lw_tbl := (List.mem_of_getElem? (i := 1835) (by decide +kernel))
theorem hd_231 : "java/util/ArrayList" ≠ "java/lang/invoke/MethodHandle" ∧ "java/util/ArrayList" ≠ "java/lang/invoke/VarHandle" ∧ (parseMethodDescriptor "(I)[Ljava/lang/Object;").map (fun d => d.parameters.length) = some 1 := ⟨by decide +kernel, by decide +kernel, by decide +kernel⟩
theorem hi_231 : Jvm.Cond.initialized "java/util/ArrayList" ∈ lw_tbl := (List.mem_of_getElem? (i := 155) (by decide +kernel))
theorem hs_231 : Jvm.Cond.instanceMethod (⟨"java/util/ArrayList", "grow", "(I)[Ljava/lang/Object;"⟩ : MethodName) ∈ lw_tbl := (List.mem_of_getElem? (i := 1834) (by decide +kernel))
theorem hy_232 : e_ml[232]? = some ((⟨"java/util/ArrayList", "isEmpty", "()Z"⟩ : MethodName), prog_50_method_9_code, 1, (some .boolean)) := by decide +kernel
theorem hp_232 : plainName "java/util/ArrayList" = true := by decide +kernel
theorem hc_232 : Jvm.Cond.code (⟨"java/util/ArrayList", "isEmpty", "()Z"⟩ : MethodName) prog_50_method_9_code 1 (some .boolean) ∈ lw_tbl := (List.mem_of_getElem? (i := 2016) (by decide +kernel))
theorem hd_232 : "java/util/ArrayList" ≠ "java/lang/invoke/MethodHandle" ∧ "java/util/ArrayList" ≠ "java/lang/invoke/VarHandle" ∧ (parseMethodDescriptor "()Z").map (fun d => d.parameters.length) = some 0 := ⟨by decide +kernel, by decide +kernel, by decide +kernel⟩
theorem hi_232 : Jvm.Cond.initialized "java/util/ArrayList" ∈ lw_tbl := (List.mem_of_getElem? (i := 155) (by decide +kernel))
theorem hs_232 : Jvm.Cond.instanceMethod (⟨"java/util/ArrayList", "isEmpty", "()Z"⟩ : MethodName) ∈ lw_tbl := (List.mem_of_getElem? (i := 2014) (by decide +kernel))
theorem hy_233 : e_ml[233]? = some ((⟨"java/util/ArrayList", "iterator", "()Ljava/util/Iterator;"⟩ : MethodName), prog_50_method_55_code, 1, (some (.object "java/util/Iterator"))) := by decide +kernel
theorem hp_233 : plainName "java/util/ArrayList" = true := by decide +kernel
theorem hc_233 : Jvm.Cond.code (⟨"java/util/ArrayList", "iterator", "()Ljava/util/Iterator;"⟩ : MethodName) prog_50_method_55_code 1 (some (.object "java/util/Iterator")) ∈ lw_tbl := (List.mem_of_getElem? (i := 2831) (by decide +kernel))
theorem hd_233 : "java/util/ArrayList" ≠ "java/lang/invoke/MethodHandle" ∧ "java/util/ArrayList" ≠ "java/lang/invoke/VarHandle" ∧ (parseMethodDescriptor "()Ljava/util/Iterator;").map (fun d => d.parameters.length) = some 0 := ⟨by decide +kernel, by decide +kernel, by decide +kernel⟩
theorem hi_233 : Jvm.Cond.initialized "java/util/ArrayList" ∈ lw_tbl := (List.mem_of_getElem? (i := 155) (by decide +kernel))
theorem hs_233 : Jvm.Cond.instanceMethod (⟨"java/util/ArrayList", "iterator", "()Ljava/util/Iterator;"⟩ : MethodName) ∈ lw_tbl := (List.mem_of_getElem? (i := 2829) (by decide +kernel))
theorem hy_234 : e_ml[234]? = some ((⟨"java/util/ArrayList", "remove", "(I)Ljava/lang/Object;"⟩ : MethodName), prog_50_method_29_code, 4, (some (.object "java/lang/Object"))) := by decide +kernel
theorem hp_234 : plainName "java/util/ArrayList" = true := by decide +kernel
theorem hc_234 : Jvm.Cond.code (⟨"java/util/ArrayList", "remove", "(I)Ljava/lang/Object;"⟩ : MethodName) prog_50_method_29_code 4 (some (.object "java/lang/Object")) ∈ lw_tbl := (List.mem_of_getElem? (i := 2020) (by decide +kernel))
theorem hd_234 : "java/util/ArrayList" ≠ "java/lang/invoke/MethodHandle" ∧ "java/util/ArrayList" ≠ "java/lang/invoke/VarHandle" ∧ (parseMethodDescriptor "(I)Ljava/lang/Object;").map (fun d => d.parameters.length) = some 1 := ⟨by decide +kernel, by decide +kernel, by decide +kernel⟩
theorem hi_234 : Jvm.Cond.initialized "java/util/ArrayList" ∈ lw_tbl := (List.mem_of_getElem? (i := 155) (by decide +kernel))
theorem hs_234 : Jvm.Cond.instanceMethod (⟨"java/util/ArrayList", "remove", "(I)Ljava/lang/Object;"⟩ : MethodName) ∈ lw_tbl := (List.mem_of_getElem? (i := 2018) (by decide +kernel))
theorem hy_235 : e_ml[235]? = some ((⟨"java/util/ArrayList", "set", "(ILjava/lang/Object;)Ljava/lang/Object;"⟩ : MethodName), prog_50_method_23_code, 4, (some (.object "java/lang/Object"))) := by decide +kernel
theorem hp_235 : plainName "java/util/ArrayList" = true := by decide +kernel
theorem hc_235 : Jvm.Cond.code (⟨"java/util/ArrayList", "set", "(ILjava/lang/Object;)Ljava/lang/Object;"⟩ : MethodName) prog_50_method_23_code 4 (some (.object "java/lang/Object")) ∈ lw_tbl := (List.mem_of_getElem? (i := 2104) (by decide +kernel))
theorem hd_235 : "java/util/ArrayList" ≠ "java/lang/invoke/MethodHandle" ∧ "java/util/ArrayList" ≠ "java/lang/invoke/VarHandle" ∧ (parseMethodDescriptor "(ILjava/lang/Object;)Ljava/lang/Object;").map (fun d => d.parameters.length) = some 2 := ⟨by decide +kernel, by decide +kernel, by decide +kernel⟩
theorem hi_235 : Jvm.Cond.initialized "java/util/ArrayList" ∈ lw_tbl := (List.mem_of_getElem? (i := 155) (by decide +kernel))
theorem hs_235 : Jvm.Cond.instanceMethod (⟨"java/util/ArrayList", "set", "(ILjava/lang/Object;)Ljava/lang/Object;"⟩ : MethodName) ∈ lw_tbl := (List.mem_of_getElem? (i := 2102) (by decide +kernel))
theorem hy_236 : e_ml[236]? = some ((⟨"java/util/ArrayList", "size", "()I"⟩ : MethodName), prog_50_method_8_code, 1, (some .int)) := by decide +kernel
theorem hp_236 : plainName "java/util/ArrayList" = true := by decide +kernel
theorem hc_236 : Jvm.Cond.code (⟨"java/util/ArrayList", "size", "()I"⟩ : MethodName) prog_50_method_8_code 1 (some .int) ∈ lw_tbl := (List.mem_of_getElem? (i := 2003) (by decide +kernel))
theorem hd_236 : "java/util/ArrayList" ≠ "java/lang/invoke/MethodHandle" ∧ "java/util/ArrayList" ≠ "java/lang/invoke/VarHandle" ∧ (parseMethodDescriptor "()I").map (fun d => d.parameters.length) = some 0 := ⟨by decide +kernel, by decide +kernel, by decide +kernel⟩
theorem hi_236 : Jvm.Cond.initialized "java/util/ArrayList" ∈ lw_tbl := (List.mem_of_getElem? (i := 155) (by decide +kernel))
theorem hs_236 : Jvm.Cond.instanceMethod (⟨"java/util/ArrayList", "size", "()I"⟩ : MethodName) ∈ lw_tbl := (List.mem_of_getElem? (i := 2001) (by decide +kernel))
theorem hy_237 : e_ml[237]? = some ((⟨"java/util/ArrayList$Itr", "<init>", "(Ljava/util/ArrayList;)V"⟩ : MethodName), prog_51_method_1_code, 2, none) := by decide +kernel
theorem hp_237 : plainName "java/util/ArrayList$Itr" = true := by decide +kernel
theorem hc_237 : Jvm.Cond.code (⟨"java/util/ArrayList$Itr", "<init>", "(Ljava/util/ArrayList;)V"⟩ : MethodName) prog_51_method_1_code 2 none ∈ lw_tbl := (List.mem_of_getElem? (i := 2836) (by decide +kernel))
theorem hd_237 : "java/util/ArrayList$Itr" ≠ "java/lang/invoke/MethodHandle" ∧ "java/util/ArrayList$Itr" ≠ "java/lang/invoke/VarHandle" ∧ (parseMethodDescriptor "(Ljava/util/ArrayList;)V").map (fun d => d.parameters.length) = some 1 := ⟨by decide +kernel, by decide +kernel, by decide +kernel⟩
theorem hi_237 : Jvm.Cond.initialized "java/util/ArrayList$Itr" ∈ lw_tbl := (List.mem_of_getElem? (i := 181) (by decide +kernel))
theorem hs_237 : Jvm.Cond.instanceMethod (⟨"java/util/ArrayList$Itr", "<init>", "(Ljava/util/ArrayList;)V"⟩ : MethodName) ∈ lw_tbl := (List.mem_of_getElem? (i := 2835) (by decide +kernel))
theorem hy_238 : e_ml[238]? = some ((⟨"java/util/ArrayList$Itr", "hasNext", "()Z"⟩ : MethodName), prog_51_method_2_code, 1, (some .boolean)) := by decide +kernel
theorem hp_238 : plainName "java/util/ArrayList$Itr" = true := by decide +kernel
theorem hc_238 : Jvm.Cond.code (⟨"java/util/ArrayList$Itr", "hasNext", "()Z"⟩ : MethodName) prog_51_method_2_code 1 (some .boolean) ∈ lw_tbl := (List.mem_of_getElem? (i := 2860) (by decide +kernel))
theorem hd_238 : "java/util/ArrayList$Itr" ≠ "java/lang/invoke/MethodHandle" ∧ "java/util/ArrayList$Itr" ≠ "java/lang/invoke/VarHandle" ∧ (parseMethodDescriptor "()Z").map (fun d => d.parameters.length) = some 0 := ⟨by decide +kernel, by decide +kernel, by decide +kernel⟩
theorem hi_238 : Jvm.Cond.initialized "java/util/ArrayList$Itr" ∈ lw_tbl := (List.mem_of_getElem? (i := 181) (by decide +kernel))
theorem hs_238 : Jvm.Cond.instanceMethod (⟨"java/util/ArrayList$Itr", "hasNext", "()Z"⟩ : MethodName) ∈ lw_tbl := (List.mem_of_getElem? (i := 2858) (by decide +kernel))
theorem hy_239 : e_ml[239]? = some ((⟨"java/util/Arrays", "copyOf", "([Ljava/lang/Object;I)[Ljava/lang/Object;"⟩ : MethodName), prog_52_method_119_code, 2, (some (.array (.object "java/lang/Object")))) := by decide +kernel
theorem hp_239 : plainName "java/util/Arrays" = true := by decide +kernel
theorem hc_239 : Jvm.Cond.code (⟨"java/util/Arrays", "copyOf", "([Ljava/lang/Object;I)[Ljava/lang/Object;"⟩ : MethodName) prog_52_method_119_code 2 (some (.array (.object "java/lang/Object"))) ∈ lw_tbl := (List.mem_of_getElem? (i := 1846) (by decide +kernel))
theorem hd_239 : "java/util/Arrays" ≠ "java/lang/invoke/MethodHandle" ∧ "java/util/Arrays" ≠ "java/lang/invoke/VarHandle" ∧ (parseMethodDescriptor "([Ljava/lang/Object;I)[Ljava/lang/Object;").map (fun d => d.parameters.length) = some 2 := ⟨by decide +kernel, by decide +kernel, by decide +kernel⟩
theorem hi_239 : Jvm.Cond.initialized "java/util/Arrays" ∈ lw_tbl := (List.mem_of_getElem? (i := 158) (by decide +kernel))
theorem hs_239 : Jvm.Cond.static (⟨"java/util/Arrays", "copyOf", "([Ljava/lang/Object;I)[Ljava/lang/Object;"⟩ : MethodName) ∈ lw_tbl := (List.mem_of_getElem? (i := 1845) (by decide +kernel))
theorem hy_240 : e_ml[240]? = some ((⟨"java/util/Arrays", "copyOf", "([Ljava/lang/Object;ILjava/lang/Class;)[Ljava/lang/Object;"⟩ : MethodName), prog_52_method_120_code, 4, (some (.array (.object "java/lang/Object")))) := by decide +kernel
theorem hp_240 : plainName "java/util/Arrays" = true := by decide +kernel
theorem hc_240 : Jvm.Cond.code (⟨"java/util/Arrays", "copyOf", "([Ljava/lang/Object;ILjava/lang/Class;)[Ljava/lang/Object;"⟩ : MethodName) prog_52_method_120_code 4 (some (.array (.object "java/lang/Object"))) ∈ lw_tbl := (List.mem_of_getElem? (i := 1882) (by decide +kernel))
theorem hd_240 : "java/util/Arrays" ≠ "java/lang/invoke/MethodHandle" ∧ "java/util/Arrays" ≠ "java/lang/invoke/VarHandle" ∧ (parseMethodDescriptor "([Ljava/lang/Object;ILjava/lang/Class;)[Ljava/lang/Object;").map (fun d => d.parameters.length) = some 3 := ⟨by decide +kernel, by decide +kernel, by decide +kernel⟩
theorem hi_240 : Jvm.Cond.initialized "java/util/Arrays" ∈ lw_tbl := (List.mem_of_getElem? (i := 158) (by decide +kernel))
theorem hs_240 : Jvm.Cond.static (⟨"java/util/Arrays", "copyOf", "([Ljava/lang/Object;ILjava/lang/Class;)[Ljava/lang/Object;"⟩ : MethodName) ∈ lw_tbl := (List.mem_of_getElem? (i := 1881) (by decide +kernel))
theorem hy_241 : e_ml[241]? = some ((⟨"java/util/Objects", "checkIndex", "(II)I"⟩ : MethodName), prog_56_method_17_code, 2, (some .int)) := by decide +kernel
theorem hp_241 : plainName "java/util/Objects" = true := by decide +kernel
theorem hc_241 : Jvm.Cond.code (⟨"java/util/Objects", "checkIndex", "(II)I"⟩ : MethodName) prog_56_method_17_code 2 (some .int) ∈ lw_tbl := (List.mem_of_getElem? (i := 2023) (by decide +kernel))
theorem hd_241 : "java/util/Objects" ≠ "java/lang/invoke/MethodHandle" ∧ "java/util/Objects" ≠ "java/lang/invoke/VarHandle" ∧ (parseMethodDescriptor "(II)I").map (fun d => d.parameters.length) = some 2 := ⟨by decide +kernel, by decide +kernel, by decide +kernel⟩
theorem hi_241 : Jvm.Cond.initialized "java/util/Objects" ∈ lw_tbl := (List.mem_of_getElem? (i := 165) (by decide +kernel))
theorem hs_241 : Jvm.Cond.static (⟨"java/util/Objects", "checkIndex", "(II)I"⟩ : MethodName) ∈ lw_tbl := (List.mem_of_getElem? (i := 2022) (by decide +kernel))
theorem hy_242 : e_ml[242]? = some ((⟨"jdk/internal/util/ArraysSupport", "newLength", "(III)I"⟩ : MethodName), prog_59_method_27_code, 4, (some .int)) := by decide +kernel
theorem hp_242 : plainName "jdk/internal/util/ArraysSupport" = true := by decide +kernel
theorem hc_242 : Jvm.Cond.code (⟨"jdk/internal/util/ArraysSupport", "newLength", "(III)I"⟩ : MethodName) prog_59_method_27_code 4 (some .int) ∈ lw_tbl := (List.mem_of_getElem? (i := 1838) (by decide +kernel))
theorem hd_242 : "jdk/internal/util/ArraysSupport" ≠ "java/lang/invoke/MethodHandle" ∧ "jdk/internal/util/ArraysSupport" ≠ "java/lang/invoke/VarHandle" ∧ (parseMethodDescriptor "(III)I").map (fun d => d.parameters.length) = some 3 := ⟨by decide +kernel, by decide +kernel, by decide +kernel⟩
theorem hi_242 : Jvm.Cond.initialized "jdk/internal/util/ArraysSupport" ∈ lw_tbl := (List.mem_of_getElem? (i := 157) (by decide +kernel))
theorem hs_242 : Jvm.Cond.static (⟨"jdk/internal/util/ArraysSupport", "newLength", "(III)I"⟩ : MethodName) ∈ lw_tbl := (List.mem_of_getElem? (i := 1837) (by decide +kernel))
theorem hy_243 : e_ml[243]? = some ((⟨"jdk/internal/util/Preconditions", "checkIndex", "(IILjava/util/function/BiFunction;)I"⟩ : MethodName), prog_60_method_11_code, 3, (some .int)) := by decide +kernel
theorem hp_243 : plainName "jdk/internal/util/Preconditions" = true := by decide +kernel
theorem hc_243 : Jvm.Cond.code (⟨"jdk/internal/util/Preconditions", "checkIndex", "(IILjava/util/function/BiFunction;)I"⟩ : MethodName) prog_60_method_11_code 3 (some .int) ∈ lw_tbl := (List.mem_of_getElem? (i := 2026) (by decide +kernel))
theorem hd_243 : "jdk/internal/util/Preconditions" ≠ "java/lang/invoke/MethodHandle" ∧ "jdk/internal/util/Preconditions" ≠ "java/lang/invoke/VarHandle" ∧ (parseMethodDescriptor "(IILjava/util/function/BiFunction;)I").map (fun d => d.parameters.length) = some 3 := ⟨by decide +kernel, by decide +kernel, by decide +kernel⟩
theorem hi_243 : Jvm.Cond.initialized "jdk/internal/util/Preconditions" ∈ lw_tbl := (List.mem_of_getElem? (i := 166) (by decide +kernel))
theorem hs_243 : Jvm.Cond.static (⟨"jdk/internal/util/Preconditions", "checkIndex", "(IILjava/util/function/BiFunction;)I"⟩ : MethodName) ∈ lw_tbl := (List.mem_of_getElem? (i := 2025) (by decide +kernel))
end SN
