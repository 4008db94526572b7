/-! NEW OBJECTS; what is called; by program -/
section SN
def e_d0 (t : Nat) : e_V := match t with | 0 => e_I 2147483648 | 1 => e_L 9223372036854775808 | _ => e_N
def e_d1 (t : Nat) : Value := match t with | 0 => .int 0 | 1 => .long 0 | _ => .null
theorem e_newrel {ts : List Nat} {fs : List e_V} {fv : List Value} (h : fs = ts.map e_d0 ∧ fv = ts.map e_d1) : ∀ (ad : Nat → Nat) (as : List Nat) (k : Nat) (v : e_V), fs[k]? = some v → ∃ y, fv[k]? = some y ∧ e_rel ad as v y := by
  obtain ⟨rfl, rfl⟩ := h
  intro ad as k v hv
  rw [List.getElem?_map] at hv ⊢
  cases ht : ts[k]? with
  | none => rw [ht] at hv; cases hv
  | some t =>
    rw [ht] at hv
    simp only [Option.map_some, Option.some.injEq] at hv ⊢
    refine ⟨_, rfl, ?_⟩
    subst hv
    match t with
    | 0 => exact ⟨by decide, by decide⟩
    | 1 => exact ⟨by decide, by decide⟩
    | _ + 2 => exact (rfl : Value.null = .null)
def ef_0 : List e_V := [e_N, e_N, e_N, e_N, e_N, e_N, e_N, e_N, e_N, e_N, e_N, e_N, e_N, e_I 2147483648, e_I 2147483648, e_I 2147483648, e_I 2147483648]
def eg_0 : List Value := [.null, .null, .null, .null, .null, .null, .null, .null, .null, .null, .null, .null, .null, .int 0, .int 0, .int 0, .int 0]
theorem ek_0 : ef_0 = [2, 2, 2, 2, 2, 2, 2, 2, 2, 2, 2, 2, 2, 0, 0, 0, 0].map e_d0 ∧ eg_0 = [2, 2, 2, 2, 2, 2, 2, 2, 2, 2, 2, 2, 2, 0, 0, 0, 0].map e_d1 := ⟨rfl, rfl⟩
theorem eh_0 : ∀ j, j < 17 → defaultValue (ey_0 j) = vp_V eg_0 j := by decide +kernel
def ef_1 : List e_V := [e_N, e_N, e_I 2147483648, e_I 2147483648]
def eg_1 : List Value := [.null, .null, .int 0, .int 0]
theorem ek_1 : ef_1 = [2, 2, 0, 0].map e_d0 ∧ eg_1 = [2, 2, 0, 0].map e_d1 := ⟨rfl, rfl⟩
theorem eh_1 : ∀ j, j < 4 → defaultValue (ey_1 j) = vp_V eg_1 j := by decide +kernel
def ef_2 : List e_V := [e_N, e_N, e_N, e_N, e_N, e_N, e_N, e_N, e_N, e_N, e_N, e_N, e_N, e_I 2147483648, e_I 2147483648, e_I 2147483648, e_I 2147483648, e_I 2147483648, e_I 2147483648]
def eg_2 : List Value := [.null, .null, .null, .null, .null, .null, .null, .null, .null, .null, .null, .null, .null, .int 0, .int 0, .int 0, .int 0, .int 0, .int 0]
theorem ek_2 : ef_2 = [2, 2, 2, 2, 2, 2, 2, 2, 2, 2, 2, 2, 2, 0, 0, 0, 0, 0, 0].map e_d0 ∧ eg_2 = [2, 2, 2, 2, 2, 2, 2, 2, 2, 2, 2, 2, 2, 0, 0, 0, 0, 0, 0].map e_d1 := ⟨rfl, rfl⟩
theorem eh_2 : ∀ j, j < 19 → defaultValue (ey_2 j) = vp_V eg_2 j := by decide +kernel
def ef_3 : List e_V := [e_N, e_N, e_N, e_N, e_I 2147483648]
def eg_3 : List Value := [.null, .null, .null, .null, .int 0]
theorem ek_3 : ef_3 = [2, 2, 2, 2, 0].map e_d0 ∧ eg_3 = [2, 2, 2, 2, 0].map e_d1 := ⟨rfl, rfl⟩
theorem eh_3 : ∀ j, j < 5 → defaultValue (ey_3 j) = vp_V eg_3 j := by decide +kernel
def ef_4 : List e_V := [e_I 2147483648, e_N, e_N, e_N, e_I 2147483648]
def eg_4 : List Value := [.int 0, .null, .null, .null, .int 0]
theorem ek_4 : ef_4 = [0, 2, 2, 2, 0].map e_d0 ∧ eg_4 = [0, 2, 2, 2, 0].map e_d1 := ⟨rfl, rfl⟩
theorem eh_4 : ∀ j, j < 5 → defaultValue (ey_4 j) = vp_V eg_4 j := by decide +kernel
def ef_5 : List e_V := [e_N, e_N, e_L 9223372036854775808, e_L 9223372036854775808, e_L 9223372036854775808]
def eg_5 : List Value := [.null, .null, .long 0, .long 0, .long 0]
theorem ek_5 : ef_5 = [2, 2, 1, 1, 1].map e_d0 ∧ eg_5 = [2, 2, 1, 1, 1].map e_d1 := ⟨rfl, rfl⟩
theorem eh_5 : ∀ j, j < 5 → defaultValue (ey_5 j) = vp_V eg_5 j := by decide +kernel
def ef_6 : List e_V := [e_N, e_N, e_N, e_N, e_I 2147483648, e_I 2147483648, e_I 2147483648, e_I 2147483648, e_I 2147483648, e_N, e_N, e_N, e_N, e_N, e_N, e_N, e_I 2147483648]
def eg_6 : List Value := [.null, .null, .null, .null, .int 0, .int 0, .int 0, .int 0, .int 0, .null, .null, .null, .null, .null, .null, .null, .int 0]
theorem ek_6 : ef_6 = [2, 2, 2, 2, 0, 0, 0, 0, 0, 2, 2, 2, 2, 2, 2, 2, 0].map e_d0 ∧ eg_6 = [2, 2, 2, 2, 0, 0, 0, 0, 0, 2, 2, 2, 2, 2, 2, 2, 0].map e_d1 := ⟨rfl, rfl⟩
theorem eh_6 : ∀ j, j < 17 → defaultValue (ey_6 j) = vp_V eg_6 j := by decide +kernel
def ef_7 : List e_V := [e_N, e_N, e_N, e_N, e_I 2147483648, e_I 2147483648]
def eg_7 : List Value := [.null, .null, .null, .null, .int 0, .int 0]
theorem ek_7 : ef_7 = [2, 2, 2, 2, 0, 0].map e_d0 ∧ eg_7 = [2, 2, 2, 2, 0, 0].map e_d1 := ⟨rfl, rfl⟩
theorem eh_7 : ∀ j, j < 6 → defaultValue (ey_7 j) = vp_V eg_7 j := by decide +kernel
def ef_8 : List e_V := [e_N, e_I 2147483648, e_I 2147483648]
def eg_8 : List Value := [.null, .int 0, .int 0]
theorem ek_8 : ef_8 = [2, 0, 0].map e_d0 ∧ eg_8 = [2, 0, 0].map e_d1 := ⟨rfl, rfl⟩
theorem eh_8 : ∀ j, j < 3 → defaultValue (ey_8 j) = vp_V eg_8 j := by decide +kernel
def ef_9 : List e_V := [e_N]
def eg_9 : List Value := [.null]
theorem ek_9 : ef_9 = [2].map e_d0 ∧ eg_9 = [2].map e_d1 := ⟨rfl, rfl⟩
theorem eh_9 : ∀ j, j < 1 → defaultValue (ey_9 j) = vp_V eg_9 j := by decide +kernel
def ef_10 : List e_V := [e_N, e_N, e_N, e_N, e_I 2147483648, e_I 2147483648, e_I 2147483648, e_I 2147483648, e_I 2147483648, e_I 2147483648, e_I 2147483648]
def eg_10 : List Value := [.null, .null, .null, .null, .int 0, .int 0, .int 0, .int 0, .int 0, .int 0, .int 0]
theorem ek_10 : ef_10 = [2, 2, 2, 2, 0, 0, 0, 0, 0, 0, 0].map e_d0 ∧ eg_10 = [2, 2, 2, 2, 0, 0, 0, 0, 0, 0, 0].map e_d1 := ⟨rfl, rfl⟩
theorem eh_10 : ∀ j, j < 11 → defaultValue (ey_10 j) = vp_V eg_10 j := by decide +kernel
def ef_11 : List e_V := [e_N, e_N, e_N, e_N, e_I 2147483648, e_N, e_N, e_N, e_N, e_N, e_I 2147483648, e_N, e_I 2147483648, e_I 2147483648, e_I 2147483648]
def eg_11 : List Value := [.null, .null, .null, .null, .int 0, .null, .null, .null, .null, .null, .int 0, .null, .int 0, .int 0, .int 0]
theorem ek_11 : ef_11 = [2, 2, 2, 2, 0, 2, 2, 2, 2, 2, 0, 2, 0, 0, 0].map e_d0 ∧ eg_11 = [2, 2, 2, 2, 0, 2, 2, 2, 2, 2, 0, 2, 0, 0, 0].map e_d1 := ⟨rfl, rfl⟩
theorem eh_11 : ∀ j, j < 15 → defaultValue (ey_11 j) = vp_V eg_11 j := by decide +kernel
def ef_12 : List e_V := [e_I 2147483648, e_N, e_N, e_N, e_I 2147483648]
def eg_12 : List Value := [.int 0, .null, .null, .null, .int 0]
theorem ek_12 : ef_12 = [0, 2, 2, 2, 0].map e_d0 ∧ eg_12 = [0, 2, 2, 2, 0].map e_d1 := ⟨rfl, rfl⟩
theorem eh_12 : ∀ j, j < 5 → defaultValue (ey_12 j) = vp_V eg_12 j := by decide +kernel
def ef_13 : List e_V := [e_N, e_N, e_N, e_N, e_N, e_N, e_N, e_N, e_I 2147483648, e_I 2147483648, e_I 2147483648, e_I 2147483648, e_N]
def eg_13 : List Value := [.null, .null, .null, .null, .null, .null, .null, .null, .int 0, .int 0, .int 0, .int 0, .null]
theorem ek_13 : ef_13 = [2, 2, 2, 2, 2, 2, 2, 2, 0, 0, 0, 0, 2].map e_d0 ∧ eg_13 = [2, 2, 2, 2, 2, 2, 2, 2, 0, 0, 0, 0, 2].map e_d1 := ⟨rfl, rfl⟩
theorem eh_13 : ∀ j, j < 13 → defaultValue (ey_13 j) = vp_V eg_13 j := by decide +kernel
def ef_14 : List e_V := [e_N, e_I 2147483648]
def eg_14 : List Value := [.null, .int 0]
theorem ek_14 : ef_14 = [2, 0].map e_d0 ∧ eg_14 = [2, 0].map e_d1 := ⟨rfl, rfl⟩
theorem eh_14 : ∀ j, j < 2 → defaultValue (ey_14 j) = vp_V eg_14 j := by decide +kernel
def ef_15 : List e_V := [e_N, e_I 2147483648, e_I 2147483648, e_I 2147483648, e_I 2147483648, e_L 9223372036854775808, e_L 9223372036854775808, e_L 9223372036854775808]
def eg_15 : List Value := [.null, .int 0, .int 0, .int 0, .int 0, .long 0, .long 0, .long 0]
theorem ek_15 : ef_15 = [2, 0, 0, 0, 0, 1, 1, 1].map e_d0 ∧ eg_15 = [2, 0, 0, 0, 0, 1, 1, 1].map e_d1 := ⟨rfl, rfl⟩
theorem eh_15 : ∀ j, j < 8 → defaultValue (ey_15 j) = vp_V eg_15 j := by decide +kernel
def ef_16 : List e_V := [e_N, e_N, e_I 2147483648, e_I 2147483648, e_I 2147483648]
def eg_16 : List Value := [.null, .null, .int 0, .int 0, .int 0]
theorem ek_16 : ef_16 = [2, 2, 0, 0, 0].map e_d0 ∧ eg_16 = [2, 2, 0, 0, 0].map e_d1 := ⟨rfl, rfl⟩
theorem eh_16 : ∀ j, j < 5 → defaultValue (ey_16 j) = vp_V eg_16 j := by decide +kernel
def ef_17 : List e_V := [e_N, e_N, e_N, e_N, e_N, e_N]
def eg_17 : List Value := [.null, .null, .null, .null, .null, .null]
theorem ek_17 : ef_17 = [2, 2, 2, 2, 2, 2].map e_d0 ∧ eg_17 = [2, 2, 2, 2, 2, 2].map e_d1 := ⟨rfl, rfl⟩
theorem eh_17 : ∀ j, j < 6 → defaultValue (ey_17 j) = vp_V eg_17 j := by decide +kernel
def ef_18 : List e_V := [e_N, e_I 2147483648, e_I 2147483648]
def eg_18 : List Value := [.null, .int 0, .int 0]
theorem ek_18 : ef_18 = [2, 0, 0].map e_d0 ∧ eg_18 = [2, 0, 0].map e_d1 := ⟨rfl, rfl⟩
theorem eh_18 : ∀ j, j < 3 → defaultValue (ey_18 j) = vp_V eg_18 j := by decide +kernel
theorem hy_0 : e_ml[0]? = some ((⟨"Plateroomprinter", "<init>", "()V"⟩ : MethodName), prog_1_method_1_code, 1, none) := by decide +kernel
theorem hp_0 : plainName "Plateroomprinter" = true := by decide +kernel
theorem hc_0 : Jvm.Cond.code (⟨"Plateroomprinter", "<init>", "()V"⟩ : MethodName) prog_1_method_1_code 1 none ∈ lw_tbl := (List.mem_of_getElem? (i := 188) (by decide +kernel))
theorem hd_0 : "Plateroomprinter" ≠ "java/lang/invoke/MethodHandle" ∧ "Plateroomprinter" ≠ "java/lang/invoke/VarHandle" ∧ (parseMethodDescriptor "()V").map (fun d => d.parameters.length) = some 0 := ⟨by decide +kernel, by decide +kernel, by decide +kernel⟩
theorem hi_0 : Jvm.Cond.initialized "Plateroomprinter" ∈ lw_tbl := (List.mem_of_getElem? (i := 138) (by decide +kernel))
theorem hs_0 : Jvm.Cond.instanceMethod (⟨"Plateroomprinter", "<init>", "()V"⟩ : MethodName) ∈ lw_tbl := (List.mem_of_getElem? (i := 187) (by decide +kernel))
theorem hy_4 : e_ml[4]? = some ((⟨"Plateroomprinter", "clearRows", "([I)V"⟩ : MethodName), prog_1_method_35_code, 2, none) := by decide +kernel
theorem hp_4 : plainName "Plateroomprinter" = true := by decide +kernel
theorem hc_4 : Jvm.Cond.code (⟨"Plateroomprinter", "clearRows", "([I)V"⟩ : MethodName) prog_1_method_35_code 2 none ∈ lw_tbl := (List.mem_of_getElem? (i := 458) (by decide +kernel))
theorem hd_4 : "Plateroomprinter" ≠ "java/lang/invoke/MethodHandle" ∧ "Plateroomprinter" ≠ "java/lang/invoke/VarHandle" ∧ (parseMethodDescriptor "([I)V").map (fun d => d.parameters.length) = some 1 := ⟨by decide +kernel, by decide +kernel, by decide +kernel⟩
theorem hi_4 : Jvm.Cond.initialized "Plateroomprinter" ∈ lw_tbl := (List.mem_of_getElem? (i := 138) (by decide +kernel))
theorem hs_4 : Jvm.Cond.static (⟨"Plateroomprinter", "clearRows", "([I)V"⟩ : MethodName) ∈ lw_tbl := (List.mem_of_getElem? (i := 457) (by decide +kernel))
theorem hy_52 : e_ml[52]? = some ((⟨"Plateroomprinter$Code", "<init>", "()V"⟩ : MethodName), prog_2_method_1_code, 1, none) := by decide +kernel
theorem hp_52 : plainName "Plateroomprinter$Code" = true := by decide +kernel
theorem hc_52 : Jvm.Cond.code (⟨"Plateroomprinter$Code", "<init>", "()V"⟩ : MethodName) prog_2_method_1_code 1 none ∈ lw_tbl := (List.mem_of_getElem? (i := 196) (by decide +kernel))
theorem hd_52 : "Plateroomprinter$Code" ≠ "java/lang/invoke/MethodHandle" ∧ "Plateroomprinter$Code" ≠ "java/lang/invoke/VarHandle" ∧ (parseMethodDescriptor "()V").map (fun d => d.parameters.length) = some 0 := ⟨by decide +kernel, by decide +kernel, by decide +kernel⟩
theorem hi_52 : Jvm.Cond.initialized "Plateroomprinter$Code" ∈ lw_tbl := (List.mem_of_getElem? (i := 139) (by decide +kernel))
theorem hs_52 : Jvm.Cond.instanceMethod (⟨"Plateroomprinter$Code", "<init>", "()V"⟩ : MethodName) ∈ lw_tbl := (List.mem_of_getElem? (i := 195) (by decide +kernel))
theorem hy_55 : e_ml[55]? = some ((⟨"Plateroomprinter$Engine", "<init>", "(LPlateroomprinter$World;LPlateroomprinter$Code;)V"⟩ : MethodName), prog_3_method_1_code, 3, none) := by decide +kernel
theorem hp_55 : plainName "Plateroomprinter$Engine" = true := by decide +kernel
theorem hc_55 : Jvm.Cond.code (⟨"Plateroomprinter$Engine", "<init>", "(LPlateroomprinter$World;LPlateroomprinter$Code;)V"⟩ : MethodName) prog_3_method_1_code 3 none ∈ lw_tbl := (List.mem_of_getElem? (i := 614) (by decide +kernel))
theorem hd_55 : "Plateroomprinter$Engine" ≠ "java/lang/invoke/MethodHandle" ∧ "Plateroomprinter$Engine" ≠ "java/lang/invoke/VarHandle" ∧ (parseMethodDescriptor "(LPlateroomprinter$World;LPlateroomprinter$Code;)V").map (fun d => d.parameters.length) = some 2 := ⟨by decide +kernel, by decide +kernel, by decide +kernel⟩
theorem hi_55 : Jvm.Cond.initialized "Plateroomprinter$Engine" ∈ lw_tbl := (List.mem_of_getElem? (i := 150) (by decide +kernel))
theorem hs_55 : Jvm.Cond.instanceMethod (⟨"Plateroomprinter$Engine", "<init>", "(LPlateroomprinter$World;LPlateroomprinter$Code;)V"⟩ : MethodName) ∈ lw_tbl := (List.mem_of_getElem? (i := 613) (by decide +kernel))
theorem hy_61 : e_ml[61]? = some ((⟨"Plateroomprinter$Figures", "<init>", "()V"⟩ : MethodName), prog_4_method_1_code, 1, none) := by decide +kernel
theorem hp_61 : plainName "Plateroomprinter$Figures" = true := by decide +kernel
theorem hc_61 : Jvm.Cond.code (⟨"Plateroomprinter$Figures", "<init>", "()V"⟩ : MethodName) prog_4_method_1_code 1 none ∈ lw_tbl := (List.mem_of_getElem? (i := 390) (by decide +kernel))
theorem hd_61 : "Plateroomprinter$Figures" ≠ "java/lang/invoke/MethodHandle" ∧ "Plateroomprinter$Figures" ≠ "java/lang/invoke/VarHandle" ∧ (parseMethodDescriptor "()V").map (fun d => d.parameters.length) = some 0 := ⟨by decide +kernel, by decide +kernel, by decide +kernel⟩
theorem hi_61 : Jvm.Cond.initialized "Plateroomprinter$Figures" ∈ lw_tbl := (List.mem_of_getElem? (i := 147) (by decide +kernel))
theorem hs_61 : Jvm.Cond.instanceMethod (⟨"Plateroomprinter$Figures", "<init>", "()V"⟩ : MethodName) ∈ lw_tbl := (List.mem_of_getElem? (i := 389) (by decide +kernel))
theorem hy_63 : e_ml[63]? = some ((⟨"Plateroomprinter$Items", "<init>", "(I)V"⟩ : MethodName), prog_5_method_1_code, 2, none) := by decide +kernel
theorem hp_63 : plainName "Plateroomprinter$Items" = true := by decide +kernel
theorem hc_63 : Jvm.Cond.code (⟨"Plateroomprinter$Items", "<init>", "(I)V"⟩ : MethodName) prog_5_method_1_code 2 none ∈ lw_tbl := (List.mem_of_getElem? (i := 226) (by decide +kernel))
theorem hd_63 : "Plateroomprinter$Items" ≠ "java/lang/invoke/MethodHandle" ∧ "Plateroomprinter$Items" ≠ "java/lang/invoke/VarHandle" ∧ (parseMethodDescriptor "(I)V").map (fun d => d.parameters.length) = some 1 := ⟨by decide +kernel, by decide +kernel, by decide +kernel⟩
theorem hi_63 : Jvm.Cond.initialized "Plateroomprinter$Items" ∈ lw_tbl := (List.mem_of_getElem? (i := 141) (by decide +kernel))
theorem hs_63 : Jvm.Cond.instanceMethod (⟨"Plateroomprinter$Items", "<init>", "(I)V"⟩ : MethodName) ∈ lw_tbl := (List.mem_of_getElem? (i := 225) (by decide +kernel))
theorem hy_64 : e_ml[64]? = some ((⟨"Plateroomprinter$Items", "clear", "(I)V"⟩ : MethodName), prog_5_method_2_code, 3, none) := by decide +kernel
theorem hp_64 : plainName "Plateroomprinter$Items" = true := by decide +kernel
theorem hc_64 : Jvm.Cond.code (⟨"Plateroomprinter$Items", "clear", "(I)V"⟩ : MethodName) prog_5_method_2_code 3 none ∈ lw_tbl := (List.mem_of_getElem? (i := 423) (by decide +kernel))
theorem hd_64 : "Plateroomprinter$Items" ≠ "java/lang/invoke/MethodHandle" ∧ "Plateroomprinter$Items" ≠ "java/lang/invoke/VarHandle" ∧ (parseMethodDescriptor "(I)V").map (fun d => d.parameters.length) = some 1 := ⟨by decide +kernel, by decide +kernel, by decide +kernel⟩
theorem hi_64 : Jvm.Cond.initialized "Plateroomprinter$Items" ∈ lw_tbl := (List.mem_of_getElem? (i := 141) (by decide +kernel))
theorem hs_64 : Jvm.Cond.instanceMethod (⟨"Plateroomprinter$Items", "clear", "(I)V"⟩ : MethodName) ∈ lw_tbl := (List.mem_of_getElem? (i := 421) (by decide +kernel))
theorem hy_69 : e_ml[69]? = some ((⟨"Plateroomprinter$Items", "write", "(IIII)V"⟩ : MethodName), prog_5_method_4_code, 5, none) := by decide +kernel
theorem hp_69 : plainName "Plateroomprinter$Items" = true := by decide +kernel
theorem hc_69 : Jvm.Cond.code (⟨"Plateroomprinter$Items", "write", "(IIII)V"⟩ : MethodName) prog_5_method_4_code 5 none ∈ lw_tbl := (List.mem_of_getElem? (i := 430) (by decide +kernel))
theorem hd_69 : "Plateroomprinter$Items" ≠ "java/lang/invoke/MethodHandle" ∧ "Plateroomprinter$Items" ≠ "java/lang/invoke/VarHandle" ∧ (parseMethodDescriptor "(IIII)V").map (fun d => d.parameters.length) = some 4 := ⟨by decide +kernel, by decide +kernel, by decide +kernel⟩
theorem hi_69 : Jvm.Cond.initialized "Plateroomprinter$Items" ∈ lw_tbl := (List.mem_of_getElem? (i := 141) (by decide +kernel))
theorem hs_69 : Jvm.Cond.instanceMethod (⟨"Plateroomprinter$Items", "write", "(IIII)V"⟩ : MethodName) ∈ lw_tbl := (List.mem_of_getElem? (i := 428) (by decide +kernel))
theorem hy_70 : e_ml[70]? = some ((⟨"Plateroomprinter$Matrix", "<init>", "()V"⟩ : MethodName), prog_6_method_1_code, 1, none) := by decide +kernel
theorem hp_70 : plainName "Plateroomprinter$Matrix" = true := by decide +kernel
theorem hc_70 : Jvm.Cond.code (⟨"Plateroomprinter$Matrix", "<init>", "()V"⟩ : MethodName) prog_6_method_1_code 1 none ∈ lw_tbl := (List.mem_of_getElem? (i := 259) (by decide +kernel))
theorem hd_70 : "Plateroomprinter$Matrix" ≠ "java/lang/invoke/MethodHandle" ∧ "Plateroomprinter$Matrix" ≠ "java/lang/invoke/VarHandle" ∧ (parseMethodDescriptor "()V").map (fun d => d.parameters.length) = some 0 := ⟨by decide +kernel, by decide +kernel, by decide +kernel⟩
theorem hi_70 : Jvm.Cond.initialized "Plateroomprinter$Matrix" ∈ lw_tbl := (List.mem_of_getElem? (i := 144) (by decide +kernel))
theorem hs_70 : Jvm.Cond.instanceMethod (⟨"Plateroomprinter$Matrix", "<init>", "()V"⟩ : MethodName) ∈ lw_tbl := (List.mem_of_getElem? (i := 258) (by decide +kernel))
theorem hy_71 : e_ml[71]? = some ((⟨"Plateroomprinter$Matrix", "clear", "()V"⟩ : MethodName), prog_6_method_2_code, 2, none) := by decide +kernel
theorem hp_71 : plainName "Plateroomprinter$Matrix" = true := by decide +kernel
theorem hc_71 : Jvm.Cond.code (⟨"Plateroomprinter$Matrix", "clear", "()V"⟩ : MethodName) prog_6_method_2_code 2 none ∈ lw_tbl := (List.mem_of_getElem? (i := 438) (by decide +kernel))
theorem hd_71 : "Plateroomprinter$Matrix" ≠ "java/lang/invoke/MethodHandle" ∧ "Plateroomprinter$Matrix" ≠ "java/lang/invoke/VarHandle" ∧ (parseMethodDescriptor "()V").map (fun d => d.parameters.length) = some 0 := ⟨by decide +kernel, by decide +kernel, by decide +kernel⟩
theorem hi_71 : Jvm.Cond.initialized "Plateroomprinter$Matrix" ∈ lw_tbl := (List.mem_of_getElem? (i := 144) (by decide +kernel))
theorem hs_71 : Jvm.Cond.instanceMethod (⟨"Plateroomprinter$Matrix", "clear", "()V"⟩ : MethodName) ∈ lw_tbl := (List.mem_of_getElem? (i := 436) (by decide +kernel))
theorem hy_73 : e_ml[73]? = some ((⟨"Plateroomprinter$Painter", "<init>", "(LPlateroomprinter$World;LPlateroomprinter$Raster;)V"⟩ : MethodName), prog_7_method_1_code, 3, none) := by decide +kernel
theorem hp_73 : plainName "Plateroomprinter$Painter" = true := by decide +kernel
theorem hc_73 : Jvm.Cond.code (⟨"Plateroomprinter$Painter", "<init>", "(LPlateroomprinter$World;LPlateroomprinter$Raster;)V"⟩ : MethodName) prog_7_method_1_code 3 none ∈ lw_tbl := (List.mem_of_getElem? (i := 554) (by decide +kernel))
theorem hd_73 : "Plateroomprinter$Painter" ≠ "java/lang/invoke/MethodHandle" ∧ "Plateroomprinter$Painter" ≠ "java/lang/invoke/VarHandle" ∧ (parseMethodDescriptor "(LPlateroomprinter$World;LPlateroomprinter$Raster;)V").map (fun d => d.parameters.length) = some 2 := ⟨by decide +kernel, by decide +kernel, by decide +kernel⟩
theorem hi_73 : Jvm.Cond.initialized "Plateroomprinter$Painter" ∈ lw_tbl := (List.mem_of_getElem? (i := 149) (by decide +kernel))
theorem hs_73 : Jvm.Cond.instanceMethod (⟨"Plateroomprinter$Painter", "<init>", "(LPlateroomprinter$World;LPlateroomprinter$Raster;)V"⟩ : MethodName) ∈ lw_tbl := (List.mem_of_getElem? (i := 553) (by decide +kernel))
theorem hy_75 : e_ml[75]? = some ((⟨"Plateroomprinter$Path", "<init>", "()V"⟩ : MethodName), prog_8_method_1_code, 1, none) := by decide +kernel
theorem hp_75 : plainName "Plateroomprinter$Path" = true := by decide +kernel
theorem hc_75 : Jvm.Cond.code (⟨"Plateroomprinter$Path", "<init>", "()V"⟩ : MethodName) prog_8_method_1_code 1 none ∈ lw_tbl := (List.mem_of_getElem? (i := 284) (by decide +kernel))
theorem hd_75 : "Plateroomprinter$Path" ≠ "java/lang/invoke/MethodHandle" ∧ "Plateroomprinter$Path" ≠ "java/lang/invoke/VarHandle" ∧ (parseMethodDescriptor "()V").map (fun d => d.parameters.length) = some 0 := ⟨by decide +kernel, by decide +kernel, by decide +kernel⟩
theorem hi_75 : Jvm.Cond.initialized "Plateroomprinter$Path" ∈ lw_tbl := (List.mem_of_getElem? (i := 145) (by decide +kernel))
theorem hs_75 : Jvm.Cond.instanceMethod (⟨"Plateroomprinter$Path", "<init>", "()V"⟩ : MethodName) ∈ lw_tbl := (List.mem_of_getElem? (i := 283) (by decide +kernel))
theorem hy_76 : e_ml[76]? = some ((⟨"Plateroomprinter$Path", "clear", "()V"⟩ : MethodName), prog_8_method_2_code, 1, none) := by decide +kernel
theorem hp_76 : plainName "Plateroomprinter$Path" = true := by decide +kernel
theorem hc_76 : Jvm.Cond.code (⟨"Plateroomprinter$Path", "clear", "()V"⟩ : MethodName) prog_8_method_2_code 1 none ∈ lw_tbl := (List.mem_of_getElem? (i := 446) (by decide +kernel))
theorem hd_76 : "Plateroomprinter$Path" ≠ "java/lang/invoke/MethodHandle" ∧ "Plateroomprinter$Path" ≠ "java/lang/invoke/VarHandle" ∧ (parseMethodDescriptor "()V").map (fun d => d.parameters.length) = some 0 := ⟨by decide +kernel, by decide +kernel, by decide +kernel⟩
theorem hi_76 : Jvm.Cond.initialized "Plateroomprinter$Path" ∈ lw_tbl := (List.mem_of_getElem? (i := 145) (by decide +kernel))
theorem hs_76 : Jvm.Cond.instanceMethod (⟨"Plateroomprinter$Path", "clear", "()V"⟩ : MethodName) ∈ lw_tbl := (List.mem_of_getElem? (i := 444) (by decide +kernel))
theorem hy_78 : e_ml[78]? = some ((⟨"Plateroomprinter$Raster", "<init>", "()V"⟩ : MethodName), prog_9_method_1_code, 1, none) := by decide +kernel
theorem hp_78 : plainName "Plateroomprinter$Raster" = true := by decide +kernel
theorem hc_78 : Jvm.Cond.code (⟨"Plateroomprinter$Raster", "<init>", "()V"⟩ : MethodName) prog_9_method_1_code 1 none ∈ lw_tbl := (List.mem_of_getElem? (i := 538) (by decide +kernel))
theorem hd_78 : "Plateroomprinter$Raster" ≠ "java/lang/invoke/MethodHandle" ∧ "Plateroomprinter$Raster" ≠ "java/lang/invoke/VarHandle" ∧ (parseMethodDescriptor "()V").map (fun d => d.parameters.length) = some 0 := ⟨by decide +kernel, by decide +kernel, by decide +kernel⟩
theorem hi_78 : Jvm.Cond.initialized "Plateroomprinter$Raster" ∈ lw_tbl := (List.mem_of_getElem? (i := 148) (by decide +kernel))
theorem hs_78 : Jvm.Cond.instanceMethod (⟨"Plateroomprinter$Raster", "<init>", "()V"⟩ : MethodName) ∈ lw_tbl := (List.mem_of_getElem? (i := 537) (by decide +kernel))
theorem hy_83 : e_ml[83]? = some ((⟨"Plateroomprinter$Sheet", "<init>", "()V"⟩ : MethodName), prog_10_method_1_code, 1, none) := by decide +kernel
theorem hp_83 : plainName "Plateroomprinter$Sheet" = true := by decide +kernel
theorem hc_83 : Jvm.Cond.code (⟨"Plateroomprinter$Sheet", "<init>", "()V"⟩ : MethodName) prog_10_method_1_code 1 none ∈ lw_tbl := (List.mem_of_getElem? (i := 379) (by decide +kernel))
theorem hd_83 : "Plateroomprinter$Sheet" ≠ "java/lang/invoke/MethodHandle" ∧ "Plateroomprinter$Sheet" ≠ "java/lang/invoke/VarHandle" ∧ (parseMethodDescriptor "()V").map (fun d => d.parameters.length) = some 0 := ⟨by decide +kernel, by decide +kernel, by decide +kernel⟩
theorem hi_83 : Jvm.Cond.initialized "Plateroomprinter$Sheet" ∈ lw_tbl := (List.mem_of_getElem? (i := 146) (by decide +kernel))
theorem hs_83 : Jvm.Cond.instanceMethod (⟨"Plateroomprinter$Sheet", "<init>", "()V"⟩ : MethodName) ∈ lw_tbl := (List.mem_of_getElem? (i := 378) (by decide +kernel))
theorem hy_85 : e_ml[85]? = some ((⟨"Plateroomprinter$Sheet", "clear", "()V"⟩ : MethodName), prog_10_method_2_code, 1, none) := by decide +kernel
theorem hp_85 : plainName "Plateroomprinter$Sheet" = true := by decide +kernel
theorem hc_85 : Jvm.Cond.code (⟨"Plateroomprinter$Sheet", "clear", "()V"⟩ : MethodName) prog_10_method_2_code 1 none ∈ lw_tbl := (List.mem_of_getElem? (i := 455) (by decide +kernel))
theorem hd_85 : "Plateroomprinter$Sheet" ≠ "java/lang/invoke/MethodHandle" ∧ "Plateroomprinter$Sheet" ≠ "java/lang/invoke/VarHandle" ∧ (parseMethodDescriptor "()V").map (fun d => d.parameters.length) = some 0 := ⟨by decide +kernel, by decide +kernel, by decide +kernel⟩
theorem hi_85 : Jvm.Cond.initialized "Plateroomprinter$Sheet" ∈ lw_tbl := (List.mem_of_getElem? (i := 146) (by decide +kernel))
theorem hs_85 : Jvm.Cond.instanceMethod (⟨"Plateroomprinter$Sheet", "clear", "()V"⟩ : MethodName) ∈ lw_tbl := (List.mem_of_getElem? (i := 453) (by decide +kernel))
theorem hy_89 : e_ml[89]? = some ((⟨"Plateroomprinter$State", "<init>", "()V"⟩ : MethodName), prog_11_method_1_code, 1, none) := by decide +kernel
theorem hp_89 : plainName "Plateroomprinter$State" = true := by decide +kernel
theorem hc_89 : Jvm.Cond.code (⟨"Plateroomprinter$State", "<init>", "()V"⟩ : MethodName) prog_11_method_1_code 1 none ∈ lw_tbl := (List.mem_of_getElem? (i := 253) (by decide +kernel))
theorem hd_89 : "Plateroomprinter$State" ≠ "java/lang/invoke/MethodHandle" ∧ "Plateroomprinter$State" ≠ "java/lang/invoke/VarHandle" ∧ (parseMethodDescriptor "()V").map (fun d => d.parameters.length) = some 0 := ⟨by decide +kernel, by decide +kernel, by decide +kernel⟩
theorem hi_89 : Jvm.Cond.initialized "Plateroomprinter$State" ∈ lw_tbl := (List.mem_of_getElem? (i := 143) (by decide +kernel))
theorem hs_89 : Jvm.Cond.instanceMethod (⟨"Plateroomprinter$State", "<init>", "()V"⟩ : MethodName) ∈ lw_tbl := (List.mem_of_getElem? (i := 252) (by decide +kernel))
theorem hy_90 : e_ml[90]? = some ((⟨"Plateroomprinter$State", "clear", "()V"⟩ : MethodName), prog_11_method_2_code, 2, none) := by decide +kernel
theorem hp_90 : plainName "Plateroomprinter$State" = true := by decide +kernel
theorem hc_90 : Jvm.Cond.code (⟨"Plateroomprinter$State", "clear", "()V"⟩ : MethodName) prog_11_method_2_code 2 none ∈ lw_tbl := (List.mem_of_getElem? (i := 434) (by decide +kernel))
theorem hd_90 : "Plateroomprinter$State" ≠ "java/lang/invoke/MethodHandle" ∧ "Plateroomprinter$State" ≠ "java/lang/invoke/VarHandle" ∧ (parseMethodDescriptor "()V").map (fun d => d.parameters.length) = some 0 := ⟨by decide +kernel, by decide +kernel, by decide +kernel⟩
theorem hi_90 : Jvm.Cond.initialized "Plateroomprinter$State" ∈ lw_tbl := (List.mem_of_getElem? (i := 143) (by decide +kernel))
theorem hs_90 : Jvm.Cond.instanceMethod (⟨"Plateroomprinter$State", "clear", "()V"⟩ : MethodName) ∈ lw_tbl := (List.mem_of_getElem? (i := 432) (by decide +kernel))
theorem hy_92 : e_ml[92]? = some ((⟨"Plateroomprinter$State", "forgetPath", "()V"⟩ : MethodName), prog_11_method_5_code, 1, none) := by decide +kernel
theorem hp_92 : plainName "Plateroomprinter$State" = true := by decide +kernel
theorem hc_92 : Jvm.Cond.code (⟨"Plateroomprinter$State", "forgetPath", "()V"⟩ : MethodName) prog_11_method_5_code 1 none ∈ lw_tbl := (List.mem_of_getElem? (i := 442) (by decide +kernel))
theorem hd_92 : "Plateroomprinter$State" ≠ "java/lang/invoke/MethodHandle" ∧ "Plateroomprinter$State" ≠ "java/lang/invoke/VarHandle" ∧ (parseMethodDescriptor "()V").map (fun d => d.parameters.length) = some 0 := ⟨by decide +kernel, by decide +kernel, by decide +kernel⟩
theorem hi_92 : Jvm.Cond.initialized "Plateroomprinter$State" ∈ lw_tbl := (List.mem_of_getElem? (i := 143) (by decide +kernel))
theorem hs_92 : Jvm.Cond.instanceMethod (⟨"Plateroomprinter$State", "forgetPath", "()V"⟩ : MethodName) ∈ lw_tbl := (List.mem_of_getElem? (i := 440) (by decide +kernel))
theorem hy_93 : e_ml[93]? = some ((⟨"Plateroomprinter$State", "openClip", "()V"⟩ : MethodName), prog_11_method_4_code, 2, none) := by decide +kernel
theorem hp_93 : plainName "Plateroomprinter$State" = true := by decide +kernel
theorem hc_93 : Jvm.Cond.code (⟨"Plateroomprinter$State", "openClip", "()V"⟩ : MethodName) prog_11_method_4_code 2 none ∈ lw_tbl := (List.mem_of_getElem? (i := 450) (by decide +kernel))
theorem hd_93 : "Plateroomprinter$State" ≠ "java/lang/invoke/MethodHandle" ∧ "Plateroomprinter$State" ≠ "java/lang/invoke/VarHandle" ∧ (parseMethodDescriptor "()V").map (fun d => d.parameters.length) = some 0 := ⟨by decide +kernel, by decide +kernel, by decide +kernel⟩
theorem hi_93 : Jvm.Cond.initialized "Plateroomprinter$State" ∈ lw_tbl := (List.mem_of_getElem? (i := 143) (by decide +kernel))
theorem hs_93 : Jvm.Cond.instanceMethod (⟨"Plateroomprinter$State", "openClip", "()V"⟩ : MethodName) ∈ lw_tbl := (List.mem_of_getElem? (i := 448) (by decide +kernel))
theorem hy_94 : e_ml[94]? = some ((⟨"Plateroomprinter$World", "<init>", "()V"⟩ : MethodName), prog_12_method_1_code, 2, none) := by decide +kernel
theorem hp_94 : plainName "Plateroomprinter$World" = true := by decide +kernel
theorem hc_94 : Jvm.Cond.code (⟨"Plateroomprinter$World", "<init>", "()V"⟩ : MethodName) prog_12_method_1_code 2 none ∈ lw_tbl := (List.mem_of_getElem? (i := 220) (by decide +kernel))
theorem hd_94 : "Plateroomprinter$World" ≠ "java/lang/invoke/MethodHandle" ∧ "Plateroomprinter$World" ≠ "java/lang/invoke/VarHandle" ∧ (parseMethodDescriptor "()V").map (fun d => d.parameters.length) = some 0 := ⟨by decide +kernel, by decide +kernel, by decide +kernel⟩
theorem hi_94 : Jvm.Cond.initialized "Plateroomprinter$World" ∈ lw_tbl := (List.mem_of_getElem? (i := 140) (by decide +kernel))
theorem hs_94 : Jvm.Cond.instanceMethod (⟨"Plateroomprinter$World", "<init>", "()V"⟩ : MethodName) ∈ lw_tbl := (List.mem_of_getElem? (i := 219) (by decide +kernel))
theorem hy_95 : e_ml[95]? = some ((⟨"Plateroomprinter$World", "clear", "()V"⟩ : MethodName), prog_12_method_2_code, 2, none) := by decide +kernel
theorem hp_95 : plainName "Plateroomprinter$World" = true := by decide +kernel
theorem hc_95 : Jvm.Cond.code (⟨"Plateroomprinter$World", "clear", "()V"⟩ : MethodName) prog_12_method_2_code 2 none ∈ lw_tbl := (List.mem_of_getElem? (i := 419) (by decide +kernel))
theorem hd_95 : "Plateroomprinter$World" ≠ "java/lang/invoke/MethodHandle" ∧ "Plateroomprinter$World" ≠ "java/lang/invoke/VarHandle" ∧ (parseMethodDescriptor "()V").map (fun d => d.parameters.length) = some 0 := ⟨by decide +kernel, by decide +kernel, by decide +kernel⟩
theorem hi_95 : Jvm.Cond.initialized "Plateroomprinter$World" ∈ lw_tbl := (List.mem_of_getElem? (i := 140) (by decide +kernel))
theorem hs_95 : Jvm.Cond.instanceMethod (⟨"Plateroomprinter$World", "clear", "()V"⟩ : MethodName) ∈ lw_tbl := (List.mem_of_getElem? (i := 417) (by decide +kernel))
theorem hy_123 : e_ml[123]? = some ((⟨"PlateroomprinterModel", "<init>", "()V"⟩ : MethodName), prog_14_method_1_code, 1, none) := by decide +kernel
theorem hp_123 : plainName "PlateroomprinterModel" = true := by decide +kernel
theorem hc_123 : Jvm.Cond.code (⟨"PlateroomprinterModel", "<init>", "()V"⟩ : MethodName) prog_14_method_1_code 1 none ∈ lw_tbl := (List.mem_of_getElem? (i := 1742) (by decide +kernel))
theorem hd_123 : "PlateroomprinterModel" ≠ "java/lang/invoke/MethodHandle" ∧ "PlateroomprinterModel" ≠ "java/lang/invoke/VarHandle" ∧ (parseMethodDescriptor "()V").map (fun d => d.parameters.length) = some 0 := ⟨by decide +kernel, by decide +kernel, by decide +kernel⟩
theorem hi_123 : Jvm.Cond.initialized "PlateroomprinterModel" ∈ lw_tbl := (List.mem_of_getElem? (i := 151) (by decide +kernel))
theorem hs_123 : Jvm.Cond.instanceMethod (⟨"PlateroomprinterModel", "<init>", "()V"⟩ : MethodName) ∈ lw_tbl := (List.mem_of_getElem? (i := 1741) (by decide +kernel))
theorem hy_189 : e_ml[189]? = some ((⟨"PlateroomprinterModel$Machine", "<init>", "()V"⟩ : MethodName), prog_17_method_1_code, 2, none) := by decide +kernel
theorem hp_189 : plainName "PlateroomprinterModel$Machine" = true := by decide +kernel
theorem hc_189 : Jvm.Cond.code (⟨"PlateroomprinterModel$Machine", "<init>", "()V"⟩ : MethodName) prog_17_method_1_code 2 none ∈ lw_tbl := (List.mem_of_getElem? (i := 1748) (by decide +kernel))
theorem hd_189 : "PlateroomprinterModel$Machine" ≠ "java/lang/invoke/MethodHandle" ∧ "PlateroomprinterModel$Machine" ≠ "java/lang/invoke/VarHandle" ∧ (parseMethodDescriptor "()V").map (fun d => d.parameters.length) = some 0 := ⟨by decide +kernel, by decide +kernel, by decide +kernel⟩
theorem hi_189 : Jvm.Cond.initialized "PlateroomprinterModel$Machine" ∈ lw_tbl := (List.mem_of_getElem? (i := 152) (by decide +kernel))
theorem hs_189 : Jvm.Cond.instanceMethod (⟨"PlateroomprinterModel$Machine", "<init>", "()V"⟩ : MethodName) ∈ lw_tbl := (List.mem_of_getElem? (i := 1747) (by decide +kernel))
theorem hy_198 : e_ml[198]? = some ((⟨"PlateroomprinterModel$State", "<init>", "()V"⟩ : MethodName), prog_21_method_1_code, 2, none) := by decide +kernel
theorem hp_198 : plainName "PlateroomprinterModel$State" = true := by decide +kernel
theorem hc_198 : Jvm.Cond.code (⟨"PlateroomprinterModel$State", "<init>", "()V"⟩ : MethodName) prog_21_method_1_code 2 none ∈ lw_tbl := (List.mem_of_getElem? (i := 1785) (by decide +kernel))
theorem hd_198 : "PlateroomprinterModel$State" ≠ "java/lang/invoke/MethodHandle" ∧ "PlateroomprinterModel$State" ≠ "java/lang/invoke/VarHandle" ∧ (parseMethodDescriptor "()V").map (fun d => d.parameters.length) = some 0 := ⟨by decide +kernel, by decide +kernel, by decide +kernel⟩
theorem hi_198 : Jvm.Cond.initialized "PlateroomprinterModel$State" ∈ lw_tbl := (List.mem_of_getElem? (i := 156) (by decide +kernel))
theorem hs_198 : Jvm.Cond.instanceMethod (⟨"PlateroomprinterModel$State", "<init>", "()V"⟩ : MethodName) ∈ lw_tbl := (List.mem_of_getElem? (i := 1784) (by decide +kernel))
theorem hy_205 : e_ml[205]? = some ((⟨"java/util/AbstractCollection", "<init>", "()V"⟩ : MethodName), prog_48_method_1_code, 1, none) := by decide +kernel
theorem hp_205 : plainName "java/util/AbstractCollection" = true := by decide +kernel
theorem hc_205 : Jvm.Cond.code (⟨"java/util/AbstractCollection", "<init>", "()V"⟩ : MethodName) prog_48_method_1_code 1 none ∈ lw_tbl := (List.mem_of_getElem? (i := 1760) (by decide +kernel))
theorem hd_205 : "java/util/AbstractCollection" ≠ "java/lang/invoke/MethodHandle" ∧ "java/util/AbstractCollection" ≠ "java/lang/invoke/VarHandle" ∧ (parseMethodDescriptor "()V").map (fun d => d.parameters.length) = some 0 := ⟨by decide +kernel, by decide +kernel, by decide +kernel⟩
theorem hi_205 : Jvm.Cond.initialized "java/util/AbstractCollection" ∈ lw_tbl := (List.mem_of_getElem? (i := 153) (by decide +kernel))
theorem hs_205 : Jvm.Cond.instanceMethod (⟨"java/util/AbstractCollection", "<init>", "()V"⟩ : MethodName) ∈ lw_tbl := (List.mem_of_getElem? (i := 1759) (by decide +kernel))
theorem hy_206 : e_ml[206]? = some ((⟨"java/util/AbstractList", "<init>", "()V"⟩ : MethodName), prog_49_method_1_code, 1, none) := by decide +kernel
theorem hp_206 : plainName "java/util/AbstractList" = true := by decide +kernel
theorem hc_206 : Jvm.Cond.code (⟨"java/util/AbstractList", "<init>", "()V"⟩ : MethodName) prog_49_method_1_code 1 none ∈ lw_tbl := (List.mem_of_getElem? (i := 1757) (by decide +kernel))
theorem hd_206 : "java/util/AbstractList" ≠ "java/lang/invoke/MethodHandle" ∧ "java/util/AbstractList" ≠ "java/lang/invoke/VarHandle" ∧ (parseMethodDescriptor "()V").map (fun d => d.parameters.length) = some 0 := ⟨by decide +kernel, by decide +kernel, by decide +kernel⟩
theorem hi_206 : Jvm.Cond.initialized "java/util/AbstractList" ∈ lw_tbl := (List.mem_of_getElem? (i := 154) (by decide +kernel))
theorem hs_206 : Jvm.Cond.instanceMethod (⟨"java/util/AbstractList", "<init>", "()V"⟩ : MethodName) ∈ lw_tbl := (List.mem_of_getElem? (i := 1756) (by decide +kernel))
theorem hy_207 : e_ml[207]? = some ((⟨"java/util/ArrayList", "<init>", "()V"⟩ : MethodName), prog_50_method_2_code, 1, none) := by decide +kernel
theorem hp_207 : plainName "java/util/ArrayList" = true := by decide +kernel
theorem hc_207 : Jvm.Cond.code (⟨"java/util/ArrayList", "<init>", "()V"⟩ : MethodName) prog_50_method_2_code 1 none ∈ lw_tbl := (List.mem_of_getElem? (i := 1754) (by decide +kernel))
theorem hd_207 : "java/util/ArrayList" ≠ "java/lang/invoke/MethodHandle" ∧ "java/util/ArrayList" ≠ "java/lang/invoke/VarHandle" ∧ (parseMethodDescriptor "()V").map (fun d => d.parameters.length) = some 0 := ⟨by decide +kernel, by decide +kernel, by decide +kernel⟩
theorem hi_207 : Jvm.Cond.initialized "java/util/ArrayList" ∈ lw_tbl := (List.mem_of_getElem? (i := 155) (by decide +kernel))
theorem hs_207 : Jvm.Cond.instanceMethod (⟨"java/util/ArrayList", "<init>", "()V"⟩ : MethodName) ∈ lw_tbl := (List.mem_of_getElem? (i := 1753) (by decide +kernel))
theorem hy_208 : e_ml[208]? = some ((⟨"java/util/ArrayList", "add", "(Ljava/lang/Object;)Z"⟩ : MethodName), prog_50_method_25_code, 2, (some .boolean)) := by decide +kernel
theorem hp_208 : plainName "java/util/ArrayList" = true := by decide +kernel
theorem hc_208 : Jvm.Cond.code (⟨"java/util/ArrayList", "add", "(Ljava/lang/Object;)Z"⟩ : MethodName) prog_50_method_25_code 2 (some .boolean) ∈ lw_tbl := (List.mem_of_getElem? (i := 1823) (by decide +kernel))
theorem hd_208 : "java/util/ArrayList" ≠ "java/lang/invoke/MethodHandle" ∧ "java/util/ArrayList" ≠ "java/lang/invoke/VarHandle" ∧ (parseMethodDescriptor "(Ljava/lang/Object;)Z").map (fun d => d.parameters.length) = some 1 := ⟨by decide +kernel, by decide +kernel, by decide +kernel⟩
theorem hi_208 : Jvm.Cond.initialized "java/util/ArrayList" ∈ lw_tbl := (List.mem_of_getElem? (i := 155) (by decide +kernel))
theorem hs_208 : Jvm.Cond.instanceMethod (⟨"java/util/ArrayList", "add", "(Ljava/lang/Object;)Z"⟩ : MethodName) ∈ lw_tbl := (List.mem_of_getElem? (i := 1821) (by decide +kernel))
theorem hy_209 : e_ml[209]? = some ((⟨"java/util/ArrayList", "add", "(Ljava/lang/Object;[Ljava/lang/Object;I)V"⟩ : MethodName), prog_50_method_24_code, 4, none) := by decide +kernel
theorem hp_209 : plainName "java/util/ArrayList" = true := by decide +kernel
theorem hc_209 : Jvm.Cond.code (⟨"java/util/ArrayList", "add", "(Ljava/lang/Object;[Ljava/lang/Object;I)V"⟩ : MethodName) prog_50_method_24_code 4 none ∈ lw_tbl := (List.mem_of_getElem? (i := 1827) (by decide +kernel))
theorem hd_209 : "java/util/ArrayList" ≠ "java/lang/invoke/MethodHandle" ∧ "java/util/ArrayList" ≠ "java/lang/invoke/VarHandle" ∧ (parseMethodDescriptor "(Ljava/lang/Object;[Ljava/lang/Object;I)V").map (fun d => d.parameters.length) = some 3 := ⟨by decide +kernel, by decide +kernel, by decide +kernel⟩
theorem hi_209 : Jvm.Cond.initialized "java/util/ArrayList" ∈ lw_tbl := (List.mem_of_getElem? (i := 155) (by decide +kernel))
theorem hs_209 : Jvm.Cond.instanceMethod (⟨"java/util/ArrayList", "add", "(Ljava/lang/Object;[Ljava/lang/Object;I)V"⟩ : MethodName) ∈ lw_tbl := (List.mem_of_getElem? (i := 1826) (by decide +kernel))
theorem hy_213 : e_ml[213]? = some ((⟨"java/util/ArrayList", "grow", "()[Ljava/lang/Object;"⟩ : MethodName), prog_50_method_7_code, 1, (some (.array (.object "java/lang/Object")))) := by decide +kernel
theorem hp_213 : plainName "java/util/ArrayList" = true := by decide +kernel
theorem hc_213 : Jvm.Cond.code (⟨"java/util/ArrayList", "grow", "()[Ljava/lang/Object;"⟩ : MethodName) prog_50_method_7_code 1 (some (.array (.object "java/lang/Object"))) ∈ lw_tbl := (List.mem_of_getElem? (i := 1831) (by decide +kernel))
theorem hd_213 : "java/util/ArrayList" ≠ "java/lang/invoke/MethodHandle" ∧ "java/util/ArrayList" ≠ "java/lang/invoke/VarHandle" ∧ (parseMethodDescriptor "()[Ljava/lang/Object;").map (fun d => d.parameters.length) = some 0 := ⟨by decide +kernel, by decide +kernel, by decide +kernel⟩
theorem hi_213 : Jvm.Cond.initialized "java/util/ArrayList" ∈ lw_tbl := (List.mem_of_getElem? (i := 155) (by decide +kernel))
theorem hs_213 : Jvm.Cond.instanceMethod (⟨"java/util/ArrayList", "grow", "()[Ljava/lang/Object;"⟩ : MethodName) ∈ lw_tbl := (List.mem_of_getElem? (i := 1830) (by decide +kernel))
theorem hy_214 : e_ml[214]? = some ((⟨"java/util/ArrayList", "grow", "(I)[Ljava/lang/Object;"⟩ : MethodName), prog_50_method_6_code, 4, (some (.array (.object "java/lang/Object")))) := by decide +kernel
theorem hp_214 : plainName "java/util/ArrayList" = true := by decide +kernel
theorem hc_214 : Jvm.Cond.code (⟨"java/util/ArrayList", "grow", "(I)[Ljava/lang/Object;"⟩ : MethodName) prog_50_method_6_code 4 (some (.array (.object "java/lang/Object"))) ∈ lw_tbl := (List.mem_of_getElem? (i := 1835) (by decide +kernel))
theorem hd_214 : "java/util/ArrayList" ≠ "java/lang/invoke/MethodHandle" ∧ "java/util/ArrayList" ≠ "java/lang/invoke/VarHandle" ∧ (parseMethodDescriptor "(I)[Ljava/lang/Object;").map (fun d => d.parameters.length) = some 1 := ⟨by decide +kernel, by decide +kernel, by decide +kernel⟩
theorem hi_214 : Jvm.Cond.initialized "java/util/ArrayList" ∈ lw_tbl := (List.mem_of_getElem? (i := 155) (by decide +kernel))
theorem hs_214 : Jvm.Cond.instanceMethod (⟨"java/util/ArrayList", "grow", "(I)[Ljava/lang/Object;"⟩ : MethodName) ∈ lw_tbl := (List.mem_of_getElem? (i := 1834) (by decide +kernel))
end SN
