/-! TABLES, by program -/
section SN
theorem hq_215 : (e_ml[215]?).map (·.2.1) = some prog_33_method_49_code := rfl
theorem ho_215 : (e_ml[215]?).map (·.1.cls) = some "java/lang/Integer" := rfl
theorem hr_215 : (e_ml[215]?).map (·.2.2.2) = some (some .int) := rfl
noncomputable def n_215_52 : e_Y := u_retI
theorem t_215_52 : e_Sn 215 52 (e_un n_215_52) := u_retIT (s_iret hq_215 hr_215 (by decide +kernel) : e_Sn 215 52 (o_ret e_okI))
noncomputable def n_215_51 : e_Y := u_bin a_iand (u_old (o_bin Nat.land 52) n_215_52) n_215_52
theorem t_215_51 : e_Sn 215 51 (e_un n_215_51) := u_iandT (s_iand hq_215 (by decide +kernel) rfl : e_Sn 215 51 (o_bin Nat.land 52)) t_215_52
noncomputable def n_215_49 : e_Y := u_push (.inl 2147483711) n_215_51
theorem t_215_49 : e_Sn 215 49 (e_un n_215_49) := u_pushT (s_bipush (n := (63)) hq_215 (by decide +kernel) rfl ⟨by decide +kernel, by decide +kernel⟩ : e_Sn 215 49 (o_push (.inl 2147483711) 51)) t_215_51
noncomputable def n_215_48 : e_Y := u_ld f_okI f_l0 n_215_49
theorem t_215_48 : e_Sn 215 48 (e_un n_215_48) := u_ldIT f_l0_eq (s_iload (i := .iload_n 0) (len := 1) hq_215 (by decide +kernel) rfl (.inr ⟨0, rfl, rfl, rfl⟩) : e_Sn 215 48 (o_load e_okI 0 49)) t_215_49
noncomputable def n_215_47 : e_Y := u_st f_okI f_s0 n_215_48
theorem t_215_47 : e_Sn 215 47 (e_un n_215_47) := u_stIT (fun _ _ _ => f_s0_eq) (s_istore (i := .istore_n 0) (len := 1) hq_215 (by decide +kernel) rfl (.inr ⟨0, rfl, rfl, rfl⟩) : e_Sn 215 47 (o_store e_okI 0 48)) t_215_48
noncomputable def n_215_46 : e_Y := u_bin a_iadd (u_old (o_iadd 47) n_215_47) n_215_47
theorem t_215_46 : e_Sn 215 46 (e_un n_215_46) := u_iaddT (s_iadd hq_215 (by decide +kernel) rfl : e_Sn 215 46 (o_iadd 47)) t_215_47
noncomputable def n_215_45 : e_Y := u_bin a_iushr (u_old (o_iushr 46) n_215_46) n_215_46
theorem t_215_45 : e_Sn 215 45 (e_un n_215_45) := u_iushrT (s_iushr hq_215 (by decide +kernel) rfl : e_Sn 215 45 (o_iushr 46)) t_215_46
noncomputable def n_215_43 : e_Y := u_push (.inl 2147483664) n_215_45
theorem t_215_43 : e_Sn 215 43 (e_un n_215_43) := u_pushT (s_bipush (n := (16)) hq_215 (by decide +kernel) rfl ⟨by decide +kernel, by decide +kernel⟩ : e_Sn 215 43 (o_push (.inl 2147483664) 45)) t_215_45
noncomputable def n_215_42 : e_Y := u_ld f_okI f_l0 n_215_43
theorem t_215_42 : e_Sn 215 42 (e_un n_215_42) := u_ldIT f_l0_eq (s_iload (i := .iload_n 0) (len := 1) hq_215 (by decide +kernel) rfl (.inr ⟨0, rfl, rfl, rfl⟩) : e_Sn 215 42 (o_load e_okI 0 43)) t_215_43
noncomputable def n_215_41 : e_Y := u_ld f_okI f_l0 n_215_42
theorem t_215_41 : e_Sn 215 41 (e_un n_215_41) := u_ldIT f_l0_eq (s_iload (i := .iload_n 0) (len := 1) hq_215 (by decide +kernel) rfl (.inr ⟨0, rfl, rfl, rfl⟩) : e_Sn 215 41 (o_load e_okI 0 42)) t_215_42
noncomputable def n_215_40 : e_Y := u_st f_okI f_s0 n_215_41
theorem t_215_40 : e_Sn 215 40 (e_un n_215_40) := u_stIT (fun _ _ _ => f_s0_eq) (s_istore (i := .istore_n 0) (len := 1) hq_215 (by decide +kernel) rfl (.inr ⟨0, rfl, rfl, rfl⟩) : e_Sn 215 40 (o_store e_okI 0 41)) t_215_41
noncomputable def n_215_39 : e_Y := u_bin a_iadd (u_old (o_iadd 40) n_215_40) n_215_40
theorem t_215_39 : e_Sn 215 39 (e_un n_215_39) := u_iaddT (s_iadd hq_215 (by decide +kernel) rfl : e_Sn 215 39 (o_iadd 40)) t_215_40
noncomputable def n_215_38 : e_Y := u_bin a_iushr (u_old (o_iushr 39) n_215_39) n_215_39
theorem t_215_38 : e_Sn 215 38 (e_un n_215_38) := u_iushrT (s_iushr hq_215 (by decide +kernel) rfl : e_Sn 215 38 (o_iushr 39)) t_215_39
noncomputable def n_215_36 : e_Y := u_push (.inl 2147483656) n_215_38
theorem t_215_36 : e_Sn 215 36 (e_un n_215_36) := u_pushT (s_bipush (n := (8)) hq_215 (by decide +kernel) rfl ⟨by decide +kernel, by decide +kernel⟩ : e_Sn 215 36 (o_push (.inl 2147483656) 38)) t_215_38
noncomputable def n_215_35 : e_Y := u_ld f_okI f_l0 n_215_36
theorem t_215_35 : e_Sn 215 35 (e_un n_215_35) := u_ldIT f_l0_eq (s_iload (i := .iload_n 0) (len := 1) hq_215 (by decide +kernel) rfl (.inr ⟨0, rfl, rfl, rfl⟩) : e_Sn 215 35 (o_load e_okI 0 36)) t_215_36
noncomputable def n_215_34 : e_Y := u_ld f_okI f_l0 n_215_35
theorem t_215_34 : e_Sn 215 34 (e_un n_215_34) := u_ldIT f_l0_eq (s_iload (i := .iload_n 0) (len := 1) hq_215 (by decide +kernel) rfl (.inr ⟨0, rfl, rfl, rfl⟩) : e_Sn 215 34 (o_load e_okI 0 35)) t_215_35
noncomputable def n_215_33 : e_Y := u_st f_okI f_s0 n_215_34
theorem t_215_33 : e_Sn 215 33 (e_un n_215_33) := u_stIT (fun _ _ _ => f_s0_eq) (s_istore (i := .istore_n 0) (len := 1) hq_215 (by decide +kernel) rfl (.inr ⟨0, rfl, rfl, rfl⟩) : e_Sn 215 33 (o_store e_okI 0 34)) t_215_34
noncomputable def n_215_32 : e_Y := u_bin a_iand (u_old (o_bin Nat.land 33) n_215_33) n_215_33
theorem t_215_32 : e_Sn 215 32 (e_un n_215_32) := u_iandT (s_iand hq_215 (by decide +kernel) rfl : e_Sn 215 32 (o_bin Nat.land 33)) t_215_33
noncomputable def n_215_29 : e_Y := u_push (e_I 2400128783) n_215_32
theorem t_215_29 : e_Sn 215 29 (e_un n_215_29) := u_pushT (s_ldcw (index := 267) (v := (252645135)) hq_215 ho_215 (List.mem_of_getElem? (i := 1090) (by decide +kernel)) (by decide +kernel) rfl ⟨by decide +kernel, by decide +kernel⟩ : e_Sn 215 29 (o_push (e_I 2400128783) 32)) t_215_32
noncomputable def n_215_28 : e_Y := u_bin a_iadd (u_old (o_iadd 29) n_215_29) n_215_29
theorem t_215_28 : e_Sn 215 28 (e_un n_215_28) := u_iaddT (s_iadd hq_215 (by decide +kernel) rfl : e_Sn 215 28 (o_iadd 29)) t_215_29
noncomputable def n_215_27 : e_Y := u_bin a_iushr (u_old (o_iushr 28) n_215_28) n_215_28
theorem t_215_27 : e_Sn 215 27 (e_un n_215_27) := u_iushrT (s_iushr hq_215 (by decide +kernel) rfl : e_Sn 215 27 (o_iushr 28)) t_215_28
noncomputable def n_215_26 : e_Y := u_push (.inl 2147483652) n_215_27
theorem t_215_26 : e_Sn 215 26 (e_un n_215_26) := u_pushT (s_iconst (n := (4)) hq_215 (by decide +kernel) rfl ⟨by decide +kernel, by decide +kernel⟩ : e_Sn 215 26 (o_push (.inl 2147483652) 27)) t_215_27
noncomputable def n_215_25 : e_Y := u_ld f_okI f_l0 n_215_26
theorem t_215_25 : e_Sn 215 25 (e_un n_215_25) := u_ldIT f_l0_eq (s_iload (i := .iload_n 0) (len := 1) hq_215 (by decide +kernel) rfl (.inr ⟨0, rfl, rfl, rfl⟩) : e_Sn 215 25 (o_load e_okI 0 26)) t_215_26
noncomputable def n_215_24 : e_Y := u_ld f_okI f_l0 n_215_25
theorem t_215_24 : e_Sn 215 24 (e_un n_215_24) := u_ldIT f_l0_eq (s_iload (i := .iload_n 0) (len := 1) hq_215 (by decide +kernel) rfl (.inr ⟨0, rfl, rfl, rfl⟩) : e_Sn 215 24 (o_load e_okI 0 25)) t_215_25
noncomputable def n_215_23 : e_Y := u_st f_okI f_s0 n_215_24
theorem t_215_23 : e_Sn 215 23 (e_un n_215_23) := u_stIT (fun _ _ _ => f_s0_eq) (s_istore (i := .istore_n 0) (len := 1) hq_215 (by decide +kernel) rfl (.inr ⟨0, rfl, rfl, rfl⟩) : e_Sn 215 23 (o_store e_okI 0 24)) t_215_24
noncomputable def n_215_22 : e_Y := u_bin a_iadd (u_old (o_iadd 23) n_215_23) n_215_23
theorem t_215_22 : e_Sn 215 22 (e_un n_215_22) := u_iaddT (s_iadd hq_215 (by decide +kernel) rfl : e_Sn 215 22 (o_iadd 23)) t_215_23
noncomputable def n_215_21 : e_Y := u_bin a_iand (u_old (o_bin Nat.land 22) n_215_22) n_215_22
theorem t_215_21 : e_Sn 215 21 (e_un n_215_21) := u_iandT (s_iand hq_215 (by decide +kernel) rfl : e_Sn 215 21 (o_bin Nat.land 22)) t_215_22
noncomputable def n_215_18 : e_Y := u_push (e_I 3006477107) n_215_21
theorem t_215_18 : e_Sn 215 18 (e_un n_215_18) := u_pushT (s_ldcw (index := 266) (v := (858993459)) hq_215 ho_215 (List.mem_of_getElem? (i := 1089) (by decide +kernel)) (by decide +kernel) rfl ⟨by decide +kernel, by decide +kernel⟩ : e_Sn 215 18 (o_push (e_I 3006477107) 21)) t_215_21
noncomputable def n_215_17 : e_Y := u_bin a_iushr (u_old (o_iushr 18) n_215_18) n_215_18
theorem t_215_17 : e_Sn 215 17 (e_un n_215_17) := u_iushrT (s_iushr hq_215 (by decide +kernel) rfl : e_Sn 215 17 (o_iushr 18)) t_215_18
noncomputable def n_215_16 : e_Y := u_push (.inl 2147483650) n_215_17
theorem t_215_16 : e_Sn 215 16 (e_un n_215_16) := u_pushT (s_iconst (n := (2)) hq_215 (by decide +kernel) rfl ⟨by decide +kernel, by decide +kernel⟩ : e_Sn 215 16 (o_push (.inl 2147483650) 17)) t_215_17
noncomputable def n_215_15 : e_Y := u_ld f_okI f_l0 n_215_16
theorem t_215_15 : e_Sn 215 15 (e_un n_215_15) := u_ldIT f_l0_eq (s_iload (i := .iload_n 0) (len := 1) hq_215 (by decide +kernel) rfl (.inr ⟨0, rfl, rfl, rfl⟩) : e_Sn 215 15 (o_load e_okI 0 16)) t_215_16
noncomputable def n_215_14 : e_Y := u_bin a_iand (u_old (o_bin Nat.land 15) n_215_15) n_215_15
theorem t_215_14 : e_Sn 215 14 (e_un n_215_14) := u_iandT (s_iand hq_215 (by decide +kernel) rfl : e_Sn 215 14 (o_bin Nat.land 15)) t_215_15
noncomputable def n_215_11 : e_Y := u_push (e_I 3006477107) n_215_14
theorem t_215_11 : e_Sn 215 11 (e_un n_215_11) := u_pushT (s_ldcw (index := 266) (v := (858993459)) hq_215 ho_215 (List.mem_of_getElem? (i := 1089) (by decide +kernel)) (by decide +kernel) rfl ⟨by decide +kernel, by decide +kernel⟩ : e_Sn 215 11 (o_push (e_I 3006477107) 14)) t_215_14
noncomputable def n_215_10 : e_Y := u_ld f_okI f_l0 n_215_11
theorem t_215_10 : e_Sn 215 10 (e_un n_215_10) := u_ldIT f_l0_eq (s_iload (i := .iload_n 0) (len := 1) hq_215 (by decide +kernel) rfl (.inr ⟨0, rfl, rfl, rfl⟩) : e_Sn 215 10 (o_load e_okI 0 11)) t_215_11
noncomputable def n_215_9 : e_Y := u_st f_okI f_s0 n_215_10
theorem t_215_9 : e_Sn 215 9 (e_un n_215_9) := u_stIT (fun _ _ _ => f_s0_eq) (s_istore (i := .istore_n 0) (len := 1) hq_215 (by decide +kernel) rfl (.inr ⟨0, rfl, rfl, rfl⟩) : e_Sn 215 9 (o_store e_okI 0 10)) t_215_10
noncomputable def n_215_8 : e_Y := u_bin a_isub (u_old (o_isub 9) n_215_9) n_215_9
theorem t_215_8 : e_Sn 215 8 (e_un n_215_8) := u_isubT (s_isub hq_215 (by decide +kernel) rfl : e_Sn 215 8 (o_isub 9)) t_215_9
noncomputable def n_215_7 : e_Y := u_bin a_iand (u_old (o_bin Nat.land 8) n_215_8) n_215_8
theorem t_215_7 : e_Sn 215 7 (e_un n_215_7) := u_iandT (s_iand hq_215 (by decide +kernel) rfl : e_Sn 215 7 (o_bin Nat.land 8)) t_215_8
noncomputable def n_215_4 : e_Y := u_push (e_I 3579139413) n_215_7
theorem t_215_4 : e_Sn 215 4 (e_un n_215_4) := u_pushT (s_ldcw (index := 265) (v := (1431655765)) hq_215 ho_215 (List.mem_of_getElem? (i := 1088) (by decide +kernel)) (by decide +kernel) rfl ⟨by decide +kernel, by decide +kernel⟩ : e_Sn 215 4 (o_push (e_I 3579139413) 7)) t_215_7
noncomputable def n_215_3 : e_Y := u_bin a_iushr (u_old (o_iushr 4) n_215_4) n_215_4
theorem t_215_3 : e_Sn 215 3 (e_un n_215_3) := u_iushrT (s_iushr hq_215 (by decide +kernel) rfl : e_Sn 215 3 (o_iushr 4)) t_215_4
noncomputable def n_215_2 : e_Y := u_push (.inl 2147483649) n_215_3
theorem t_215_2 : e_Sn 215 2 (e_un n_215_2) := u_pushT (s_iconst (n := (1)) hq_215 (by decide +kernel) rfl ⟨by decide +kernel, by decide +kernel⟩ : e_Sn 215 2 (o_push (.inl 2147483649) 3)) t_215_3
noncomputable def n_215_1 : e_Y := u_ld f_okI f_l0 n_215_2
theorem t_215_1 : e_Sn 215 1 (e_un n_215_1) := u_ldIT f_l0_eq (s_iload (i := .iload_n 0) (len := 1) hq_215 (by decide +kernel) rfl (.inr ⟨0, rfl, rfl, rfl⟩) : e_Sn 215 1 (o_load e_okI 0 2)) t_215_2
noncomputable def n_215_0 : e_Y := u_ld f_okI f_l0 n_215_1
theorem t_215_0 : e_Sn 215 0 (e_un n_215_0) := u_ldIT f_l0_eq (s_iload (i := .iload_n 0) (len := 1) hq_215 (by decide +kernel) rfl (.inr ⟨0, rfl, rfl, rfl⟩) : e_Sn 215 0 (o_load e_okI 0 1)) t_215_1
noncomputable def e_tb_215 : e_X := (e_lf 0 (e_un n_215_0))
theorem e_tk_215 : e_Tb 215 e_tb_215 := (e_lfT t_215_0)
theorem hq_3 : (e_ml[3]?).map (·.2.1) = some prog_1_method_37_code := rfl
theorem ho_3 : (e_ml[3]?).map (·.1.cls) = some "Plateroomprinter" := rfl
theorem hr_3 : (e_ml[3]?).map (·.2.2.2) = some (some .int) := rfl
noncomputable def n_3_40 : e_Y := u_retI
theorem t_3_40 : e_Sn 3 40 (e_un n_3_40) := u_retIT (s_iret hq_3 hr_3 (by decide +kernel) : e_Sn 3 40 (o_ret e_okI))
noncomputable def n_3_39 : e_Y := u_ld f_okI f_l2 n_3_40
theorem t_3_39 : e_Sn 3 39 (e_un n_3_39) := u_ldIT f_l2_eq (s_iload (i := .iload_n 2) (len := 1) hq_3 (by decide +kernel) rfl (.inr ⟨2, rfl, rfl, rfl⟩) : e_Sn 3 39 (o_load e_okI 2 40)) t_3_40
noncomputable def n_3_36 : e_Y := (u_at 4)
theorem t_3_36 : e_Sn 3 36 (e_un n_3_36) := u_gotoT (s_goto (off := (-32)) hq_3 (by decide +kernel) rfl : e_Sn 3 36 (o_goto 4)) u_atT
noncomputable def n_3_33 : e_Y := u_inc f_l3 f_s3 1 n_3_36
theorem t_3_33 : e_Sn 3 33 (e_un n_3_33) := u_incT f_l3_eq (fun _ _ _ => f_s3_eq) (s_iinc (zz := (1)) hq_3 (by decide +kernel) rfl (by decide +kernel) ⟨by decide, by decide⟩ : e_Sn 3 33 (o_iinc 3 1 36)) t_3_36
noncomputable def n_3_32 : e_Y := u_st f_okI f_s2 n_3_33
theorem t_3_32 : e_Sn 3 32 (e_un n_3_32) := u_stIT (fun _ _ _ => f_s2_eq) (s_istore (i := .istore_n 2) (len := 1) hq_3 (by decide +kernel) rfl (.inr ⟨2, rfl, rfl, rfl⟩) : e_Sn 3 32 (o_store e_okI 2 33)) t_3_33
noncomputable def n_3_31 : e_Y := u_bin a_iadd (u_old (o_iadd 32) n_3_32) n_3_32
theorem t_3_31 : e_Sn 3 31 (e_un n_3_31) := u_iaddT (s_iadd hq_3 (by decide +kernel) rfl : e_Sn 3 31 (o_iadd 32)) t_3_32
noncomputable def n_3_28 : e_Y := u_callS 215 1 20 1 n_215_0 n_3_31
theorem t_3_28 : e_Sn 3 28 (e_un n_3_28) := u_callST rfl (s_callS (index := 371) hq_3 ho_3 hy_215 hp_215 hc_215 hi_215 hd_215 (List.mem_of_getElem? (i := 1085) (by decide +kernel)) hs_215 (by decide +kernel) rfl : e_Sn 3 28 (o_callS 215 1 1 31)) t_215_0 t_3_31
noncomputable def n_3_27 : e_Y := u_ald 0 (u_old (o_ald e_fcs 28) n_3_28) n_3_28
theorem t_3_27 : e_Sn 3 27 (e_un n_3_27) := u_aldT (s_iald hq_3 (by decide +kernel) rfl : e_Sn 3 27 (o_ald e_fcs 28)) t_3_28
noncomputable def n_3_26 : e_Y := u_bin a_iadd (u_old (o_iadd 27) n_3_27) n_3_27
theorem t_3_26 : e_Sn 3 26 (e_un n_3_26) := u_iaddT (s_iadd hq_3 (by decide +kernel) rfl : e_Sn 3 26 (o_iadd 27)) t_3_27
noncomputable def n_3_25 : e_Y := u_ld f_okI f_l3 n_3_26
theorem t_3_25 : e_Sn 3 25 (e_un n_3_25) := u_ldIT f_l3_eq (s_iload (i := .iload_n 3) (len := 1) hq_3 (by decide +kernel) rfl (.inr ⟨3, rfl, rfl, rfl⟩) : e_Sn 3 25 (o_load e_okI 3 26)) t_3_26
noncomputable def n_3_24 : e_Y := u_ld f_okI f_l1 n_3_25
theorem t_3_24 : e_Sn 3 24 (e_un n_3_24) := u_ldIT f_l1_eq (s_iload (i := .iload_n 1) (len := 1) hq_3 (by decide +kernel) rfl (.inr ⟨1, rfl, rfl, rfl⟩) : e_Sn 3 24 (o_load e_okI 1 25)) t_3_25
noncomputable def n_3_23 : e_Y := u_ld f_okA f_l0 n_3_24
theorem t_3_23 : e_Sn 3 23 (e_un n_3_23) := u_ldAT f_l0_eq (s_aload (i := .aload_n 0) (len := 1) hq_3 (by decide +kernel) rfl (.inr ⟨0, rfl, rfl, rfl⟩) : e_Sn 3 23 (o_load e_okR 0 24)) t_3_24
noncomputable def n_3_22 : e_Y := u_ld f_okI f_l2 n_3_23
theorem t_3_22 : e_Sn 3 22 (e_un n_3_22) := u_ldIT f_l2_eq (s_iload (i := .iload_n 2) (len := 1) hq_3 (by decide +kernel) rfl (.inr ⟨2, rfl, rfl, rfl⟩) : e_Sn 3 22 (o_load e_okI 2 23)) t_3_23
noncomputable def n_3_19 : e_Y := u_jmp y_ge (u_old2 (o_clt 22 33) 22 n_3_22 n_3_33) n_3_22 n_3_33
theorem t_3_19 : e_Sn 3 19 (e_un n_3_19) := u_cltT rfl (s_cge (off := (14)) hq_3 (by decide +kernel) rfl rfl : e_Sn 3 19 (o_clt 22 33)) t_3_22 t_3_33
noncomputable def n_3_18 : e_Y := u_old (o_alen e_fcs 19) n_3_19
theorem t_3_18 : e_Sn 3 18 (e_un n_3_18) := u_oldT (s_alen hq_3 (by decide +kernel) rfl : e_Sn 3 18 (o_alen e_fcs 19)) t_3_19 (e_cg_alen e_fcs)
noncomputable def n_3_17 : e_Y := u_ld f_okA f_l0 n_3_18
theorem t_3_17 : e_Sn 3 17 (e_un n_3_17) := u_ldAT f_l0_eq (s_aload (i := .aload_n 0) (len := 1) hq_3 (by decide +kernel) rfl (.inr ⟨0, rfl, rfl, rfl⟩) : e_Sn 3 17 (o_load e_okR 0 18)) t_3_18
noncomputable def n_3_16 : e_Y := u_bin a_iadd (u_old (o_iadd 17) n_3_17) n_3_17
theorem t_3_16 : e_Sn 3 16 (e_un n_3_16) := u_iaddT (s_iadd hq_3 (by decide +kernel) rfl : e_Sn 3 16 (o_iadd 17)) t_3_17
noncomputable def n_3_15 : e_Y := u_ld f_okI f_l3 n_3_16
theorem t_3_15 : e_Sn 3 15 (e_un n_3_15) := u_ldIT f_l3_eq (s_iload (i := .iload_n 3) (len := 1) hq_3 (by decide +kernel) rfl (.inr ⟨3, rfl, rfl, rfl⟩) : e_Sn 3 15 (o_load e_okI 3 16)) t_3_16
noncomputable def n_3_14 : e_Y := u_ld f_okI f_l1 n_3_15
theorem t_3_14 : e_Sn 3 14 (e_un n_3_14) := u_ldIT f_l1_eq (s_iload (i := .iload_n 1) (len := 1) hq_3 (by decide +kernel) rfl (.inr ⟨1, rfl, rfl, rfl⟩) : e_Sn 3 14 (o_load e_okI 1 15)) t_3_15
noncomputable def n_3_11 : e_Y := u_if y_ge0 (u_old2 (o_iflt 33 14) 33 n_3_33 n_3_14) n_3_33 n_3_14
theorem t_3_11 : e_Sn 3 11 (e_un n_3_11) := u_ifltT rfl (s_iflt (off := (22)) hq_3 (by decide +kernel) rfl rfl : e_Sn 3 11 (o_iflt 33 14)) t_3_33 t_3_14
noncomputable def n_3_10 : e_Y := u_ld f_okI f_l1 n_3_11
theorem t_3_10 : e_Sn 3 10 (e_un n_3_10) := u_ldIT f_l1_eq (s_iload (i := .iload_n 1) (len := 1) hq_3 (by decide +kernel) rfl (.inr ⟨1, rfl, rfl, rfl⟩) : e_Sn 3 10 (o_load e_okI 1 11)) t_3_11
noncomputable def n_3_7 : e_Y := u_jmp y_ge (u_old2 (o_clt 10 39) 10 n_3_10 n_3_39) n_3_10 n_3_39
theorem t_3_7 : e_Sn 3 7 (e_un n_3_7) := u_cltT rfl (s_cge (off := (32)) hq_3 (by decide +kernel) rfl rfl : e_Sn 3 7 (o_clt 10 39)) t_3_10 t_3_39
noncomputable def n_3_5 : e_Y := u_push (.inl 2147483680) n_3_7
theorem t_3_5 : e_Sn 3 5 (e_un n_3_5) := u_pushT (s_bipush (n := (32)) hq_3 (by decide +kernel) rfl ⟨by decide +kernel, by decide +kernel⟩ : e_Sn 3 5 (o_push (.inl 2147483680) 7)) t_3_7
noncomputable def n_3_4 : e_Y := u_ld f_okI f_l3 n_3_5
theorem t_3_4 : e_Sn 3 4 (e_un n_3_4) := u_ldIT f_l3_eq (s_iload (i := .iload_n 3) (len := 1) hq_3 (by decide +kernel) rfl (.inr ⟨3, rfl, rfl, rfl⟩) : e_Sn 3 4 (o_load e_okI 3 5)) t_3_5
noncomputable def n_3_3 : e_Y := u_st f_okI f_s3 n_3_4
theorem t_3_3 : e_Sn 3 3 (e_un n_3_3) := u_stIT (fun _ _ _ => f_s3_eq) (s_istore (i := .istore_n 3) (len := 1) hq_3 (by decide +kernel) rfl (.inr ⟨3, rfl, rfl, rfl⟩) : e_Sn 3 3 (o_store e_okI 3 4)) t_3_4
noncomputable def n_3_2 : e_Y := u_push (.inl 2147483648) n_3_3
theorem t_3_2 : e_Sn 3 2 (e_un n_3_2) := u_pushT (s_iconst (n := (0)) hq_3 (by decide +kernel) rfl ⟨by decide +kernel, by decide +kernel⟩ : e_Sn 3 2 (o_push (.inl 2147483648) 3)) t_3_3
noncomputable def n_3_1 : e_Y := u_st f_okI f_s2 n_3_2
theorem t_3_1 : e_Sn 3 1 (e_un n_3_1) := u_stIT (fun _ _ _ => f_s2_eq) (s_istore (i := .istore_n 2) (len := 1) hq_3 (by decide +kernel) rfl (.inr ⟨2, rfl, rfl, rfl⟩) : e_Sn 3 1 (o_store e_okI 2 2)) t_3_2
noncomputable def n_3_0 : e_Y := u_push (.inl 2147483648) n_3_1
theorem t_3_0 : e_Sn 3 0 (e_un n_3_0) := u_pushT (s_iconst (n := (0)) hq_3 (by decide +kernel) rfl ⟨by decide +kernel, by decide +kernel⟩ : e_Sn 3 0 (o_push (.inl 2147483648) 1)) t_3_1
noncomputable def e_tb_3 : e_X := (e_br 4 (e_lf 0 (e_un n_3_0)) (e_lf 4 (e_un n_3_4)))
theorem e_tk_3 : e_Tb 3 e_tb_3 := (e_brT (e_lfT t_3_0) (e_lfT t_3_4))
theorem hq_5 : (e_ml[5]?).map (·.2.1) = some prog_1_method_17_code := rfl
theorem ho_5 : (e_ml[5]?).map (·.1.cls) = some "Plateroomprinter" := rfl
theorem hr_5 : (e_ml[5]?).map (·.2.2.2) = some (some .int) := rfl
noncomputable def n_5_52 : e_Y := u_tab (o_throw 0)
theorem t_5_52 : e_Sn 5 52 (e_un n_5_52) := u_tabT (s_throw (ik := 94) (is := 185) (ic := 98) (X := "java/lang/IllegalArgumentException") (text := "what is 0 to 2") hq_5 ho_5 hy_5 hc_5 rfl (by decide +kernel) e_wok0 (by simp [e_sr]) (by decide +kernel) (by decide +kernel) (.inl ⟨(by decide +kernel), (by decide +kernel), (by decide +kernel)⟩) : e_Sn 5 52 (o_throw 0))
noncomputable def n_5_51 : e_Y := u_retI
theorem t_5_51 : e_Sn 5 51 (e_un n_5_51) := u_retIT (s_iret hq_5 hr_5 (by decide +kernel) : e_Sn 5 51 (o_ret e_okI))
noncomputable def n_5_48 : e_Y := u_getf 11 14 (u_old (o_getf (e_f1 11 14) 51) n_5_51) n_5_51
theorem t_5_48 : e_Sn 5 48 (e_un n_5_48) := u_getfT (s_getf (C := er_11) (T := et_11) (N := 15) (ref := "Plateroomprinter$World") (index := 213) (ci := 11) (k := 14) hq_5 ho_5 ⟨rfl, by decide, ei_11, (List.mem_of_getElem? (i := 502) (by decide +kernel)), .inl rfl⟩ (by decide +kernel) rfl : e_Sn 5 48 (o_getf (e_f1 11 14) 51)) t_5_51
noncomputable def n_5_45 : e_Y := u_getf 0 1 (u_old (o_getf (e_f1 0 1) 48) n_5_48) n_5_48
theorem t_5_45 : e_Sn 5 45 (e_un n_5_45) := u_getfT (s_getf (C := er_0) (T := et_0) (N := 17) (ref := "Plateroomprinter") (index := 19) (ci := 0) (k := 1) hq_5 ho_5 ⟨rfl, by decide, ei_0, (List.mem_of_getElem? (i := 681) (by decide +kernel)), .inl rfl⟩ (by decide +kernel) rfl : e_Sn 5 45 (o_getf (e_f1 0 1) 48)) t_5_48
noncomputable def n_5_44 : e_Y := u_ld f_okA f_l0 n_5_45
theorem t_5_44 : e_Sn 5 44 (e_un n_5_44) := u_ldAT f_l0_eq (s_aload (i := .aload_n 0) (len := 1) hq_5 (by decide +kernel) rfl (.inr ⟨0, rfl, rfl, rfl⟩) : e_Sn 5 44 (o_load e_okR 0 45)) t_5_45
noncomputable def n_5_43 : e_Y := u_retI
theorem t_5_43 : e_Sn 5 43 (e_un n_5_43) := u_retIT (s_iret hq_5 hr_5 (by decide +kernel) : e_Sn 5 43 (o_ret e_okI))
noncomputable def n_5_40 : e_Y := u_getf 11 13 (u_old (o_getf (e_f1 11 13) 43) n_5_43) n_5_43
theorem t_5_40 : e_Sn 5 40 (e_un n_5_40) := u_getfT (s_getf (C := er_11) (T := et_11) (N := 15) (ref := "Plateroomprinter$World") (index := 210) (ci := 11) (k := 13) hq_5 ho_5 ⟨rfl, by decide, ei_11, (List.mem_of_getElem? (i := 499) (by decide +kernel)), .inl rfl⟩ (by decide +kernel) rfl : e_Sn 5 40 (o_getf (e_f1 11 13) 43)) t_5_43
noncomputable def n_5_37 : e_Y := u_getf 0 1 (u_old (o_getf (e_f1 0 1) 40) n_5_40) n_5_40
theorem t_5_37 : e_Sn 5 37 (e_un n_5_37) := u_getfT (s_getf (C := er_0) (T := et_0) (N := 17) (ref := "Plateroomprinter") (index := 19) (ci := 0) (k := 1) hq_5 ho_5 ⟨rfl, by decide, ei_0, (List.mem_of_getElem? (i := 681) (by decide +kernel)), .inl rfl⟩ (by decide +kernel) rfl : e_Sn 5 37 (o_getf (e_f1 0 1) 40)) t_5_40
noncomputable def n_5_36 : e_Y := u_ld f_okA f_l0 n_5_37
theorem t_5_36 : e_Sn 5 36 (e_un n_5_36) := u_ldAT f_l0_eq (s_aload (i := .aload_n 0) (len := 1) hq_5 (by decide +kernel) rfl (.inr ⟨0, rfl, rfl, rfl⟩) : e_Sn 5 36 (o_load e_okR 0 37)) t_5_37
noncomputable def n_5_35 : e_Y := u_retI
theorem t_5_35 : e_Sn 5 35 (e_un n_5_35) := u_retIT (s_iret hq_5 hr_5 (by decide +kernel) : e_Sn 5 35 (o_ret e_okI))
noncomputable def n_5_32 : e_Y := u_getf 11 12 (u_old (o_getf (e_f1 11 12) 35) n_5_35) n_5_35
theorem t_5_32 : e_Sn 5 32 (e_un n_5_32) := u_getfT (s_getf (C := er_11) (T := et_11) (N := 15) (ref := "Plateroomprinter$World") (index := 207) (ci := 11) (k := 12) hq_5 ho_5 ⟨rfl, by decide, ei_11, (List.mem_of_getElem? (i := 496) (by decide +kernel)), .inl rfl⟩ (by decide +kernel) rfl : e_Sn 5 32 (o_getf (e_f1 11 12) 35)) t_5_35
noncomputable def n_5_29 : e_Y := u_getf 0 1 (u_old (o_getf (e_f1 0 1) 32) n_5_32) n_5_32
theorem t_5_29 : e_Sn 5 29 (e_un n_5_29) := u_getfT (s_getf (C := er_0) (T := et_0) (N := 17) (ref := "Plateroomprinter") (index := 19) (ci := 0) (k := 1) hq_5 ho_5 ⟨rfl, by decide, ei_0, (List.mem_of_getElem? (i := 681) (by decide +kernel)), .inl rfl⟩ (by decide +kernel) rfl : e_Sn 5 29 (o_getf (e_f1 0 1) 32)) t_5_32
noncomputable def n_5_28 : e_Y := u_ld f_okA f_l0 n_5_29
theorem t_5_28 : e_Sn 5 28 (e_un n_5_28) := u_ldAT f_l0_eq (s_aload (i := .aload_n 0) (len := 1) hq_5 (by decide +kernel) rfl (.inr ⟨0, rfl, rfl, rfl⟩) : e_Sn 5 28 (o_load e_okR 0 29)) t_5_29
noncomputable def n_5_1 : e_Y := u_tab (o_switch 2147483648 [28, 36, 44] 52)
theorem t_5_1 : e_Sn 5 1 (e_un n_5_1) := u_tabT (s_switch (dflt := (51)) (low := (0)) (hi := (2)) (offs := #[(27), (35), (43)]) (len := 27) hq_5 (by decide +kernel) rfl rfl rfl rfl : e_Sn 5 1 (o_switch 2147483648 [28, 36, 44] 52))
noncomputable def n_5_0 : e_Y := u_ld f_okI f_l1 n_5_1
theorem t_5_0 : e_Sn 5 0 (e_un n_5_0) := u_ldIT f_l1_eq (s_iload (i := .iload_n 1) (len := 1) hq_5 (by decide +kernel) rfl (.inr ⟨1, rfl, rfl, rfl⟩) : e_Sn 5 0 (o_load e_okI 1 1)) t_5_1
noncomputable def e_tb_5 : e_X := (e_br 36 (e_br 28 (e_lf 0 (e_un n_5_0)) (e_lf 28 (e_un n_5_28))) (e_br 44 (e_lf 36 (e_un n_5_36)) (e_br 52 (e_lf 44 (e_un n_5_44)) (e_lf 52 (e_un n_5_52)))))
theorem e_tk_5 : e_Tb 5 e_tb_5 := (e_brT (e_brT (e_lfT t_5_0) (e_lfT t_5_28)) (e_brT (e_lfT t_5_36) (e_brT (e_lfT t_5_44) (e_lfT t_5_52))))
theorem hq_6 : (e_ml[6]?).map (·.2.1) = some prog_1_method_43_code := rfl
theorem ho_6 : (e_ml[6]?).map (·.1.cls) = some "Plateroomprinter" := rfl
theorem hr_6 : (e_ml[6]?).map (·.2.2.2) = some (some .int) := rfl
noncomputable def n_6_37 : e_Y := u_retI
theorem t_6_37 : e_Sn 6 37 (e_un n_6_37) := u_retIT (s_iret hq_6 hr_6 (by decide +kernel) : e_Sn 6 37 (o_ret e_okI))
noncomputable def n_6_34 : e_Y := u_callS 3 4 23 2 n_3_0 n_6_37
theorem t_6_34 : e_Sn 6 34 (e_un n_6_34) := u_callST rfl (s_callS (index := 265) hq_6 ho_6 hy_3 hp_3 hc_3 hi_3 hd_3 (List.mem_of_getElem? (i := 1266) (by decide +kernel)) hs_3 (by decide +kernel) rfl : e_Sn 6 34 (o_callS 3 4 2 37)) t_3_0 t_6_37
noncomputable def n_6_33 : e_Y := u_bin a_imul (u_old (o_imul 34) n_6_34) n_6_34
theorem t_6_33 : e_Sn 6 33 (e_un n_6_33) := u_imulT (s_imul hq_6 (by decide +kernel) rfl : e_Sn 6 33 (o_imul 34)) t_6_34
noncomputable def n_6_31 : e_Y := u_push (.inl 2147483680) n_6_33
theorem t_6_31 : e_Sn 6 31 (e_un n_6_31) := u_pushT (s_bipush (n := (32)) hq_6 (by decide +kernel) rfl ⟨by decide +kernel, by decide +kernel⟩ : e_Sn 6 31 (o_push (.inl 2147483680) 33)) t_6_33
noncomputable def n_6_30 : e_Y := u_ld f_okI f_l1 n_6_31
theorem t_6_30 : e_Sn 6 30 (e_un n_6_30) := u_ldIT f_l1_eq (s_iload (i := .iload_n 1) (len := 1) hq_6 (by decide +kernel) rfl (.inr ⟨1, rfl, rfl, rfl⟩) : e_Sn 6 30 (o_load e_okI 1 31)) t_6_31
noncomputable def n_6_27 : e_Y := u_getf 9 0 (u_old (o_getf (e_f1 9 0) 30) n_6_30) n_6_30
theorem t_6_27 : e_Sn 6 27 (e_un n_6_27) := u_getfT (s_getf (C := er_9) (T := et_9) (N := 1) (ref := "Plateroomprinter$Sheet") (index := 414) (ci := 9) (k := 0) hq_6 ho_6 ⟨rfl, by decide, ei_9, (List.mem_of_getElem? (i := 382) (by decide +kernel)), .inl rfl⟩ (by decide +kernel) rfl : e_Sn 6 27 (o_getf (e_f1 9 0) 30)) t_6_30
noncomputable def n_6_24 : e_Y := u_getf 11 7 (u_old (o_getf (e_f1 11 7) 27) n_6_27) n_6_27
theorem t_6_24 : e_Sn 6 24 (e_un n_6_24) := u_getfT (s_getf (C := er_11) (T := et_11) (N := 15) (ref := "Plateroomprinter$World") (index := 406) (ci := 11) (k := 7) hq_6 ho_6 ⟨rfl, by decide, ei_11, (List.mem_of_getElem? (i := 481) (by decide +kernel)), .inl rfl⟩ (by decide +kernel) rfl : e_Sn 6 24 (o_getf (e_f1 11 7) 27)) t_6_27
noncomputable def n_6_21 : e_Y := u_getf 0 1 (u_old (o_getf (e_f1 0 1) 24) n_6_24) n_6_24
theorem t_6_21 : e_Sn 6 21 (e_un n_6_21) := u_getfT (s_getf (C := er_0) (T := et_0) (N := 17) (ref := "Plateroomprinter") (index := 19) (ci := 0) (k := 1) hq_6 ho_6 ⟨rfl, by decide, ei_0, (List.mem_of_getElem? (i := 681) (by decide +kernel)), .inl rfl⟩ (by decide +kernel) rfl : e_Sn 6 21 (o_getf (e_f1 0 1) 24)) t_6_24
noncomputable def n_6_20 : e_Y := u_ld f_okA f_l0 n_6_21
theorem t_6_20 : e_Sn 6 20 (e_un n_6_20) := u_ldAT f_l0_eq (s_aload (i := .aload_n 0) (len := 1) hq_6 (by decide +kernel) rfl (.inr ⟨0, rfl, rfl, rfl⟩) : e_Sn 6 20 (o_load e_okR 0 21)) t_6_21
noncomputable def n_6_9 : e_Y := u_tab (o_throw 2)
theorem t_6_9 : e_Sn 6 9 (e_un n_6_9) := u_tabT (s_throw (ik := 175) (is := 415) (ic := 179) (X := "java/lang/IndexOutOfBoundsException") (text := "no such plate") hq_6 ho_6 hy_6 hc_6 rfl (by decide +kernel) e_wok2 (by simp [e_sr]) (by decide +kernel) (by decide +kernel) (.inr ⟨(by decide +kernel), (by decide +kernel), (by decide +kernel)⟩) : e_Sn 6 9 (o_throw 2))
noncomputable def n_6_6 : e_Y := u_jmp y_ge (u_old2 (o_clt 20 9) 20 n_6_20 n_6_9) n_6_20 n_6_9
theorem t_6_6 : e_Sn 6 6 (e_un n_6_6) := u_cltT rfl (s_clt (off := (14)) hq_6 (by decide +kernel) rfl rfl : e_Sn 6 6 (o_clt 20 9)) t_6_20 t_6_9
noncomputable def n_6_5 : e_Y := u_push (.inl 2147483652) n_6_6
theorem t_6_5 : e_Sn 6 5 (e_un n_6_5) := u_pushT (s_iconst (n := (4)) hq_6 (by decide +kernel) rfl ⟨by decide +kernel, by decide +kernel⟩ : e_Sn 6 5 (o_push (.inl 2147483652) 6)) t_6_6
noncomputable def n_6_4 : e_Y := u_ld f_okI f_l1 n_6_5
theorem t_6_4 : e_Sn 6 4 (e_un n_6_4) := u_ldIT f_l1_eq (s_iload (i := .iload_n 1) (len := 1) hq_6 (by decide +kernel) rfl (.inr ⟨1, rfl, rfl, rfl⟩) : e_Sn 6 4 (o_load e_okI 1 5)) t_6_5
noncomputable def n_6_1 : e_Y := u_if y_ge0 (u_old2 (o_iflt 9 4) 9 n_6_9 n_6_4) n_6_9 n_6_4
theorem t_6_1 : e_Sn 6 1 (e_un n_6_1) := u_ifltT rfl (s_iflt (off := (8)) hq_6 (by decide +kernel) rfl rfl : e_Sn 6 1 (o_iflt 9 4)) t_6_9 t_6_4
noncomputable def n_6_0 : e_Y := u_ld f_okI f_l1 n_6_1
theorem t_6_0 : e_Sn 6 0 (e_un n_6_0) := u_ldIT f_l1_eq (s_iload (i := .iload_n 1) (len := 1) hq_6 (by decide +kernel) rfl (.inr ⟨1, rfl, rfl, rfl⟩) : e_Sn 6 0 (o_load e_okI 1 1)) t_6_1
noncomputable def e_tb_6 : e_X := (e_lf 0 (e_un n_6_0))
theorem e_tk_6 : e_Tb 6 e_tb_6 := (e_lfT t_6_0)
theorem hq_18 : (e_ml[18]?).map (·.2.1) = some prog_1_method_38_code := rfl
theorem ho_18 : (e_ml[18]?).map (·.1.cls) = some "Plateroomprinter" := rfl
theorem hr_18 : (e_ml[18]?).map (·.2.2.2) = some (some .int) := rfl
noncomputable def n_18_10 : e_Y := u_retI
theorem t_18_10 : e_Sn 18 10 (e_un n_18_10) := u_retIT (s_iret hq_18 hr_18 (by decide +kernel) : e_Sn 18 10 (o_ret e_okI))
noncomputable def n_18_7 : e_Y := u_getf 3 4 (u_old (o_getf (e_f1 3 4) 10) n_18_10) n_18_10
theorem t_18_7 : e_Sn 18 7 (e_un n_18_7) := u_getfT (s_getf (C := er_3) (T := et_3) (N := 5) (ref := "Plateroomprinter$Figures") (index := 390) (ci := 3) (k := 4) hq_18 ho_18 ⟨rfl, by decide, ei_3, (List.mem_of_getElem? (i := 403) (by decide +kernel)), .inl rfl⟩ (by decide +kernel) rfl : e_Sn 18 7 (o_getf (e_f1 3 4) 10)) t_18_10
noncomputable def n_18_4 : e_Y := u_getf 11 9 (u_old (o_getf (e_f1 11 9) 7) n_18_7) n_18_7
theorem t_18_4 : e_Sn 18 4 (e_un n_18_4) := u_getfT (s_getf (C := er_11) (T := et_11) (N := 15) (ref := "Plateroomprinter$World") (index := 386) (ci := 11) (k := 9) hq_18 ho_18 ⟨rfl, by decide, ei_11, (List.mem_of_getElem? (i := 487) (by decide +kernel)), .inl rfl⟩ (by decide +kernel) rfl : e_Sn 18 4 (o_getf (e_f1 11 9) 7)) t_18_7
noncomputable def n_18_1 : e_Y := u_getf 0 1 (u_old (o_getf (e_f1 0 1) 4) n_18_4) n_18_4
theorem t_18_1 : e_Sn 18 1 (e_un n_18_1) := u_getfT (s_getf (C := er_0) (T := et_0) (N := 17) (ref := "Plateroomprinter") (index := 19) (ci := 0) (k := 1) hq_18 ho_18 ⟨rfl, by decide, ei_0, (List.mem_of_getElem? (i := 681) (by decide +kernel)), .inl rfl⟩ (by decide +kernel) rfl : e_Sn 18 1 (o_getf (e_f1 0 1) 4)) t_18_4
noncomputable def n_18_0 : e_Y := u_ld f_okA f_l0 n_18_1
theorem t_18_0 : e_Sn 18 0 (e_un n_18_0) := u_ldAT f_l0_eq (s_aload (i := .aload_n 0) (len := 1) hq_18 (by decide +kernel) rfl (.inr ⟨0, rfl, rfl, rfl⟩) : e_Sn 18 0 (o_load e_okR 0 1)) t_18_1
noncomputable def e_tb_18 : e_X := (e_lf 0 (e_un n_18_0))
theorem e_tk_18 : e_Tb 18 e_tb_18 := (e_lfT t_18_0)
theorem hq_94 : (e_ml[94]?).map (·.2.1) = some prog_10_method_8_code := rfl
theorem ho_94 : (e_ml[94]?).map (·.1.cls) = some "Plateroomprinter$Sheet" := rfl
theorem hr_94 : (e_ml[94]?).map (·.2.2.2) = some (some .int) := rfl
noncomputable def n_94_59 : e_Y := u_retI
theorem t_94_59 : e_Sn 94 59 (e_un n_94_59) := u_retIT (s_iret hq_94 hr_94 (by decide +kernel) : e_Sn 94 59 (o_ret e_okI))
noncomputable def n_94_58 : e_Y := u_ld f_okI f_l1 n_94_59
theorem t_94_58 : e_Sn 94 58 (e_un n_94_58) := u_ldIT f_l1_eq (s_iload (i := .iload_n 1) (len := 1) hq_94 (by decide +kernel) rfl (.inr ⟨1, rfl, rfl, rfl⟩) : e_Sn 94 58 (o_load e_okI 1 59)) t_94_59
noncomputable def n_94_55 : e_Y := (u_at 4)
theorem t_94_55 : e_Sn 94 55 (e_un n_94_55) := u_gotoT (s_goto (off := (-51)) hq_94 (by decide +kernel) rfl : e_Sn 94 55 (o_goto 4)) u_atT
noncomputable def n_94_52 : e_Y := u_inc f_l2 f_s2 1 n_94_55
theorem t_94_52 : e_Sn 94 52 (e_un n_94_52) := u_incT f_l2_eq (fun _ _ _ => f_s2_eq) (s_iinc (zz := (1)) hq_94 (by decide +kernel) rfl (by decide +kernel) ⟨by decide, by decide⟩ : e_Sn 94 52 (o_iinc 2 1 55)) t_94_55
noncomputable def n_94_51 : e_Y := u_st f_okI f_s1 n_94_52
theorem t_94_51 : e_Sn 94 51 (e_un n_94_51) := u_stIT (fun _ _ _ => f_s1_eq) (s_istore (i := .istore_n 1) (len := 1) hq_94 (by decide +kernel) rfl (.inr ⟨1, rfl, rfl, rfl⟩) : e_Sn 94 51 (o_store e_okI 1 52)) t_94_52
noncomputable def n_94_50 : e_Y := u_bin a_iadd (u_old (o_iadd 51) n_94_51) n_94_51
theorem t_94_50 : e_Sn 94 50 (e_un n_94_50) := u_iaddT (s_iadd hq_94 (by decide +kernel) rfl : e_Sn 94 50 (o_iadd 51)) t_94_51
noncomputable def n_94_47 : e_Y := u_callS 215 1 20 1 n_215_0 n_94_50
theorem t_94_47 : e_Sn 94 47 (e_un n_94_47) := u_callST rfl (s_callS (index := 40) hq_94 ho_94 hy_215 hp_215 hc_215 hi_215 hd_215 (List.mem_of_getElem? (i := 1558) (by decide +kernel)) hs_215 (by decide +kernel) rfl : e_Sn 94 47 (o_callS 215 1 1 50)) t_215_0 t_94_50
noncomputable def n_94_46 : e_Y := u_bin a_ior (u_old (o_bin Nat.lor 47) n_94_47) n_94_47
theorem t_94_46 : e_Sn 94 46 (e_un n_94_46) := u_iorT (s_ior hq_94 (by decide +kernel) rfl : e_Sn 94 46 (o_bin Nat.lor 47)) t_94_47
noncomputable def n_94_45 : e_Y := u_ald 0 (u_old (o_ald e_fcs 46) n_94_46) n_94_46
theorem t_94_45 : e_Sn 94 45 (e_un n_94_45) := u_aldT (s_iald hq_94 (by decide +kernel) rfl : e_Sn 94 45 (o_ald e_fcs 46)) t_94_46
noncomputable def n_94_44 : e_Y := u_bin a_iadd (u_old (o_iadd 45) n_94_45) n_94_45
theorem t_94_44 : e_Sn 94 44 (e_un n_94_44) := u_iaddT (s_iadd hq_94 (by decide +kernel) rfl : e_Sn 94 44 (o_iadd 45)) t_94_45
noncomputable def n_94_43 : e_Y := u_ld f_okI f_l2 n_94_44
theorem t_94_43 : e_Sn 94 43 (e_un n_94_43) := u_ldIT f_l2_eq (s_iload (i := .iload_n 2) (len := 1) hq_94 (by decide +kernel) rfl (.inr ⟨2, rfl, rfl, rfl⟩) : e_Sn 94 43 (o_load e_okI 2 44)) t_94_44
noncomputable def n_94_41 : e_Y := u_push (.inl 2147483744) n_94_43
theorem t_94_41 : e_Sn 94 41 (e_un n_94_41) := u_pushT (s_bipush (n := (96)) hq_94 (by decide +kernel) rfl ⟨by decide +kernel, by decide +kernel⟩ : e_Sn 94 41 (o_push (.inl 2147483744) 43)) t_94_43
noncomputable def n_94_38 : e_Y := u_getf 9 0 (u_old (o_getf (e_f1 9 0) 41) n_94_41) n_94_41
theorem t_94_38 : e_Sn 94 38 (e_un n_94_38) := u_getfT (s_getf (C := er_9) (T := et_9) (N := 1) (ref := "Plateroomprinter$Sheet") (index := 9) (ci := 9) (k := 0) hq_94 ho_94 ⟨rfl, by decide, ei_9, (List.mem_of_getElem? (i := 381) (by decide +kernel)), .inl rfl⟩ (by decide +kernel) rfl : e_Sn 94 38 (o_getf (e_f1 9 0) 41)) t_94_41
noncomputable def n_94_37 : e_Y := u_ld f_okA f_l0 n_94_38
theorem t_94_37 : e_Sn 94 37 (e_un n_94_37) := u_ldAT f_l0_eq (s_aload (i := .aload_n 0) (len := 1) hq_94 (by decide +kernel) rfl (.inr ⟨0, rfl, rfl, rfl⟩) : e_Sn 94 37 (o_load e_okR 0 38)) t_94_38
noncomputable def n_94_36 : e_Y := u_bin a_ior (u_old (o_bin Nat.lor 37) n_94_37) n_94_37
theorem t_94_36 : e_Sn 94 36 (e_un n_94_36) := u_iorT (s_ior hq_94 (by decide +kernel) rfl : e_Sn 94 36 (o_bin Nat.lor 37)) t_94_37
noncomputable def n_94_35 : e_Y := u_ald 0 (u_old (o_ald e_fcs 36) n_94_36) n_94_36
theorem t_94_35 : e_Sn 94 35 (e_un n_94_35) := u_aldT (s_iald hq_94 (by decide +kernel) rfl : e_Sn 94 35 (o_ald e_fcs 36)) t_94_36
noncomputable def n_94_34 : e_Y := u_bin a_iadd (u_old (o_iadd 35) n_94_35) n_94_35
theorem t_94_34 : e_Sn 94 34 (e_un n_94_34) := u_iaddT (s_iadd hq_94 (by decide +kernel) rfl : e_Sn 94 34 (o_iadd 35)) t_94_35
noncomputable def n_94_33 : e_Y := u_ld f_okI f_l2 n_94_34
theorem t_94_33 : e_Sn 94 33 (e_un n_94_33) := u_ldIT f_l2_eq (s_iload (i := .iload_n 2) (len := 1) hq_94 (by decide +kernel) rfl (.inr ⟨2, rfl, rfl, rfl⟩) : e_Sn 94 33 (o_load e_okI 2 34)) t_94_34
noncomputable def n_94_31 : e_Y := u_push (.inl 2147483712) n_94_33
theorem t_94_31 : e_Sn 94 31 (e_un n_94_31) := u_pushT (s_bipush (n := (64)) hq_94 (by decide +kernel) rfl ⟨by decide +kernel, by decide +kernel⟩ : e_Sn 94 31 (o_push (.inl 2147483712) 33)) t_94_33
noncomputable def n_94_28 : e_Y := u_getf 9 0 (u_old (o_getf (e_f1 9 0) 31) n_94_31) n_94_31
theorem t_94_28 : e_Sn 94 28 (e_un n_94_28) := u_getfT (s_getf (C := er_9) (T := et_9) (N := 1) (ref := "Plateroomprinter$Sheet") (index := 9) (ci := 9) (k := 0) hq_94 ho_94 ⟨rfl, by decide, ei_9, (List.mem_of_getElem? (i := 381) (by decide +kernel)), .inl rfl⟩ (by decide +kernel) rfl : e_Sn 94 28 (o_getf (e_f1 9 0) 31)) t_94_31
noncomputable def n_94_27 : e_Y := u_ld f_okA f_l0 n_94_28
theorem t_94_27 : e_Sn 94 27 (e_un n_94_27) := u_ldAT f_l0_eq (s_aload (i := .aload_n 0) (len := 1) hq_94 (by decide +kernel) rfl (.inr ⟨0, rfl, rfl, rfl⟩) : e_Sn 94 27 (o_load e_okR 0 28)) t_94_28
noncomputable def n_94_26 : e_Y := u_bin a_ior (u_old (o_bin Nat.lor 27) n_94_27) n_94_27
theorem t_94_26 : e_Sn 94 26 (e_un n_94_26) := u_iorT (s_ior hq_94 (by decide +kernel) rfl : e_Sn 94 26 (o_bin Nat.lor 27)) t_94_27
noncomputable def n_94_25 : e_Y := u_ald 0 (u_old (o_ald e_fcs 26) n_94_26) n_94_26
theorem t_94_25 : e_Sn 94 25 (e_un n_94_25) := u_aldT (s_iald hq_94 (by decide +kernel) rfl : e_Sn 94 25 (o_ald e_fcs 26)) t_94_26
noncomputable def n_94_24 : e_Y := u_bin a_iadd (u_old (o_iadd 25) n_94_25) n_94_25
theorem t_94_24 : e_Sn 94 24 (e_un n_94_24) := u_iaddT (s_iadd hq_94 (by decide +kernel) rfl : e_Sn 94 24 (o_iadd 25)) t_94_25
noncomputable def n_94_23 : e_Y := u_ld f_okI f_l2 n_94_24
theorem t_94_23 : e_Sn 94 23 (e_un n_94_23) := u_ldIT f_l2_eq (s_iload (i := .iload_n 2) (len := 1) hq_94 (by decide +kernel) rfl (.inr ⟨2, rfl, rfl, rfl⟩) : e_Sn 94 23 (o_load e_okI 2 24)) t_94_24
noncomputable def n_94_21 : e_Y := u_push (.inl 2147483680) n_94_23
theorem t_94_21 : e_Sn 94 21 (e_un n_94_21) := u_pushT (s_bipush (n := (32)) hq_94 (by decide +kernel) rfl ⟨by decide +kernel, by decide +kernel⟩ : e_Sn 94 21 (o_push (.inl 2147483680) 23)) t_94_23
noncomputable def n_94_18 : e_Y := u_getf 9 0 (u_old (o_getf (e_f1 9 0) 21) n_94_21) n_94_21
theorem t_94_18 : e_Sn 94 18 (e_un n_94_18) := u_getfT (s_getf (C := er_9) (T := et_9) (N := 1) (ref := "Plateroomprinter$Sheet") (index := 9) (ci := 9) (k := 0) hq_94 ho_94 ⟨rfl, by decide, ei_9, (List.mem_of_getElem? (i := 381) (by decide +kernel)), .inl rfl⟩ (by decide +kernel) rfl : e_Sn 94 18 (o_getf (e_f1 9 0) 21)) t_94_21
noncomputable def n_94_17 : e_Y := u_ld f_okA f_l0 n_94_18
theorem t_94_17 : e_Sn 94 17 (e_un n_94_17) := u_ldAT f_l0_eq (s_aload (i := .aload_n 0) (len := 1) hq_94 (by decide +kernel) rfl (.inr ⟨0, rfl, rfl, rfl⟩) : e_Sn 94 17 (o_load e_okR 0 18)) t_94_18
noncomputable def n_94_16 : e_Y := u_ald 0 (u_old (o_ald e_fcs 17) n_94_17) n_94_17
theorem t_94_16 : e_Sn 94 16 (e_un n_94_16) := u_aldT (s_iald hq_94 (by decide +kernel) rfl : e_Sn 94 16 (o_ald e_fcs 17)) t_94_17
noncomputable def n_94_15 : e_Y := u_ld f_okI f_l2 n_94_16
theorem t_94_15 : e_Sn 94 15 (e_un n_94_15) := u_ldIT f_l2_eq (s_iload (i := .iload_n 2) (len := 1) hq_94 (by decide +kernel) rfl (.inr ⟨2, rfl, rfl, rfl⟩) : e_Sn 94 15 (o_load e_okI 2 16)) t_94_16
noncomputable def n_94_12 : e_Y := u_getf 9 0 (u_old (o_getf (e_f1 9 0) 15) n_94_15) n_94_15
theorem t_94_12 : e_Sn 94 12 (e_un n_94_12) := u_getfT (s_getf (C := er_9) (T := et_9) (N := 1) (ref := "Plateroomprinter$Sheet") (index := 9) (ci := 9) (k := 0) hq_94 ho_94 ⟨rfl, by decide, ei_9, (List.mem_of_getElem? (i := 381) (by decide +kernel)), .inl rfl⟩ (by decide +kernel) rfl : e_Sn 94 12 (o_getf (e_f1 9 0) 15)) t_94_15
noncomputable def n_94_11 : e_Y := u_ld f_okA f_l0 n_94_12
theorem t_94_11 : e_Sn 94 11 (e_un n_94_11) := u_ldAT f_l0_eq (s_aload (i := .aload_n 0) (len := 1) hq_94 (by decide +kernel) rfl (.inr ⟨0, rfl, rfl, rfl⟩) : e_Sn 94 11 (o_load e_okR 0 12)) t_94_12
noncomputable def n_94_10 : e_Y := u_ld f_okI f_l1 n_94_11
theorem t_94_10 : e_Sn 94 10 (e_un n_94_10) := u_ldIT f_l1_eq (s_iload (i := .iload_n 1) (len := 1) hq_94 (by decide +kernel) rfl (.inr ⟨1, rfl, rfl, rfl⟩) : e_Sn 94 10 (o_load e_okI 1 11)) t_94_11
noncomputable def n_94_7 : e_Y := u_jmp y_ge (u_old2 (o_clt 10 58) 10 n_94_10 n_94_58) n_94_10 n_94_58
theorem t_94_7 : e_Sn 94 7 (e_un n_94_7) := u_cltT rfl (s_cge (off := (51)) hq_94 (by decide +kernel) rfl rfl : e_Sn 94 7 (o_clt 10 58)) t_94_10 t_94_58
noncomputable def n_94_5 : e_Y := u_push (.inl 2147483680) n_94_7
theorem t_94_5 : e_Sn 94 5 (e_un n_94_5) := u_pushT (s_bipush (n := (32)) hq_94 (by decide +kernel) rfl ⟨by decide +kernel, by decide +kernel⟩ : e_Sn 94 5 (o_push (.inl 2147483680) 7)) t_94_7
noncomputable def n_94_4 : e_Y := u_ld f_okI f_l2 n_94_5
theorem t_94_4 : e_Sn 94 4 (e_un n_94_4) := u_ldIT f_l2_eq (s_iload (i := .iload_n 2) (len := 1) hq_94 (by decide +kernel) rfl (.inr ⟨2, rfl, rfl, rfl⟩) : e_Sn 94 4 (o_load e_okI 2 5)) t_94_5
noncomputable def n_94_3 : e_Y := u_st f_okI f_s2 n_94_4
theorem t_94_3 : e_Sn 94 3 (e_un n_94_3) := u_stIT (fun _ _ _ => f_s2_eq) (s_istore (i := .istore_n 2) (len := 1) hq_94 (by decide +kernel) rfl (.inr ⟨2, rfl, rfl, rfl⟩) : e_Sn 94 3 (o_store e_okI 2 4)) t_94_4
noncomputable def n_94_2 : e_Y := u_push (.inl 2147483648) n_94_3
theorem t_94_2 : e_Sn 94 2 (e_un n_94_2) := u_pushT (s_iconst (n := (0)) hq_94 (by decide +kernel) rfl ⟨by decide +kernel, by decide +kernel⟩ : e_Sn 94 2 (o_push (.inl 2147483648) 3)) t_94_3
noncomputable def n_94_1 : e_Y := u_st f_okI f_s1 n_94_2
theorem t_94_1 : e_Sn 94 1 (e_un n_94_1) := u_stIT (fun _ _ _ => f_s1_eq) (s_istore (i := .istore_n 1) (len := 1) hq_94 (by decide +kernel) rfl (.inr ⟨1, rfl, rfl, rfl⟩) : e_Sn 94 1 (o_store e_okI 1 2)) t_94_2
noncomputable def n_94_0 : e_Y := u_push (.inl 2147483648) n_94_1
theorem t_94_0 : e_Sn 94 0 (e_un n_94_0) := u_pushT (s_iconst (n := (0)) hq_94 (by decide +kernel) rfl ⟨by decide +kernel, by decide +kernel⟩ : e_Sn 94 0 (o_push (.inl 2147483648) 1)) t_94_1
noncomputable def e_tb_94 : e_X := (e_br 4 (e_lf 0 (e_un n_94_0)) (e_lf 4 (e_un n_94_4)))
theorem e_tk_94 : e_Tb 94 e_tb_94 := (e_brT (e_lfT t_94_0) (e_lfT t_94_4))
theorem hq_43 : (e_ml[43]?).map (·.2.1) = some prog_1_method_47_code := rfl
theorem ho_43 : (e_ml[43]?).map (·.1.cls) = some "Plateroomprinter" := rfl
theorem hr_43 : (e_ml[43]?).map (·.2.2.2) = some (some .int) := rfl
noncomputable def n_43_79 : e_Y := u_tab (o_throw 0)
theorem t_43_79 : e_Sn 43 79 (e_un n_43_79) := u_tabT (s_throw (ik := 94) (is := 431) (ic := 98) (X := "java/lang/IllegalArgumentException") (text := "what is 0 to 5") hq_43 ho_43 hy_43 hc_43 rfl (by decide +kernel) e_wok0 (by simp [e_sr]) (by decide +kernel) (by decide +kernel) (.inr ⟨(by decide +kernel), (by decide +kernel), (by decide +kernel)⟩) : e_Sn 43 79 (o_throw 0))
noncomputable def n_43_78 : e_Y := u_retI
theorem t_43_78 : e_Sn 43 78 (e_un n_43_78) := u_retIT (s_iret hq_43 hr_43 (by decide +kernel) : e_Sn 43 78 (o_ret e_okI))
noncomputable def n_43_75 : e_Y := u_callV 9 94 3 22 1 n_94_0 n_43_78
theorem t_43_75 : e_Sn 43 75 (e_un n_43_75) := u_callVT rfl (s_callV (ci := 9) (C := er_9) (T := et_9) (N := 1) (index := 428) hq_43 ho_43 hy_94 hp_94 hc_94 hi_94 hd_94 (List.mem_of_getElem? (i := 1554) (by decide +kernel)) hs_94 (List.mem_of_getElem? (i := 1556) (by decide +kernel)) rfl (by decide +kernel) rfl : e_Sn 43 75 (o_callV (e_s1 9 94 3) 1 78)) t_94_0 t_43_78
noncomputable def n_43_72 : e_Y := u_getf 11 8 (u_old (o_getf (e_f1 11 8) 75) n_43_75) n_43_75
theorem t_43_72 : e_Sn 43 72 (e_un n_43_72) := u_getfT (s_getf (C := er_11) (T := et_11) (N := 15) (ref := "Plateroomprinter$World") (index := 425) (ci := 11) (k := 8) hq_43 ho_43 ⟨rfl, by decide, ei_11, (List.mem_of_getElem? (i := 484) (by decide +kernel)), .inl rfl⟩ (by decide +kernel) rfl : e_Sn 43 72 (o_getf (e_f1 11 8) 75)) t_43_75
noncomputable def n_43_69 : e_Y := u_getf 0 1 (u_old (o_getf (e_f1 0 1) 72) n_43_72) n_43_72
theorem t_43_69 : e_Sn 43 69 (e_un n_43_69) := u_getfT (s_getf (C := er_0) (T := et_0) (N := 17) (ref := "Plateroomprinter") (index := 19) (ci := 0) (k := 1) hq_43 ho_43 ⟨rfl, by decide, ei_0, (List.mem_of_getElem? (i := 681) (by decide +kernel)), .inl rfl⟩ (by decide +kernel) rfl : e_Sn 43 69 (o_getf (e_f1 0 1) 72)) t_43_72
noncomputable def n_43_68 : e_Y := u_ld f_okA f_l0 n_43_69
theorem t_43_68 : e_Sn 43 68 (e_un n_43_68) := u_ldAT f_l0_eq (s_aload (i := .aload_n 0) (len := 1) hq_43 (by decide +kernel) rfl (.inr ⟨0, rfl, rfl, rfl⟩) : e_Sn 43 68 (o_load e_okR 0 69)) t_43_69
noncomputable def n_43_67 : e_Y := u_retI
theorem t_43_67 : e_Sn 43 67 (e_un n_43_67) := u_retIT (s_iret hq_43 hr_43 (by decide +kernel) : e_Sn 43 67 (o_ret e_okI))
noncomputable def n_43_64 : e_Y := u_callS 3 4 23 2 n_3_0 n_43_67
theorem t_43_64 : e_Sn 43 64 (e_un n_43_64) := u_callST rfl (s_callS (index := 265) hq_43 ho_43 hy_3 hp_3 hc_3 hi_3 hd_3 (List.mem_of_getElem? (i := 1266) (by decide +kernel)) hs_3 (by decide +kernel) rfl : e_Sn 43 64 (o_callS 3 4 2 67)) t_3_0 t_43_67
noncomputable def n_43_63 : e_Y := u_bin a_imul (u_old (o_imul 64) n_43_64) n_43_64
theorem t_43_63 : e_Sn 43 63 (e_un n_43_63) := u_imulT (s_imul hq_43 (by decide +kernel) rfl : e_Sn 43 63 (o_imul 64)) t_43_64
noncomputable def n_43_61 : e_Y := u_push (.inl 2147483680) n_43_63
theorem t_43_61 : e_Sn 43 61 (e_un n_43_61) := u_pushT (s_bipush (n := (32)) hq_43 (by decide +kernel) rfl ⟨by decide +kernel, by decide +kernel⟩ : e_Sn 43 61 (o_push (.inl 2147483680) 63)) t_43_63
noncomputable def n_43_60 : e_Y := u_bin a_isub (u_old (o_isub 61) n_43_61) n_43_61
theorem t_43_60 : e_Sn 43 60 (e_un n_43_60) := u_isubT (s_isub hq_43 (by decide +kernel) rfl : e_Sn 43 60 (o_isub 61)) t_43_61
noncomputable def n_43_59 : e_Y := u_push (.inl 2147483649) n_43_60
theorem t_43_59 : e_Sn 43 59 (e_un n_43_59) := u_pushT (s_iconst (n := (1)) hq_43 (by decide +kernel) rfl ⟨by decide +kernel, by decide +kernel⟩ : e_Sn 43 59 (o_push (.inl 2147483649) 60)) t_43_60
noncomputable def n_43_58 : e_Y := u_ld f_okI f_l1 n_43_59
theorem t_43_58 : e_Sn 43 58 (e_un n_43_58) := u_ldIT f_l1_eq (s_iload (i := .iload_n 1) (len := 1) hq_43 (by decide +kernel) rfl (.inr ⟨1, rfl, rfl, rfl⟩) : e_Sn 43 58 (o_load e_okI 1 59)) t_43_59
noncomputable def n_43_55 : e_Y := u_getf 9 0 (u_old (o_getf (e_f1 9 0) 58) n_43_58) n_43_58
theorem t_43_55 : e_Sn 43 55 (e_un n_43_55) := u_getfT (s_getf (C := er_9) (T := et_9) (N := 1) (ref := "Plateroomprinter$Sheet") (index := 414) (ci := 9) (k := 0) hq_43 ho_43 ⟨rfl, by decide, ei_9, (List.mem_of_getElem? (i := 382) (by decide +kernel)), .inl rfl⟩ (by decide +kernel) rfl : e_Sn 43 55 (o_getf (e_f1 9 0) 58)) t_43_58
noncomputable def n_43_52 : e_Y := u_getf 11 8 (u_old (o_getf (e_f1 11 8) 55) n_43_55) n_43_55
theorem t_43_52 : e_Sn 43 52 (e_un n_43_52) := u_getfT (s_getf (C := er_11) (T := et_11) (N := 15) (ref := "Plateroomprinter$World") (index := 425) (ci := 11) (k := 8) hq_43 ho_43 ⟨rfl, by decide, ei_11, (List.mem_of_getElem? (i := 484) (by decide +kernel)), .inl rfl⟩ (by decide +kernel) rfl : e_Sn 43 52 (o_getf (e_f1 11 8) 55)) t_43_55
noncomputable def n_43_49 : e_Y := u_getf 0 1 (u_old (o_getf (e_f1 0 1) 52) n_43_52) n_43_52
theorem t_43_49 : e_Sn 43 49 (e_un n_43_49) := u_getfT (s_getf (C := er_0) (T := et_0) (N := 17) (ref := "Plateroomprinter") (index := 19) (ci := 0) (k := 1) hq_43 ho_43 ⟨rfl, by decide, ei_0, (List.mem_of_getElem? (i := 681) (by decide +kernel)), .inl rfl⟩ (by decide +kernel) rfl : e_Sn 43 49 (o_getf (e_f1 0 1) 52)) t_43_52
noncomputable def n_43_48 : e_Y := u_ld f_okA f_l0 n_43_49
theorem t_43_48 : e_Sn 43 48 (e_un n_43_48) := u_ldAT f_l0_eq (s_aload (i := .aload_n 0) (len := 1) hq_43 (by decide +kernel) rfl (.inr ⟨0, rfl, rfl, rfl⟩) : e_Sn 43 48 (o_load e_okR 0 49)) t_43_49
noncomputable def n_43_47 : e_Y := u_retI
theorem t_43_47 : e_Sn 43 47 (e_un n_43_47) := u_retIT (s_iret hq_43 hr_43 (by decide +kernel) : e_Sn 43 47 (o_ret e_okI))
noncomputable def n_43_44 : e_Y := u_getf 11 10 (u_old (o_getf (e_f1 11 10) 47) n_43_47) n_43_47
theorem t_43_44 : e_Sn 43 44 (e_un n_43_44) := u_getfT (s_getf (C := er_11) (T := et_11) (N := 15) (ref := "Plateroomprinter$World") (index := 169) (ci := 11) (k := 10) hq_43 ho_43 ⟨rfl, by decide, ei_11, (List.mem_of_getElem? (i := 489) (by decide +kernel)), .inl rfl⟩ (by decide +kernel) rfl : e_Sn 43 44 (o_getf (e_f1 11 10) 47)) t_43_47
noncomputable def n_43_41 : e_Y := u_getf 0 1 (u_old (o_getf (e_f1 0 1) 44) n_43_44) n_43_44
theorem t_43_41 : e_Sn 43 41 (e_un n_43_41) := u_getfT (s_getf (C := er_0) (T := et_0) (N := 17) (ref := "Plateroomprinter") (index := 19) (ci := 0) (k := 1) hq_43 ho_43 ⟨rfl, by decide, ei_0, (List.mem_of_getElem? (i := 681) (by decide +kernel)), .inl rfl⟩ (by decide +kernel) rfl : e_Sn 43 41 (o_getf (e_f1 0 1) 44)) t_43_44
noncomputable def n_43_40 : e_Y := u_ld f_okA f_l0 n_43_41
theorem t_43_40 : e_Sn 43 40 (e_un n_43_40) := u_ldAT f_l0_eq (s_aload (i := .aload_n 0) (len := 1) hq_43 (by decide +kernel) rfl (.inr ⟨0, rfl, rfl, rfl⟩) : e_Sn 43 40 (o_load e_okR 0 41)) t_43_41
noncomputable def n_43_1 : e_Y := u_tab (o_switch 2147483648 [40, 48, 48, 48, 48, 68] 79)
theorem t_43_1 : e_Sn 43 1 (e_un n_43_1) := u_tabT (s_switch (dflt := (78)) (low := (0)) (hi := (5)) (offs := #[(39), (47), (47), (47), (47), (67)]) (len := 39) hq_43 (by decide +kernel) rfl rfl rfl rfl : e_Sn 43 1 (o_switch 2147483648 [40, 48, 48, 48, 48, 68] 79))
noncomputable def n_43_0 : e_Y := u_ld f_okI f_l1 n_43_1
theorem t_43_0 : e_Sn 43 0 (e_un n_43_0) := u_ldIT f_l1_eq (s_iload (i := .iload_n 1) (len := 1) hq_43 (by decide +kernel) rfl (.inr ⟨1, rfl, rfl, rfl⟩) : e_Sn 43 0 (o_load e_okI 1 1)) t_43_1
noncomputable def e_tb_43 : e_X := (e_br 48 (e_br 40 (e_lf 0 (e_un n_43_0)) (e_lf 40 (e_un n_43_40))) (e_br 68 (e_lf 48 (e_un n_43_48)) (e_br 79 (e_lf 68 (e_un n_43_68)) (e_lf 79 (e_un n_43_79)))))
theorem e_tk_43 : e_Tb 43 e_tb_43 := (e_brT (e_brT (e_lfT t_43_0) (e_lfT t_43_40)) (e_brT (e_lfT t_43_48) (e_brT (e_lfT t_43_68) (e_lfT t_43_79))))
theorem hq_46 : (e_ml[46]?).map (·.2.1) = some prog_1_method_42_code := rfl
theorem ho_46 : (e_ml[46]?).map (·.1.cls) = some "Plateroomprinter" := rfl
theorem hr_46 : (e_ml[46]?).map (·.2.2.2) = some (some .int) := rfl
noncomputable def n_46_47 : e_Y := u_retI
theorem t_46_47 : e_Sn 46 47 (e_un n_46_47) := u_retIT (s_iret hq_46 hr_46 (by decide +kernel) : e_Sn 46 47 (o_ret e_okI))
noncomputable def n_46_46 : e_Y := u_ald 0 (u_old (o_ald e_fcs 47) n_46_47) n_46_47
theorem t_46_46 : e_Sn 46 46 (e_un n_46_46) := u_aldT (s_iald hq_46 (by decide +kernel) rfl : e_Sn 46 46 (o_ald e_fcs 47)) t_46_47
noncomputable def n_46_45 : e_Y := u_bin a_iadd (u_old (o_iadd 46) n_46_46) n_46_46
theorem t_46_45 : e_Sn 46 45 (e_un n_46_45) := u_iaddT (s_iadd hq_46 (by decide +kernel) rfl : e_Sn 46 45 (o_iadd 46)) t_46_46
noncomputable def n_46_44 : e_Y := u_ld f_okI f_l2 n_46_45
theorem t_46_44 : e_Sn 46 44 (e_un n_46_44) := u_ldIT f_l2_eq (s_iload (i := .iload_n 2) (len := 1) hq_46 (by decide +kernel) rfl (.inr ⟨2, rfl, rfl, rfl⟩) : e_Sn 46 44 (o_load e_okI 2 45)) t_46_45
noncomputable def n_46_43 : e_Y := u_bin a_imul (u_old (o_imul 44) n_46_44) n_46_44
theorem t_46_43 : e_Sn 46 43 (e_un n_46_43) := u_imulT (s_imul hq_46 (by decide +kernel) rfl : e_Sn 46 43 (o_imul 44)) t_46_44
noncomputable def n_46_41 : e_Y := u_push (.inl 2147483680) n_46_43
theorem t_46_41 : e_Sn 46 41 (e_un n_46_41) := u_pushT (s_bipush (n := (32)) hq_46 (by decide +kernel) rfl ⟨by decide +kernel, by decide +kernel⟩ : e_Sn 46 41 (o_push (.inl 2147483680) 43)) t_46_43
noncomputable def n_46_40 : e_Y := u_ld f_okI f_l1 n_46_41
theorem t_46_40 : e_Sn 46 40 (e_un n_46_40) := u_ldIT f_l1_eq (s_iload (i := .iload_n 1) (len := 1) hq_46 (by decide +kernel) rfl (.inr ⟨1, rfl, rfl, rfl⟩) : e_Sn 46 40 (o_load e_okI 1 41)) t_46_41
noncomputable def n_46_37 : e_Y := u_getf 9 0 (u_old (o_getf (e_f1 9 0) 40) n_46_40) n_46_40
theorem t_46_37 : e_Sn 46 37 (e_un n_46_37) := u_getfT (s_getf (C := er_9) (T := et_9) (N := 1) (ref := "Plateroomprinter$Sheet") (index := 414) (ci := 9) (k := 0) hq_46 ho_46 ⟨rfl, by decide, ei_9, (List.mem_of_getElem? (i := 382) (by decide +kernel)), .inl rfl⟩ (by decide +kernel) rfl : e_Sn 46 37 (o_getf (e_f1 9 0) 40)) t_46_40
noncomputable def n_46_34 : e_Y := u_getf 11 7 (u_old (o_getf (e_f1 11 7) 37) n_46_37) n_46_37
theorem t_46_34 : e_Sn 46 34 (e_un n_46_34) := u_getfT (s_getf (C := er_11) (T := et_11) (N := 15) (ref := "Plateroomprinter$World") (index := 406) (ci := 11) (k := 7) hq_46 ho_46 ⟨rfl, by decide, ei_11, (List.mem_of_getElem? (i := 481) (by decide +kernel)), .inl rfl⟩ (by decide +kernel) rfl : e_Sn 46 34 (o_getf (e_f1 11 7) 37)) t_46_37
noncomputable def n_46_31 : e_Y := u_getf 0 1 (u_old (o_getf (e_f1 0 1) 34) n_46_34) n_46_34
theorem t_46_31 : e_Sn 46 31 (e_un n_46_31) := u_getfT (s_getf (C := er_0) (T := et_0) (N := 17) (ref := "Plateroomprinter") (index := 19) (ci := 0) (k := 1) hq_46 ho_46 ⟨rfl, by decide, ei_0, (List.mem_of_getElem? (i := 681) (by decide +kernel)), .inl rfl⟩ (by decide +kernel) rfl : e_Sn 46 31 (o_getf (e_f1 0 1) 34)) t_46_34
noncomputable def n_46_30 : e_Y := u_ld f_okA f_l0 n_46_31
theorem t_46_30 : e_Sn 46 30 (e_un n_46_30) := u_ldAT f_l0_eq (s_aload (i := .aload_n 0) (len := 1) hq_46 (by decide +kernel) rfl (.inr ⟨0, rfl, rfl, rfl⟩) : e_Sn 46 30 (o_load e_okR 0 31)) t_46_31
noncomputable def n_46_19 : e_Y := u_tab (o_throw 2)
theorem t_46_19 : e_Sn 46 19 (e_un n_46_19) := u_tabT (s_throw (ik := 175) (is := 412) (ic := 179) (X := "java/lang/IndexOutOfBoundsException") (text := "no such row") hq_46 ho_46 hy_46 hc_46 rfl (by decide +kernel) e_wok2 (by simp [e_sr]) (by decide +kernel) (by decide +kernel) (.inr ⟨(by decide +kernel), (by decide +kernel), (by decide +kernel)⟩) : e_Sn 46 19 (o_throw 2))
noncomputable def n_46_16 : e_Y := u_jmp y_ge (u_old2 (o_clt 30 19) 30 n_46_30 n_46_19) n_46_30 n_46_19
theorem t_46_16 : e_Sn 46 16 (e_un n_46_16) := u_cltT rfl (s_clt (off := (14)) hq_46 (by decide +kernel) rfl rfl : e_Sn 46 16 (o_clt 30 19)) t_46_30 t_46_19
noncomputable def n_46_14 : e_Y := u_push (.inl 2147483680) n_46_16
theorem t_46_14 : e_Sn 46 14 (e_un n_46_14) := u_pushT (s_bipush (n := (32)) hq_46 (by decide +kernel) rfl ⟨by decide +kernel, by decide +kernel⟩ : e_Sn 46 14 (o_push (.inl 2147483680) 16)) t_46_16
noncomputable def n_46_13 : e_Y := u_ld f_okI f_l2 n_46_14
theorem t_46_13 : e_Sn 46 13 (e_un n_46_13) := u_ldIT f_l2_eq (s_iload (i := .iload_n 2) (len := 1) hq_46 (by decide +kernel) rfl (.inr ⟨2, rfl, rfl, rfl⟩) : e_Sn 46 13 (o_load e_okI 2 14)) t_46_14
noncomputable def n_46_10 : e_Y := u_if y_ge0 (u_old2 (o_iflt 19 13) 19 n_46_19 n_46_13) n_46_19 n_46_13
theorem t_46_10 : e_Sn 46 10 (e_un n_46_10) := u_ifltT rfl (s_iflt (off := (9)) hq_46 (by decide +kernel) rfl rfl : e_Sn 46 10 (o_iflt 19 13)) t_46_19 t_46_13
noncomputable def n_46_9 : e_Y := u_ld f_okI f_l2 n_46_10
theorem t_46_9 : e_Sn 46 9 (e_un n_46_9) := u_ldIT f_l2_eq (s_iload (i := .iload_n 2) (len := 1) hq_46 (by decide +kernel) rfl (.inr ⟨2, rfl, rfl, rfl⟩) : e_Sn 46 9 (o_load e_okI 2 10)) t_46_10
noncomputable def n_46_6 : e_Y := u_jmp y_ge (u_old2 (o_clt 9 19) 9 n_46_9 n_46_19) n_46_9 n_46_19
theorem t_46_6 : e_Sn 46 6 (e_un n_46_6) := u_cltT rfl (s_cge (off := (13)) hq_46 (by decide +kernel) rfl rfl : e_Sn 46 6 (o_clt 9 19)) t_46_9 t_46_19
noncomputable def n_46_5 : e_Y := u_push (.inl 2147483652) n_46_6
theorem t_46_5 : e_Sn 46 5 (e_un n_46_5) := u_pushT (s_iconst (n := (4)) hq_46 (by decide +kernel) rfl ⟨by decide +kernel, by decide +kernel⟩ : e_Sn 46 5 (o_push (.inl 2147483652) 6)) t_46_6
noncomputable def n_46_4 : e_Y := u_ld f_okI f_l1 n_46_5
theorem t_46_4 : e_Sn 46 4 (e_un n_46_4) := u_ldIT f_l1_eq (s_iload (i := .iload_n 1) (len := 1) hq_46 (by decide +kernel) rfl (.inr ⟨1, rfl, rfl, rfl⟩) : e_Sn 46 4 (o_load e_okI 1 5)) t_46_5
noncomputable def n_46_1 : e_Y := u_if y_ge0 (u_old2 (o_iflt 19 4) 19 n_46_19 n_46_4) n_46_19 n_46_4
theorem t_46_1 : e_Sn 46 1 (e_un n_46_1) := u_ifltT rfl (s_iflt (off := (18)) hq_46 (by decide +kernel) rfl rfl : e_Sn 46 1 (o_iflt 19 4)) t_46_19 t_46_4
noncomputable def n_46_0 : e_Y := u_ld f_okI f_l1 n_46_1
theorem t_46_0 : e_Sn 46 0 (e_un n_46_0) := u_ldIT f_l1_eq (s_iload (i := .iload_n 1) (len := 1) hq_46 (by decide +kernel) rfl (.inr ⟨1, rfl, rfl, rfl⟩) : e_Sn 46 0 (o_load e_okI 1 1)) t_46_1
noncomputable def e_tb_46 : e_X := (e_lf 0 (e_un n_46_0))
theorem e_tk_46 : e_Tb 46 e_tb_46 := (e_lfT t_46_0)
theorem hq_52 : (e_ml[52]?).map (·.2.1) = some prog_1_method_58_code := rfl
theorem ho_52 : (e_ml[52]?).map (·.1.cls) = some "Plateroomprinter" := rfl
theorem hr_52 : (e_ml[52]?).map (·.2.2.2) = some (some .int) := rfl
noncomputable def n_52_96 : e_Y := u_retI
theorem t_52_96 : e_Sn 52 96 (e_un n_52_96) := u_retIT (s_iret hq_52 hr_52 (by decide +kernel) : e_Sn 52 96 (o_ret e_okI))
noncomputable def n_52_95 : e_Y := u_bin a_iadd (u_old (o_iadd 96) n_52_96) n_52_96
theorem t_52_95 : e_Sn 52 95 (e_un n_52_95) := u_iaddT (s_iadd hq_52 (by decide +kernel) rfl : e_Sn 52 95 (o_iadd 96)) t_52_96
noncomputable def n_52_94 : e_Y := u_push (.inl 2147483649) n_52_95
theorem t_52_94 : e_Sn 52 94 (e_un n_52_94) := u_pushT (s_iconst (n := (1)) hq_52 (by decide +kernel) rfl ⟨by decide +kernel, by decide +kernel⟩ : e_Sn 52 94 (o_push (.inl 2147483649) 95)) t_52_95
noncomputable def n_52_92 : e_Y := u_ld f_okI f_l4 n_52_94
theorem t_52_92 : e_Sn 52 92 (e_un n_52_92) := u_ldIT f_l4_eq (s_iload (i := .iload 4) (len := 2) hq_52 (by decide +kernel) rfl (.inl ⟨rfl, rfl⟩) : e_Sn 52 92 (o_load e_okI 4 94)) t_52_94
noncomputable def n_52_91 : e_Y := u_old (o_ast 0 e_okI 92) n_52_92
theorem t_52_91 : e_Sn 52 91 (e_un n_52_91) := u_oldT (s_iast hq_52 (by decide +kernel) rfl : e_Sn 52 91 (o_ast 0 e_okI 92)) t_52_92 (e_cg_ast 0 e_okI)
noncomputable def n_52_90 : e_Y := u_ld f_okI f_l3 n_52_91
theorem t_52_90 : e_Sn 52 90 (e_un n_52_90) := u_ldIT f_l3_eq (s_iload (i := .iload_n 3) (len := 1) hq_52 (by decide +kernel) rfl (.inr ⟨3, rfl, rfl, rfl⟩) : e_Sn 52 90 (o_load e_okI 3 91)) t_52_91
noncomputable def n_52_88 : e_Y := u_ld f_okI f_l4 n_52_90
theorem t_52_88 : e_Sn 52 88 (e_un n_52_88) := u_ldIT f_l4_eq (s_iload (i := .iload 4) (len := 2) hq_52 (by decide +kernel) rfl (.inl ⟨rfl, rfl⟩) : e_Sn 52 88 (o_load e_okI 4 90)) t_52_90
noncomputable def n_52_85 : e_Y := u_getf 0 12 (u_old (o_getf (e_f1 0 12) 88) n_52_88) n_52_88
theorem t_52_85 : e_Sn 52 85 (e_un n_52_85) := u_getfT (s_getf (C := er_0) (T := et_0) (N := 17) (ref := "Plateroomprinter") (index := 74) (ci := 0) (k := 12) hq_52 ho_52 ⟨rfl, by decide, ei_0, (List.mem_of_getElem? (i := 692) (by decide +kernel)), .inl rfl⟩ (by decide +kernel) rfl : e_Sn 52 85 (o_getf (e_f1 0 12) 88)) t_52_88
noncomputable def n_52_84 : e_Y := u_ld f_okA f_l0 n_52_85
theorem t_52_84 : e_Sn 52 84 (e_un n_52_84) := u_ldAT f_l0_eq (s_aload (i := .aload_n 0) (len := 1) hq_52 (by decide +kernel) rfl (.inr ⟨0, rfl, rfl, rfl⟩) : e_Sn 52 84 (o_load e_okR 0 85)) t_52_85
noncomputable def n_52_81 : e_Y := u_jmp y_ge (u_old2 (o_clt 84 92) 84 n_52_84 n_52_92) n_52_84 n_52_92
theorem t_52_81 : e_Sn 52 81 (e_un n_52_81) := u_cltT rfl (s_cge (off := (11)) hq_52 (by decide +kernel) rfl rfl : e_Sn 52 81 (o_clt 84 92)) t_52_84 t_52_92
noncomputable def n_52_80 : e_Y := u_old (o_alen e_fcs 81) n_52_81
theorem t_52_80 : e_Sn 52 80 (e_un n_52_80) := u_oldT (s_alen hq_52 (by decide +kernel) rfl : e_Sn 52 80 (o_alen e_fcs 81)) t_52_81 (e_cg_alen e_fcs)
noncomputable def n_52_77 : e_Y := u_getf 0 12 (u_old (o_getf (e_f1 0 12) 80) n_52_80) n_52_80
theorem t_52_77 : e_Sn 52 77 (e_un n_52_77) := u_getfT (s_getf (C := er_0) (T := et_0) (N := 17) (ref := "Plateroomprinter") (index := 74) (ci := 0) (k := 12) hq_52 ho_52 ⟨rfl, by decide, ei_0, (List.mem_of_getElem? (i := 692) (by decide +kernel)), .inl rfl⟩ (by decide +kernel) rfl : e_Sn 52 77 (o_getf (e_f1 0 12) 80)) t_52_80
noncomputable def n_52_76 : e_Y := u_ld f_okA f_l0 n_52_77
theorem t_52_76 : e_Sn 52 76 (e_un n_52_76) := u_ldAT f_l0_eq (s_aload (i := .aload_n 0) (len := 1) hq_52 (by decide +kernel) rfl (.inr ⟨0, rfl, rfl, rfl⟩) : e_Sn 52 76 (o_load e_okR 0 77)) t_52_77
noncomputable def n_52_74 : e_Y := u_ld f_okI f_l4 n_52_76
theorem t_52_74 : e_Sn 52 74 (e_un n_52_74) := u_ldIT f_l4_eq (s_iload (i := .iload 4) (len := 2) hq_52 (by decide +kernel) rfl (.inl ⟨rfl, rfl⟩) : e_Sn 52 74 (o_load e_okI 4 76)) t_52_76
noncomputable def n_52_71 : e_Y := u_if y_ge0 (u_old2 (o_iflt 92 74) 92 n_52_92 n_52_74) n_52_92 n_52_74
theorem t_52_71 : e_Sn 52 71 (e_un n_52_71) := u_ifltT rfl (s_iflt (off := (21)) hq_52 (by decide +kernel) rfl rfl : e_Sn 52 71 (o_iflt 92 74)) t_52_92 t_52_74
noncomputable def n_52_69 : e_Y := u_ld f_okI f_l4 n_52_71
theorem t_52_69 : e_Sn 52 69 (e_un n_52_69) := u_ldIT f_l4_eq (s_iload (i := .iload 4) (len := 2) hq_52 (by decide +kernel) rfl (.inl ⟨rfl, rfl⟩) : e_Sn 52 69 (o_load e_okI 4 71)) t_52_71
noncomputable def n_52_66 : e_Y := (u_at 8)
theorem t_52_66 : e_Sn 52 66 (e_un n_52_66) := u_gotoT (s_goto (off := (-58)) hq_52 (by decide +kernel) rfl : e_Sn 52 66 (o_goto 8)) u_atT
noncomputable def n_52_63 : e_Y := u_inc f_l5 f_s5 1 n_52_66
theorem t_52_63 : e_Sn 52 63 (e_un n_52_63) := u_incT f_l5_eq (fun _ _ _ => f_s5_eq) (s_iinc (zz := (1)) hq_52 (by decide +kernel) rfl (by decide +kernel) ⟨by decide, by decide⟩ : e_Sn 52 63 (o_iinc 5 1 66)) t_52_66
noncomputable def n_52_60 : e_Y := u_inc f_l3 f_s3 4294967197 n_52_63
theorem t_52_60 : e_Sn 52 60 (e_un n_52_60) := u_incT f_l3_eq (fun _ _ _ => f_s3_eq) (s_iinc (zz := (-99)) hq_52 (by decide +kernel) rfl (by decide +kernel) ⟨by decide, by decide⟩ : e_Sn 52 60 (o_iinc 3 4294967197 63)) t_52_63
noncomputable def n_52_57 : e_Y := u_inc f_l4 f_s4 2 n_52_60
theorem t_52_57 : e_Sn 52 57 (e_un n_52_57) := u_incT f_l4_eq (fun _ _ _ => f_s4_eq) (s_iinc (zz := (2)) hq_52 (by decide +kernel) rfl (by decide +kernel) ⟨by decide, by decide⟩ : e_Sn 52 57 (o_iinc 4 2 60)) t_52_60
noncomputable def n_52_56 : e_Y := u_old (o_ast 0 e_okI 57) n_52_57
theorem t_52_56 : e_Sn 52 56 (e_un n_52_56) := u_oldT (s_iast hq_52 (by decide +kernel) rfl : e_Sn 52 56 (o_ast 0 e_okI 57)) t_52_57 (e_cg_ast 0 e_okI)
noncomputable def n_52_55 : e_Y := u_push (.inl 2147483648) n_52_56
theorem t_52_55 : e_Sn 52 55 (e_un n_52_55) := u_pushT (s_iconst (n := (0)) hq_52 (by decide +kernel) rfl ⟨by decide +kernel, by decide +kernel⟩ : e_Sn 52 55 (o_push (.inl 2147483648) 56)) t_52_56
noncomputable def n_52_54 : e_Y := u_bin a_iadd (u_old (o_iadd 55) n_52_55) n_52_55
theorem t_52_54 : e_Sn 52 54 (e_un n_52_54) := u_iaddT (s_iadd hq_52 (by decide +kernel) rfl : e_Sn 52 54 (o_iadd 55)) t_52_55
noncomputable def n_52_53 : e_Y := u_push (.inl 2147483649) n_52_54
theorem t_52_53 : e_Sn 52 53 (e_un n_52_53) := u_pushT (s_iconst (n := (1)) hq_52 (by decide +kernel) rfl ⟨by decide +kernel, by decide +kernel⟩ : e_Sn 52 53 (o_push (.inl 2147483649) 54)) t_52_54
noncomputable def n_52_51 : e_Y := u_ld f_okI f_l4 n_52_53
theorem t_52_51 : e_Sn 52 51 (e_un n_52_51) := u_ldIT f_l4_eq (s_iload (i := .iload 4) (len := 2) hq_52 (by decide +kernel) rfl (.inl ⟨rfl, rfl⟩) : e_Sn 52 51 (o_load e_okI 4 53)) t_52_53
noncomputable def n_52_48 : e_Y := u_getf 0 12 (u_old (o_getf (e_f1 0 12) 51) n_52_51) n_52_51
theorem t_52_48 : e_Sn 52 48 (e_un n_52_48) := u_getfT (s_getf (C := er_0) (T := et_0) (N := 17) (ref := "Plateroomprinter") (index := 74) (ci := 0) (k := 12) hq_52 ho_52 ⟨rfl, by decide, ei_0, (List.mem_of_getElem? (i := 692) (by decide +kernel)), .inl rfl⟩ (by decide +kernel) rfl : e_Sn 52 48 (o_getf (e_f1 0 12) 51)) t_52_51
noncomputable def n_52_47 : e_Y := u_ld f_okA f_l0 n_52_48
theorem t_52_47 : e_Sn 52 47 (e_un n_52_47) := u_ldAT f_l0_eq (s_aload (i := .aload_n 0) (len := 1) hq_52 (by decide +kernel) rfl (.inr ⟨0, rfl, rfl, rfl⟩) : e_Sn 52 47 (o_load e_okR 0 48)) t_52_48
noncomputable def n_52_46 : e_Y := u_old (o_ast 0 e_okI 47) n_52_47
theorem t_52_46 : e_Sn 52 46 (e_un n_52_46) := u_oldT (s_iast hq_52 (by decide +kernel) rfl : e_Sn 52 46 (o_ast 0 e_okI 47)) t_52_47 (e_cg_ast 0 e_okI)
noncomputable def n_52_44 : e_Y := u_push (.inl 2147483747) n_52_46
theorem t_52_44 : e_Sn 52 44 (e_un n_52_44) := u_pushT (s_bipush (n := (99)) hq_52 (by decide +kernel) rfl ⟨by decide +kernel, by decide +kernel⟩ : e_Sn 52 44 (o_push (.inl 2147483747) 46)) t_52_46
noncomputable def n_52_42 : e_Y := u_ld f_okI f_l4 n_52_44
theorem t_52_42 : e_Sn 52 42 (e_un n_52_42) := u_ldIT f_l4_eq (s_iload (i := .iload 4) (len := 2) hq_52 (by decide +kernel) rfl (.inl ⟨rfl, rfl⟩) : e_Sn 52 42 (o_load e_okI 4 44)) t_52_44
noncomputable def n_52_39 : e_Y := u_getf 0 12 (u_old (o_getf (e_f1 0 12) 42) n_52_42) n_52_42
theorem t_52_39 : e_Sn 52 39 (e_un n_52_39) := u_getfT (s_getf (C := er_0) (T := et_0) (N := 17) (ref := "Plateroomprinter") (index := 74) (ci := 0) (k := 12) hq_52 ho_52 ⟨rfl, by decide, ei_0, (List.mem_of_getElem? (i := 692) (by decide +kernel)), .inl rfl⟩ (by decide +kernel) rfl : e_Sn 52 39 (o_getf (e_f1 0 12) 42)) t_52_42
noncomputable def n_52_38 : e_Y := u_ld f_okA f_l0 n_52_39
theorem t_52_38 : e_Sn 52 38 (e_un n_52_38) := u_ldAT f_l0_eq (s_aload (i := .aload_n 0) (len := 1) hq_52 (by decide +kernel) rfl (.inr ⟨0, rfl, rfl, rfl⟩) : e_Sn 52 38 (o_load e_okR 0 39)) t_52_39
noncomputable def n_52_35 : e_Y := u_jmp y_ge (u_old2 (o_clt 38 57) 38 n_52_38 n_52_57) n_52_38 n_52_57
theorem t_52_35 : e_Sn 52 35 (e_un n_52_35) := u_cltT rfl (s_cge (off := (22)) hq_52 (by decide +kernel) rfl rfl : e_Sn 52 35 (o_clt 38 57)) t_52_38 t_52_57
noncomputable def n_52_34 : e_Y := u_old (o_alen e_fcs 35) n_52_35
theorem t_52_34 : e_Sn 52 34 (e_un n_52_34) := u_oldT (s_alen hq_52 (by decide +kernel) rfl : e_Sn 52 34 (o_alen e_fcs 35)) t_52_35 (e_cg_alen e_fcs)
noncomputable def n_52_31 : e_Y := u_getf 0 12 (u_old (o_getf (e_f1 0 12) 34) n_52_34) n_52_34
theorem t_52_31 : e_Sn 52 31 (e_un n_52_31) := u_getfT (s_getf (C := er_0) (T := et_0) (N := 17) (ref := "Plateroomprinter") (index := 74) (ci := 0) (k := 12) hq_52 ho_52 ⟨rfl, by decide, ei_0, (List.mem_of_getElem? (i := 692) (by decide +kernel)), .inl rfl⟩ (by decide +kernel) rfl : e_Sn 52 31 (o_getf (e_f1 0 12) 34)) t_52_34
noncomputable def n_52_30 : e_Y := u_ld f_okA f_l0 n_52_31
theorem t_52_30 : e_Sn 52 30 (e_un n_52_30) := u_ldAT f_l0_eq (s_aload (i := .aload_n 0) (len := 1) hq_52 (by decide +kernel) rfl (.inr ⟨0, rfl, rfl, rfl⟩) : e_Sn 52 30 (o_load e_okR 0 31)) t_52_31
noncomputable def n_52_29 : e_Y := u_bin a_iadd (u_old (o_iadd 30) n_52_30) n_52_30
theorem t_52_29 : e_Sn 52 29 (e_un n_52_29) := u_iaddT (s_iadd hq_52 (by decide +kernel) rfl : e_Sn 52 29 (o_iadd 30)) t_52_30
noncomputable def n_52_28 : e_Y := u_push (.inl 2147483649) n_52_29
theorem t_52_28 : e_Sn 52 28 (e_un n_52_28) := u_pushT (s_iconst (n := (1)) hq_52 (by decide +kernel) rfl ⟨by decide +kernel, by decide +kernel⟩ : e_Sn 52 28 (o_push (.inl 2147483649) 29)) t_52_29
noncomputable def n_52_26 : e_Y := u_ld f_okI f_l4 n_52_28
theorem t_52_26 : e_Sn 52 26 (e_un n_52_26) := u_ldIT f_l4_eq (s_iload (i := .iload 4) (len := 2) hq_52 (by decide +kernel) rfl (.inl ⟨rfl, rfl⟩) : e_Sn 52 26 (o_load e_okI 4 28)) t_52_28
noncomputable def n_52_23 : e_Y := u_if y_ge0 (u_old2 (o_iflt 57 26) 57 n_52_57 n_52_26) n_52_57 n_52_26
theorem t_52_23 : e_Sn 52 23 (e_un n_52_23) := u_ifltT rfl (s_iflt (off := (34)) hq_52 (by decide +kernel) rfl rfl : e_Sn 52 23 (o_iflt 57 26)) t_52_57 t_52_26
noncomputable def n_52_21 : e_Y := u_ld f_okI f_l4 n_52_23
theorem t_52_21 : e_Sn 52 21 (e_un n_52_21) := u_ldIT f_l4_eq (s_iload (i := .iload 4) (len := 2) hq_52 (by decide +kernel) rfl (.inl ⟨rfl, rfl⟩) : e_Sn 52 21 (o_load e_okI 4 23)) t_52_23
noncomputable def n_52_18 : e_Y := u_jmp y_le (u_old2 (o_cgt 21 69) 21 n_52_21 n_52_69) n_52_21 n_52_69
theorem t_52_18 : e_Sn 52 18 (e_un n_52_18) := u_cgtT rfl (s_cle (off := (51)) hq_52 (by decide +kernel) rfl rfl : e_Sn 52 18 (o_cgt 21 69)) t_52_21 t_52_69
noncomputable def n_52_16 : e_Y := u_push (.inl 2147483747) n_52_18
theorem t_52_16 : e_Sn 52 16 (e_un n_52_16) := u_pushT (s_bipush (n := (99)) hq_52 (by decide +kernel) rfl ⟨by decide +kernel, by decide +kernel⟩ : e_Sn 52 16 (o_push (.inl 2147483747) 18)) t_52_18
noncomputable def n_52_15 : e_Y := u_ld f_okI f_l3 n_52_16
theorem t_52_15 : e_Sn 52 15 (e_un n_52_15) := u_ldIT f_l3_eq (s_iload (i := .iload_n 3) (len := 1) hq_52 (by decide +kernel) rfl (.inr ⟨3, rfl, rfl, rfl⟩) : e_Sn 52 15 (o_load e_okI 3 16)) t_52_16
noncomputable def n_52_12 : e_Y := u_jmp y_ge (u_old2 (o_clt 15 69) 15 n_52_15 n_52_69) n_52_15 n_52_69
theorem t_52_12 : e_Sn 52 12 (e_un n_52_12) := u_cltT rfl (s_cge (off := (57)) hq_52 (by decide +kernel) rfl rfl : e_Sn 52 12 (o_clt 15 69)) t_52_15 t_52_69
noncomputable def n_52_10 : e_Y := u_push (.inl 2147483680) n_52_12
theorem t_52_10 : e_Sn 52 10 (e_un n_52_10) := u_pushT (s_bipush (n := (32)) hq_52 (by decide +kernel) rfl ⟨by decide +kernel, by decide +kernel⟩ : e_Sn 52 10 (o_push (.inl 2147483680) 12)) t_52_12
noncomputable def n_52_8 : e_Y := u_ld f_okI f_l5 n_52_10
theorem t_52_8 : e_Sn 52 8 (e_un n_52_8) := u_ldIT f_l5_eq (s_iload (i := .iload 5) (len := 2) hq_52 (by decide +kernel) rfl (.inl ⟨rfl, rfl⟩) : e_Sn 52 8 (o_load e_okI 5 10)) t_52_10
noncomputable def n_52_6 : e_Y := u_st f_okI f_s5 n_52_8
theorem t_52_6 : e_Sn 52 6 (e_un n_52_6) := u_stIT (fun _ _ _ => f_s5_eq) (s_istore (i := .istore 5) (len := 2) hq_52 (by decide +kernel) rfl (.inl ⟨rfl, rfl⟩) : e_Sn 52 6 (o_store e_okI 5 8)) t_52_8
noncomputable def n_52_5 : e_Y := u_push (.inl 2147483648) n_52_6
theorem t_52_5 : e_Sn 52 5 (e_un n_52_5) := u_pushT (s_iconst (n := (0)) hq_52 (by decide +kernel) rfl ⟨by decide +kernel, by decide +kernel⟩ : e_Sn 52 5 (o_push (.inl 2147483648) 6)) t_52_6
noncomputable def n_52_3 : e_Y := u_st f_okI f_s4 n_52_5
theorem t_52_3 : e_Sn 52 3 (e_un n_52_3) := u_stIT (fun _ _ _ => f_s4_eq) (s_istore (i := .istore 4) (len := 2) hq_52 (by decide +kernel) rfl (.inl ⟨rfl, rfl⟩) : e_Sn 52 3 (o_store e_okI 4 5)) t_52_5
noncomputable def n_52_2 : e_Y := u_ld f_okI f_l2 n_52_3
theorem t_52_2 : e_Sn 52 2 (e_un n_52_2) := u_ldIT f_l2_eq (s_iload (i := .iload_n 2) (len := 1) hq_52 (by decide +kernel) rfl (.inr ⟨2, rfl, rfl, rfl⟩) : e_Sn 52 2 (o_load e_okI 2 3)) t_52_3
noncomputable def n_52_1 : e_Y := u_st f_okI f_s3 n_52_2
theorem t_52_1 : e_Sn 52 1 (e_un n_52_1) := u_stIT (fun _ _ _ => f_s3_eq) (s_istore (i := .istore_n 3) (len := 1) hq_52 (by decide +kernel) rfl (.inr ⟨3, rfl, rfl, rfl⟩) : e_Sn 52 1 (o_store e_okI 3 2)) t_52_2
noncomputable def n_52_0 : e_Y := u_ld f_okI f_l1 n_52_1
theorem t_52_0 : e_Sn 52 0 (e_un n_52_0) := u_ldIT f_l1_eq (s_iload (i := .iload_n 1) (len := 1) hq_52 (by decide +kernel) rfl (.inr ⟨1, rfl, rfl, rfl⟩) : e_Sn 52 0 (o_load e_okI 1 1)) t_52_1
noncomputable def e_tb_52 : e_X := (e_br 8 (e_lf 0 (e_un n_52_0)) (e_lf 8 (e_un n_52_8)))
theorem e_tk_52 : e_Tb 52 e_tb_52 := (e_brT (e_lfT t_52_0) (e_lfT t_52_8))
theorem hq_41 : (e_ml[41]?).map (·.2.1) = some prog_1_method_57_code := rfl
theorem ho_41 : (e_ml[41]?).map (·.1.cls) = some "Plateroomprinter" := rfl
theorem hr_41 : (e_ml[41]?).map (·.2.2.2) = some (some .int) := rfl
noncomputable def n_41_95 : e_Y := u_retI
theorem t_41_95 : e_Sn 41 95 (e_un n_41_95) := u_retIT (s_iret hq_41 hr_41 (by decide +kernel) : e_Sn 41 95 (o_ret e_okI))
noncomputable def n_41_92 : e_Y := u_callV 0 52 6 25 3 n_52_0 n_41_95
theorem t_41_92 : e_Sn 41 92 (e_un n_41_92) := u_callVT rfl (s_callV (ci := 0) (C := er_0) (T := et_0) (N := 17) (index := 495) hq_41 ho_41 hy_52 hp_52 hc_52 hi_52 hd_52 (List.mem_of_getElem? (i := 1432) (by decide +kernel)) hs_52 (List.mem_of_getElem? (i := 63) (by decide +kernel)) rfl (by decide +kernel) rfl : e_Sn 41 92 (o_callV (e_s1 0 52 6) 3 95)) t_52_0 t_41_95
noncomputable def n_41_91 : e_Y := u_ld f_okI f_l2 n_41_92
theorem t_41_91 : e_Sn 41 91 (e_un n_41_91) := u_ldIT f_l2_eq (s_iload (i := .iload_n 2) (len := 1) hq_41 (by decide +kernel) rfl (.inr ⟨2, rfl, rfl, rfl⟩) : e_Sn 41 91 (o_load e_okI 2 92)) t_41_92
noncomputable def n_41_90 : e_Y := u_ld f_okI f_l3 n_41_91
theorem t_41_90 : e_Sn 41 90 (e_un n_41_90) := u_ldIT f_l3_eq (s_iload (i := .iload_n 3) (len := 1) hq_41 (by decide +kernel) rfl (.inr ⟨3, rfl, rfl, rfl⟩) : e_Sn 41 90 (o_load e_okI 3 91)) t_41_91
noncomputable def n_41_89 : e_Y := u_ld f_okA f_l0 n_41_90
theorem t_41_89 : e_Sn 41 89 (e_un n_41_89) := u_ldAT f_l0_eq (s_aload (i := .aload_n 0) (len := 1) hq_41 (by decide +kernel) rfl (.inr ⟨0, rfl, rfl, rfl⟩) : e_Sn 41 89 (o_load e_okR 0 90)) t_41_90
noncomputable def n_41_86 : e_Y := (u_at 10)
theorem t_41_86 : e_Sn 41 86 (e_un n_41_86) := u_gotoT (s_goto (off := (-76)) hq_41 (by decide +kernel) rfl : e_Sn 41 86 (o_goto 10)) u_atT
noncomputable def n_41_83 : e_Y := u_inc f_l5 f_s5 1 n_41_86
theorem t_41_83 : e_Sn 41 83 (e_un n_41_83) := u_incT f_l5_eq (fun _ _ _ => f_s5_eq) (s_iinc (zz := (1)) hq_41 (by decide +kernel) rfl (by decide +kernel) ⟨by decide, by decide⟩ : e_Sn 41 83 (o_iinc 5 1 86)) t_41_86
noncomputable def n_41_80 : e_Y := (u_at 40)
theorem t_41_80 : e_Sn 41 80 (e_un n_41_80) := u_gotoT (s_goto (off := (-40)) hq_41 (by decide +kernel) rfl : e_Sn 41 80 (o_goto 40)) u_atT
noncomputable def n_41_77 : e_Y := u_inc f_l7 f_s7 1 n_41_80
theorem t_41_77 : e_Sn 41 77 (e_un n_41_77) := u_incT f_l7_eq (fun _ _ _ => f_s7_eq) (s_iinc (zz := (1)) hq_41 (by decide +kernel) rfl (by decide +kernel) ⟨by decide, by decide⟩ : e_Sn 41 77 (o_iinc 7 1 80)) t_41_80
noncomputable def n_41_74 : e_Y := u_inc f_l3 f_s3 1 n_41_77
theorem t_41_74 : e_Sn 41 74 (e_un n_41_74) := u_incT f_l3_eq (fun _ _ _ => f_s3_eq) (s_iinc (zz := (1)) hq_41 (by decide +kernel) rfl (by decide +kernel) ⟨by decide, by decide⟩ : e_Sn 41 74 (o_iinc 3 1 77)) t_41_77
noncomputable def n_41_56 : e_Y := u_jmp y_ne (u_old2 (o_ceq 74 59) 74 n_41_74 (u_at 59)) n_41_74 (u_at 59)
theorem t_41_56 : e_Sn 41 56 (e_un n_41_56) := u_ceqT rfl (s_ceq (off := (18)) hq_41 (by decide +kernel) rfl rfl : e_Sn 41 56 (o_ceq 74 59)) t_41_74 u_atT
noncomputable def n_41_54 : e_Y := u_ld f_okI f_l4 n_41_56
theorem t_41_54 : e_Sn 41 54 (e_un n_41_54) := u_ldIT f_l4_eq (s_iload (i := .iload 4) (len := 2) hq_41 (by decide +kernel) rfl (.inl ⟨rfl, rfl⟩) : e_Sn 41 54 (o_load e_okI 4 56)) t_41_56
noncomputable def n_41_53 : e_Y := u_bin a_iand (u_old (o_bin Nat.land 54) n_41_54) n_41_54
theorem t_41_53 : e_Sn 41 53 (e_un n_41_53) := u_iandT (s_iand hq_41 (by decide +kernel) rfl : e_Sn 41 53 (o_bin Nat.land 54)) t_41_54
noncomputable def n_41_52 : e_Y := u_push (.inl 2147483649) n_41_53
theorem t_41_52 : e_Sn 41 52 (e_un n_41_52) := u_pushT (s_iconst (n := (1)) hq_41 (by decide +kernel) rfl ⟨by decide +kernel, by decide +kernel⟩ : e_Sn 41 52 (o_push (.inl 2147483649) 53)) t_41_53
noncomputable def n_41_51 : e_Y := u_bin a_iushr (u_old (o_iushr 52) n_41_52) n_41_52
theorem t_41_51 : e_Sn 41 51 (e_un n_41_51) := u_iushrT (s_iushr hq_41 (by decide +kernel) rfl : e_Sn 41 51 (o_iushr 52)) t_41_52
noncomputable def n_41_49 : e_Y := u_ld f_okI f_l7 n_41_51
theorem t_41_49 : e_Sn 41 49 (e_un n_41_49) := u_ldIT f_l7_eq (s_iload (i := .iload 7) (len := 2) hq_41 (by decide +kernel) rfl (.inl ⟨rfl, rfl⟩) : e_Sn 41 49 (o_load e_okI 7 51)) t_41_51
noncomputable def n_41_47 : e_Y := u_ld f_okI f_l6 n_41_49
theorem t_41_47 : e_Sn 41 47 (e_un n_41_47) := u_ldIT f_l6_eq (s_iload (i := .iload 6) (len := 2) hq_41 (by decide +kernel) rfl (.inl ⟨rfl, rfl⟩) : e_Sn 41 47 (o_load e_okI 6 49)) t_41_49
noncomputable def n_41_44 : e_Y := u_jmp y_ge (u_old2 (o_clt 47 83) 47 n_41_47 n_41_83) n_41_47 n_41_83
theorem t_41_44 : e_Sn 41 44 (e_un n_41_44) := u_cltT rfl (s_cge (off := (39)) hq_41 (by decide +kernel) rfl rfl : e_Sn 41 44 (o_clt 47 83)) t_41_47 t_41_83
noncomputable def n_41_42 : e_Y := u_push (.inl 2147483680) n_41_44
theorem t_41_42 : e_Sn 41 42 (e_un n_41_42) := u_pushT (s_bipush (n := (32)) hq_41 (by decide +kernel) rfl ⟨by decide +kernel, by decide +kernel⟩ : e_Sn 41 42 (o_push (.inl 2147483680) 44)) t_41_44
noncomputable def n_41_40 : e_Y := u_ld f_okI f_l7 n_41_42
theorem t_41_40 : e_Sn 41 40 (e_un n_41_40) := u_ldIT f_l7_eq (s_iload (i := .iload 7) (len := 2) hq_41 (by decide +kernel) rfl (.inl ⟨rfl, rfl⟩) : e_Sn 41 40 (o_load e_okI 7 42)) t_41_42
noncomputable def n_41_38 : e_Y := u_st f_okI f_s7 n_41_40
theorem t_41_38 : e_Sn 41 38 (e_un n_41_38) := u_stIT (fun _ _ _ => f_s7_eq) (s_istore (i := .istore 7) (len := 2) hq_41 (by decide +kernel) rfl (.inl ⟨rfl, rfl⟩) : e_Sn 41 38 (o_store e_okI 7 40)) t_41_40
noncomputable def n_41_37 : e_Y := u_push (.inl 2147483648) n_41_38
theorem t_41_37 : e_Sn 41 37 (e_un n_41_37) := u_pushT (s_iconst (n := (0)) hq_41 (by decide +kernel) rfl ⟨by decide +kernel, by decide +kernel⟩ : e_Sn 41 37 (o_push (.inl 2147483648) 38)) t_41_38
noncomputable def n_41_35 : e_Y := u_st f_okI f_s6 n_41_37
theorem t_41_35 : e_Sn 41 35 (e_un n_41_35) := u_stIT (fun _ _ _ => f_s6_eq) (s_istore (i := .istore 6) (len := 2) hq_41 (by decide +kernel) rfl (.inl ⟨rfl, rfl⟩) : e_Sn 41 35 (o_store e_okI 6 37)) t_41_37
noncomputable def n_41_34 : e_Y := u_ald 0 (u_old (o_ald e_fcs 35) n_41_35) n_41_35
theorem t_41_34 : e_Sn 41 34 (e_un n_41_34) := u_aldT (s_iald hq_41 (by decide +kernel) rfl : e_Sn 41 34 (o_ald e_fcs 35)) t_41_35
noncomputable def n_41_33 : e_Y := u_bin a_iadd (u_old (o_iadd 34) n_41_34) n_41_34
theorem t_41_33 : e_Sn 41 33 (e_un n_41_33) := u_iaddT (s_iadd hq_41 (by decide +kernel) rfl : e_Sn 41 33 (o_iadd 34)) t_41_34
noncomputable def n_41_31 : e_Y := u_ld f_okI f_l5 n_41_33
theorem t_41_31 : e_Sn 41 31 (e_un n_41_31) := u_ldIT f_l5_eq (s_iload (i := .iload 5) (len := 2) hq_41 (by decide +kernel) rfl (.inl ⟨rfl, rfl⟩) : e_Sn 41 31 (o_load e_okI 5 33)) t_41_33
noncomputable def n_41_30 : e_Y := u_bin a_imul (u_old (o_imul 31) n_41_31) n_41_31
theorem t_41_30 : e_Sn 41 30 (e_un n_41_30) := u_imulT (s_imul hq_41 (by decide +kernel) rfl : e_Sn 41 30 (o_imul 31)) t_41_31
noncomputable def n_41_28 : e_Y := u_push (.inl 2147483680) n_41_30
theorem t_41_28 : e_Sn 41 28 (e_un n_41_28) := u_pushT (s_bipush (n := (32)) hq_41 (by decide +kernel) rfl ⟨by decide +kernel, by decide +kernel⟩ : e_Sn 41 28 (o_push (.inl 2147483680) 30)) t_41_30
noncomputable def n_41_27 : e_Y := u_ld f_okI f_l1 n_41_28
theorem t_41_27 : e_Sn 41 27 (e_un n_41_27) := u_ldIT f_l1_eq (s_iload (i := .iload_n 1) (len := 1) hq_41 (by decide +kernel) rfl (.inr ⟨1, rfl, rfl, rfl⟩) : e_Sn 41 27 (o_load e_okI 1 28)) t_41_28
noncomputable def n_41_24 : e_Y := u_getf 9 0 (u_old (o_getf (e_f1 9 0) 27) n_41_27) n_41_27
theorem t_41_24 : e_Sn 41 24 (e_un n_41_24) := u_getfT (s_getf (C := er_9) (T := et_9) (N := 1) (ref := "Plateroomprinter$Sheet") (index := 414) (ci := 9) (k := 0) hq_41 ho_41 ⟨rfl, by decide, ei_9, (List.mem_of_getElem? (i := 382) (by decide +kernel)), .inl rfl⟩ (by decide +kernel) rfl : e_Sn 41 24 (o_getf (e_f1 9 0) 27)) t_41_27
noncomputable def n_41_21 : e_Y := u_getf 11 7 (u_old (o_getf (e_f1 11 7) 24) n_41_24) n_41_24
theorem t_41_21 : e_Sn 41 21 (e_un n_41_21) := u_getfT (s_getf (C := er_11) (T := et_11) (N := 15) (ref := "Plateroomprinter$World") (index := 406) (ci := 11) (k := 7) hq_41 ho_41 ⟨rfl, by decide, ei_11, (List.mem_of_getElem? (i := 481) (by decide +kernel)), .inl rfl⟩ (by decide +kernel) rfl : e_Sn 41 21 (o_getf (e_f1 11 7) 24)) t_41_24
noncomputable def n_41_18 : e_Y := u_getf 0 1 (u_old (o_getf (e_f1 0 1) 21) n_41_21) n_41_21
theorem t_41_18 : e_Sn 41 18 (e_un n_41_18) := u_getfT (s_getf (C := er_0) (T := et_0) (N := 17) (ref := "Plateroomprinter") (index := 19) (ci := 0) (k := 1) hq_41 ho_41 ⟨rfl, by decide, ei_0, (List.mem_of_getElem? (i := 681) (by decide +kernel)), .inl rfl⟩ (by decide +kernel) rfl : e_Sn 41 18 (o_getf (e_f1 0 1) 21)) t_41_21
noncomputable def n_41_17 : e_Y := u_ld f_okA f_l0 n_41_18
theorem t_41_17 : e_Sn 41 17 (e_un n_41_17) := u_ldAT f_l0_eq (s_aload (i := .aload_n 0) (len := 1) hq_41 (by decide +kernel) rfl (.inr ⟨0, rfl, rfl, rfl⟩) : e_Sn 41 17 (o_load e_okR 0 18)) t_41_18
noncomputable def n_41_14 : e_Y := u_jmp y_ge (u_old2 (o_clt 17 89) 17 n_41_17 n_41_89) n_41_17 n_41_89
theorem t_41_14 : e_Sn 41 14 (e_un n_41_14) := u_cltT rfl (s_cge (off := (75)) hq_41 (by decide +kernel) rfl rfl : e_Sn 41 14 (o_clt 17 89)) t_41_17 t_41_89
noncomputable def n_41_12 : e_Y := u_push (.inl 2147483680) n_41_14
theorem t_41_12 : e_Sn 41 12 (e_un n_41_12) := u_pushT (s_bipush (n := (32)) hq_41 (by decide +kernel) rfl ⟨by decide +kernel, by decide +kernel⟩ : e_Sn 41 12 (o_push (.inl 2147483680) 14)) t_41_14
noncomputable def n_41_10 : e_Y := u_ld f_okI f_l5 n_41_12
theorem t_41_10 : e_Sn 41 10 (e_un n_41_10) := u_ldIT f_l5_eq (s_iload (i := .iload 5) (len := 2) hq_41 (by decide +kernel) rfl (.inl ⟨rfl, rfl⟩) : e_Sn 41 10 (o_load e_okI 5 12)) t_41_12
noncomputable def n_41_8 : e_Y := u_st f_okI f_s5 n_41_10
theorem t_41_8 : e_Sn 41 8 (e_un n_41_8) := u_stIT (fun _ _ _ => f_s5_eq) (s_istore (i := .istore 5) (len := 2) hq_41 (by decide +kernel) rfl (.inl ⟨rfl, rfl⟩) : e_Sn 41 8 (o_store e_okI 5 10)) t_41_10
noncomputable def n_41_7 : e_Y := u_push (.inl 2147483648) n_41_8
theorem t_41_7 : e_Sn 41 7 (e_un n_41_7) := u_pushT (s_iconst (n := (0)) hq_41 (by decide +kernel) rfl ⟨by decide +kernel, by decide +kernel⟩ : e_Sn 41 7 (o_push (.inl 2147483648) 8)) t_41_8
noncomputable def n_41_5 : e_Y := u_st f_okI f_s4 n_41_7
theorem t_41_5 : e_Sn 41 5 (e_un n_41_5) := u_stIT (fun _ _ _ => f_s4_eq) (s_istore (i := .istore 4) (len := 2) hq_41 (by decide +kernel) rfl (.inl ⟨rfl, rfl⟩) : e_Sn 41 5 (o_store e_okI 4 7)) t_41_7
noncomputable def n_41_4 : e_Y := u_push (.inl 2147483648) n_41_5
theorem t_41_4 : e_Sn 41 4 (e_un n_41_4) := u_pushT (s_iconst (n := (0)) hq_41 (by decide +kernel) rfl ⟨by decide +kernel, by decide +kernel⟩ : e_Sn 41 4 (o_push (.inl 2147483648) 5)) t_41_5
noncomputable def n_41_3 : e_Y := u_st f_okI f_s3 n_41_4
theorem t_41_3 : e_Sn 41 3 (e_un n_41_3) := u_stIT (fun _ _ _ => f_s3_eq) (s_istore (i := .istore_n 3) (len := 1) hq_41 (by decide +kernel) rfl (.inr ⟨3, rfl, rfl, rfl⟩) : e_Sn 41 3 (o_store e_okI 3 4)) t_41_4
noncomputable def n_41_2 : e_Y := u_push (.inl 2147483648) n_41_3
theorem t_41_2 : e_Sn 41 2 (e_un n_41_2) := u_pushT (s_iconst (n := (0)) hq_41 (by decide +kernel) rfl ⟨by decide +kernel, by decide +kernel⟩ : e_Sn 41 2 (o_push (.inl 2147483648) 3)) t_41_3
noncomputable def n_41_1 : e_Y := u_st f_okI f_s2 n_41_2
theorem t_41_1 : e_Sn 41 1 (e_un n_41_1) := u_stIT (fun _ _ _ => f_s2_eq) (s_istore (i := .istore_n 2) (len := 1) hq_41 (by decide +kernel) rfl (.inr ⟨2, rfl, rfl, rfl⟩) : e_Sn 41 1 (o_store e_okI 2 2)) t_41_2
noncomputable def n_41_0 : e_Y := u_push (.inl 2147483648) n_41_1
theorem t_41_0 : e_Sn 41 0 (e_un n_41_0) := u_pushT (s_iconst (n := (0)) hq_41 (by decide +kernel) rfl ⟨by decide +kernel, by decide +kernel⟩ : e_Sn 41 0 (o_push (.inl 2147483648) 1)) t_41_1
noncomputable def e_tb_41 : e_X := (e_br 10 (e_lf 0 (e_un n_41_0)) (e_br 40 (e_lf 10 (e_un n_41_10)) (e_lf 40 (e_un n_41_40))))
theorem e_tk_41 : e_Tb 41 e_tb_41 := (e_brT (e_lfT t_41_0) (e_brT (e_lfT t_41_10) (e_lfT t_41_40)))
theorem hq_49 : (e_ml[49]?).map (·.2.1) = some prog_1_method_45_code := rfl
theorem ho_49 : (e_ml[49]?).map (·.1.cls) = some "Plateroomprinter" := rfl
theorem hr_49 : (e_ml[49]?).map (·.2.2.2) = some (some .int) := rfl
noncomputable def n_49_25 : e_Y := u_retI
theorem t_49_25 : e_Sn 49 25 (e_un n_49_25) := u_retIT (s_iret hq_49 hr_49 (by decide +kernel) : e_Sn 49 25 (o_ret e_okI))
noncomputable def n_49_22 : e_Y := u_callV 0 41 8 27 2 n_41_0 n_49_25
theorem t_49_22 : e_Sn 49 22 (e_un n_49_22) := u_callVT rfl (s_callV (ci := 0) (C := er_0) (T := et_0) (N := 17) (index := 422) hq_49 ho_49 hy_41 hp_41 hc_41 hi_41 hd_41 (List.mem_of_getElem? (i := 1428) (by decide +kernel)) hs_41 (List.mem_of_getElem? (i := 62) (by decide +kernel)) rfl (by decide +kernel) rfl : e_Sn 49 22 (o_callV (e_s1 0 41 8) 2 25)) t_41_0 t_49_25
noncomputable def n_49_21 : e_Y := u_ld f_okI f_l1 n_49_22
theorem t_49_21 : e_Sn 49 21 (e_un n_49_21) := u_ldIT f_l1_eq (s_iload (i := .iload_n 1) (len := 1) hq_49 (by decide +kernel) rfl (.inr ⟨1, rfl, rfl, rfl⟩) : e_Sn 49 21 (o_load e_okI 1 22)) t_49_22
noncomputable def n_49_20 : e_Y := u_ld f_okA f_l0 n_49_21
theorem t_49_20 : e_Sn 49 20 (e_un n_49_20) := u_ldAT f_l0_eq (s_aload (i := .aload_n 0) (len := 1) hq_49 (by decide +kernel) rfl (.inr ⟨0, rfl, rfl, rfl⟩) : e_Sn 49 20 (o_load e_okR 0 21)) t_49_21
noncomputable def n_49_9 : e_Y := u_tab (o_throw 2)
theorem t_49_9 : e_Sn 49 9 (e_un n_49_9) := u_tabT (s_throw (ik := 175) (is := 415) (ic := 179) (X := "java/lang/IndexOutOfBoundsException") (text := "no such plate") hq_49 ho_49 hy_49 hc_49 rfl (by decide +kernel) e_wok2 (by simp [e_sr]) (by decide +kernel) (by decide +kernel) (.inr ⟨(by decide +kernel), (by decide +kernel), (by decide +kernel)⟩) : e_Sn 49 9 (o_throw 2))
noncomputable def n_49_6 : e_Y := u_jmp y_ge (u_old2 (o_clt 20 9) 20 n_49_20 n_49_9) n_49_20 n_49_9
theorem t_49_6 : e_Sn 49 6 (e_un n_49_6) := u_cltT rfl (s_clt (off := (14)) hq_49 (by decide +kernel) rfl rfl : e_Sn 49 6 (o_clt 20 9)) t_49_20 t_49_9
noncomputable def n_49_5 : e_Y := u_push (.inl 2147483652) n_49_6
theorem t_49_5 : e_Sn 49 5 (e_un n_49_5) := u_pushT (s_iconst (n := (4)) hq_49 (by decide +kernel) rfl ⟨by decide +kernel, by decide +kernel⟩ : e_Sn 49 5 (o_push (.inl 2147483652) 6)) t_49_6
noncomputable def n_49_4 : e_Y := u_ld f_okI f_l1 n_49_5
theorem t_49_4 : e_Sn 49 4 (e_un n_49_4) := u_ldIT f_l1_eq (s_iload (i := .iload_n 1) (len := 1) hq_49 (by decide +kernel) rfl (.inr ⟨1, rfl, rfl, rfl⟩) : e_Sn 49 4 (o_load e_okI 1 5)) t_49_5
noncomputable def n_49_1 : e_Y := u_if y_ge0 (u_old2 (o_iflt 9 4) 9 n_49_9 n_49_4) n_49_9 n_49_4
theorem t_49_1 : e_Sn 49 1 (e_un n_49_1) := u_ifltT rfl (s_iflt (off := (8)) hq_49 (by decide +kernel) rfl rfl : e_Sn 49 1 (o_iflt 9 4)) t_49_9 t_49_4
noncomputable def n_49_0 : e_Y := u_ld f_okI f_l1 n_49_1
theorem t_49_0 : e_Sn 49 0 (e_un n_49_0) := u_ldIT f_l1_eq (s_iload (i := .iload_n 1) (len := 1) hq_49 (by decide +kernel) rfl (.inr ⟨1, rfl, rfl, rfl⟩) : e_Sn 49 0 (o_load e_okI 1 1)) t_49_1
noncomputable def e_tb_49 : e_X := (e_lf 0 (e_un n_49_0))
theorem e_tk_49 : e_Tb 49 e_tb_49 := (e_lfT t_49_0)
theorem hq_8 : (e_ml[8]?).map (·.2.1) = some prog_1_method_62_code := rfl
theorem ho_8 : (e_ml[8]?).map (·.1.cls) = some "Plateroomprinter" := rfl
theorem hr_8 : (e_ml[8]?).map (·.2.2.2) = some (some .long) := rfl
noncomputable def n_8_174 : e_Y := u_tab (o_ret e_okL)
theorem t_8_174 : e_Sn 8 174 (e_un n_8_174) := u_tabT (s_lret hq_8 hr_8 (by decide +kernel) : e_Sn 8 174 (o_ret e_okL))
noncomputable def n_8_173 : e_Y := u_old (o_load e_okL 3 174) n_8_174
theorem t_8_173 : e_Sn 8 173 (e_un n_8_173) := u_oldT (s_lload (i := .lload_n 3) (len := 1) hq_8 (by decide +kernel) rfl (.inr ⟨3, rfl, rfl, rfl⟩) : e_Sn 8 173 (o_load e_okL 3 174)) t_8_174 e_congr_load
noncomputable def n_8_170 : e_Y := (u_at 146)
theorem t_8_170 : e_Sn 8 170 (e_un n_8_170) := u_gotoT (s_goto (off := (-24)) hq_8 (by decide +kernel) rfl : e_Sn 8 170 (o_goto 146)) u_atT
noncomputable def n_8_167 : e_Y := u_inc f_l5 f_s5 1 n_8_170
theorem t_8_167 : e_Sn 8 167 (e_un n_8_167) := u_incT f_l5_eq (fun _ _ _ => f_s5_eq) (s_iinc (zz := (1)) hq_8 (by decide +kernel) rfl (by decide +kernel) ⟨by decide, by decide⟩ : e_Sn 8 167 (o_iinc 5 1 170)) t_8_170
noncomputable def n_8_166 : e_Y := u_old (o_storeL 3 167) n_8_167
theorem t_8_166 : e_Sn 8 166 (e_un n_8_166) := u_oldT (s_lstore (i := .lstore_n 3) (len := 1) hq_8 (by decide +kernel) rfl (.inr ⟨3, rfl, rfl, rfl⟩) : e_Sn 8 166 (o_storeL 3 167)) t_8_167 (e_cg_storeL 3)
noncomputable def n_8_165 : e_Y := u_old (o_ladd 166) n_8_166
theorem t_8_165 : e_Sn 8 165 (e_un n_8_165) := u_oldT (s_ladd hq_8 (by decide +kernel) rfl : e_Sn 8 165 (o_ladd 166)) t_8_166 e_cg_ladd
noncomputable def n_8_164 : e_Y := u_old (o_i2l 165) n_8_165
theorem t_8_164 : e_Sn 8 164 (e_un n_8_164) := u_oldT (s_i2l hq_8 (by decide +kernel) rfl : e_Sn 8 164 (o_i2l 165)) t_8_165 e_congr_i2l
noncomputable def n_8_161 : e_Y := u_callV 0 43 2 21 2 n_43_0 n_8_164
theorem t_8_161 : e_Sn 8 161 (e_un n_8_161) := u_callVT rfl (s_callV (ci := 0) (C := er_0) (T := et_0) (N := 17) (index := 550) hq_8 ho_8 hy_43 hp_43 hc_43 hi_43 hd_43 (List.mem_of_getElem? (i := 1550) (by decide +kernel)) hs_43 (List.mem_of_getElem? (i := 1552) (by decide +kernel)) rfl (by decide +kernel) rfl : e_Sn 8 161 (o_callV (e_s1 0 43 2) 2 164)) t_43_0 t_8_164
noncomputable def n_8_159 : e_Y := u_ld f_okI f_l5 n_8_161
theorem t_8_159 : e_Sn 8 159 (e_un n_8_159) := u_ldIT f_l5_eq (s_iload (i := .iload 5) (len := 2) hq_8 (by decide +kernel) rfl (.inl ⟨rfl, rfl⟩) : e_Sn 8 159 (o_load e_okI 5 161)) t_8_161
noncomputable def n_8_158 : e_Y := u_ld f_okA f_l0 n_8_159
theorem t_8_158 : e_Sn 8 158 (e_un n_8_158) := u_ldAT f_l0_eq (s_aload (i := .aload_n 0) (len := 1) hq_8 (by decide +kernel) rfl (.inr ⟨0, rfl, rfl, rfl⟩) : e_Sn 8 158 (o_load e_okR 0 159)) t_8_159
noncomputable def n_8_157 : e_Y := u_old (o_lmul 158) n_8_158
theorem t_8_157 : e_Sn 8 157 (e_un n_8_157) := u_oldT (s_lmul hq_8 (by decide +kernel) rfl : e_Sn 8 157 (o_lmul 158)) t_8_158 e_cg_lmul
noncomputable def n_8_154 : e_Y := u_push (e_L 9223372036854775839) n_8_157
theorem t_8_154 : e_Sn 8 154 (e_un n_8_154) := u_pushT (s_ldc2 (index := 470) (v := (31)) hq_8 ho_8 (List.mem_of_getElem? (i := 1449) (by decide +kernel)) (by decide +kernel) rfl ⟨by decide +kernel, by decide +kernel⟩ : e_Sn 8 154 (o_push (e_L 9223372036854775839) 157)) t_8_157
noncomputable def n_8_153 : e_Y := u_old (o_load e_okL 3 154) n_8_154
theorem t_8_153 : e_Sn 8 153 (e_un n_8_153) := u_oldT (s_lload (i := .lload_n 3) (len := 1) hq_8 (by decide +kernel) rfl (.inr ⟨3, rfl, rfl, rfl⟩) : e_Sn 8 153 (o_load e_okL 3 154)) t_8_154 e_congr_load
noncomputable def n_8_150 : e_Y := u_jmp y_ge (u_old2 (o_clt 153 173) 153 n_8_153 n_8_173) n_8_153 n_8_173
theorem t_8_150 : e_Sn 8 150 (e_un n_8_150) := u_cltT rfl (s_cge (off := (23)) hq_8 (by decide +kernel) rfl rfl : e_Sn 8 150 (o_clt 153 173)) t_8_153 t_8_173
noncomputable def n_8_148 : e_Y := u_push (.inl 2147483654) n_8_150
theorem t_8_148 : e_Sn 8 148 (e_un n_8_148) := u_pushT (s_bipush (n := (6)) hq_8 (by decide +kernel) rfl ⟨by decide +kernel, by decide +kernel⟩ : e_Sn 8 148 (o_push (.inl 2147483654) 150)) t_8_150
noncomputable def n_8_146 : e_Y := u_ld f_okI f_l5 n_8_148
theorem t_8_146 : e_Sn 8 146 (e_un n_8_146) := u_ldIT f_l5_eq (s_iload (i := .iload 5) (len := 2) hq_8 (by decide +kernel) rfl (.inl ⟨rfl, rfl⟩) : e_Sn 8 146 (o_load e_okI 5 148)) t_8_148
noncomputable def n_8_144 : e_Y := u_st f_okI f_s5 n_8_146
theorem t_8_144 : e_Sn 8 144 (e_un n_8_144) := u_stIT (fun _ _ _ => f_s5_eq) (s_istore (i := .istore 5) (len := 2) hq_8 (by decide +kernel) rfl (.inl ⟨rfl, rfl⟩) : e_Sn 8 144 (o_store e_okI 5 146)) t_8_146
noncomputable def n_8_143 : e_Y := u_push (.inl 2147483648) n_8_144
theorem t_8_143 : e_Sn 8 143 (e_un n_8_143) := u_pushT (s_iconst (n := (0)) hq_8 (by decide +kernel) rfl ⟨by decide +kernel, by decide +kernel⟩ : e_Sn 8 143 (o_push (.inl 2147483648) 144)) t_8_144
noncomputable def n_8_140 : e_Y := (u_at 71)
theorem t_8_140 : e_Sn 8 140 (e_un n_8_140) := u_gotoT (s_goto (off := (-69)) hq_8 (by decide +kernel) rfl : e_Sn 8 140 (o_goto 71)) u_atT
noncomputable def n_8_137 : e_Y := u_inc f_l5 f_s5 1 n_8_140
theorem t_8_137 : e_Sn 8 137 (e_un n_8_137) := u_incT f_l5_eq (fun _ _ _ => f_s5_eq) (s_iinc (zz := (1)) hq_8 (by decide +kernel) rfl (by decide +kernel) ⟨by decide, by decide⟩ : e_Sn 8 137 (o_iinc 5 1 140)) t_8_140
noncomputable def n_8_136 : e_Y := u_old (o_storeL 3 137) n_8_137
theorem t_8_136 : e_Sn 8 136 (e_un n_8_136) := u_oldT (s_lstore (i := .lstore_n 3) (len := 1) hq_8 (by decide +kernel) rfl (.inr ⟨3, rfl, rfl, rfl⟩) : e_Sn 8 136 (o_storeL 3 137)) t_8_137 (e_cg_storeL 3)
noncomputable def n_8_135 : e_Y := u_old (o_ladd 136) n_8_136
theorem t_8_135 : e_Sn 8 135 (e_un n_8_135) := u_oldT (s_ladd hq_8 (by decide +kernel) rfl : e_Sn 8 135 (o_ladd 136)) t_8_136 e_cg_ladd
noncomputable def n_8_134 : e_Y := u_old (o_i2l 135) n_8_135
theorem t_8_134 : e_Sn 8 134 (e_un n_8_134) := u_oldT (s_i2l hq_8 (by decide +kernel) rfl : e_Sn 8 134 (o_i2l 135)) t_8_135 e_congr_i2l
noncomputable def n_8_131 : e_Y := u_callV 0 49 2 21 2 n_49_0 n_8_134
theorem t_8_131 : e_Sn 8 131 (e_un n_8_131) := u_callVT rfl (s_callV (ci := 0) (C := er_0) (T := et_0) (N := 17) (index := 547) hq_8 ho_8 hy_49 hp_49 hc_49 hi_49 hd_49 (List.mem_of_getElem? (i := 1546) (by decide +kernel)) hs_49 (List.mem_of_getElem? (i := 1548) (by decide +kernel)) rfl (by decide +kernel) rfl : e_Sn 8 131 (o_callV (e_s1 0 49 2) 2 134)) t_49_0 t_8_134
noncomputable def n_8_129 : e_Y := u_ld f_okI f_l5 n_8_131
theorem t_8_129 : e_Sn 8 129 (e_un n_8_129) := u_ldIT f_l5_eq (s_iload (i := .iload 5) (len := 2) hq_8 (by decide +kernel) rfl (.inl ⟨rfl, rfl⟩) : e_Sn 8 129 (o_load e_okI 5 131)) t_8_131
noncomputable def n_8_128 : e_Y := u_ld f_okA f_l0 n_8_129
theorem t_8_128 : e_Sn 8 128 (e_un n_8_128) := u_ldAT f_l0_eq (s_aload (i := .aload_n 0) (len := 1) hq_8 (by decide +kernel) rfl (.inr ⟨0, rfl, rfl, rfl⟩) : e_Sn 8 128 (o_load e_okR 0 129)) t_8_129
noncomputable def n_8_127 : e_Y := u_old (o_lmul 128) n_8_128
theorem t_8_127 : e_Sn 8 127 (e_un n_8_127) := u_oldT (s_lmul hq_8 (by decide +kernel) rfl : e_Sn 8 127 (o_lmul 128)) t_8_128 e_cg_lmul
noncomputable def n_8_124 : e_Y := u_push (e_L 9223372036854775839) n_8_127
theorem t_8_124 : e_Sn 8 124 (e_un n_8_124) := u_pushT (s_ldc2 (index := 470) (v := (31)) hq_8 ho_8 (List.mem_of_getElem? (i := 1449) (by decide +kernel)) (by decide +kernel) rfl ⟨by decide +kernel, by decide +kernel⟩ : e_Sn 8 124 (o_push (e_L 9223372036854775839) 127)) t_8_127
noncomputable def n_8_123 : e_Y := u_old (o_load e_okL 3 124) n_8_124
theorem t_8_123 : e_Sn 8 123 (e_un n_8_123) := u_oldT (s_lload (i := .lload_n 3) (len := 1) hq_8 (by decide +kernel) rfl (.inr ⟨3, rfl, rfl, rfl⟩) : e_Sn 8 123 (o_load e_okL 3 124)) t_8_124 e_congr_load
noncomputable def n_8_122 : e_Y := u_old (o_storeL 3 123) n_8_123
theorem t_8_122 : e_Sn 8 122 (e_un n_8_122) := u_oldT (s_lstore (i := .lstore_n 3) (len := 1) hq_8 (by decide +kernel) rfl (.inr ⟨3, rfl, rfl, rfl⟩) : e_Sn 8 122 (o_storeL 3 123)) t_8_123 (e_cg_storeL 3)
noncomputable def n_8_121 : e_Y := u_old (o_ladd 122) n_8_122
theorem t_8_121 : e_Sn 8 121 (e_un n_8_121) := u_oldT (s_ladd hq_8 (by decide +kernel) rfl : e_Sn 8 121 (o_ladd 122)) t_8_122 e_cg_ladd
noncomputable def n_8_120 : e_Y := u_old (o_i2l 121) n_8_121
theorem t_8_120 : e_Sn 8 120 (e_un n_8_120) := u_oldT (s_i2l hq_8 (by decide +kernel) rfl : e_Sn 8 120 (o_i2l 121)) t_8_121 e_congr_i2l
noncomputable def n_8_117 : e_Y := u_callV 0 6 2 21 2 n_6_0 n_8_120
theorem t_8_117 : e_Sn 8 117 (e_un n_8_117) := u_callVT rfl (s_callV (ci := 0) (C := er_0) (T := et_0) (N := 17) (index := 545) hq_8 ho_8 hy_6 hp_6 hc_6 hi_6 hd_6 (List.mem_of_getElem? (i := 1541) (by decide +kernel)) hs_6 (List.mem_of_getElem? (i := 1543) (by decide +kernel)) rfl (by decide +kernel) rfl : e_Sn 8 117 (o_callV (e_s1 0 6 2) 2 120)) t_6_0 t_8_120
noncomputable def n_8_115 : e_Y := u_ld f_okI f_l5 n_8_117
theorem t_8_115 : e_Sn 8 115 (e_un n_8_115) := u_ldIT f_l5_eq (s_iload (i := .iload 5) (len := 2) hq_8 (by decide +kernel) rfl (.inl ⟨rfl, rfl⟩) : e_Sn 8 115 (o_load e_okI 5 117)) t_8_117
noncomputable def n_8_114 : e_Y := u_ld f_okA f_l0 n_8_115
theorem t_8_114 : e_Sn 8 114 (e_un n_8_114) := u_ldAT f_l0_eq (s_aload (i := .aload_n 0) (len := 1) hq_8 (by decide +kernel) rfl (.inr ⟨0, rfl, rfl, rfl⟩) : e_Sn 8 114 (o_load e_okR 0 115)) t_8_115
noncomputable def n_8_113 : e_Y := u_old (o_lmul 114) n_8_114
theorem t_8_113 : e_Sn 8 113 (e_un n_8_113) := u_oldT (s_lmul hq_8 (by decide +kernel) rfl : e_Sn 8 113 (o_lmul 114)) t_8_114 e_cg_lmul
noncomputable def n_8_110 : e_Y := u_push (e_L 9223372036854775839) n_8_113
theorem t_8_110 : e_Sn 8 110 (e_un n_8_110) := u_pushT (s_ldc2 (index := 470) (v := (31)) hq_8 ho_8 (List.mem_of_getElem? (i := 1449) (by decide +kernel)) (by decide +kernel) rfl ⟨by decide +kernel, by decide +kernel⟩ : e_Sn 8 110 (o_push (e_L 9223372036854775839) 113)) t_8_113
noncomputable def n_8_109 : e_Y := u_old (o_load e_okL 3 110) n_8_110
theorem t_8_109 : e_Sn 8 109 (e_un n_8_109) := u_oldT (s_lload (i := .lload_n 3) (len := 1) hq_8 (by decide +kernel) rfl (.inr ⟨3, rfl, rfl, rfl⟩) : e_Sn 8 109 (o_load e_okL 3 110)) t_8_110 e_congr_load
noncomputable def n_8_106 : e_Y := (u_at 80)
theorem t_8_106 : e_Sn 8 106 (e_un n_8_106) := u_gotoT (s_goto (off := (-26)) hq_8 (by decide +kernel) rfl : e_Sn 8 106 (o_goto 80)) u_atT
noncomputable def n_8_103 : e_Y := u_inc f_l6 f_s6 1 n_8_106
theorem t_8_103 : e_Sn 8 103 (e_un n_8_103) := u_incT f_l6_eq (fun _ _ _ => f_s6_eq) (s_iinc (zz := (1)) hq_8 (by decide +kernel) rfl (by decide +kernel) ⟨by decide, by decide⟩ : e_Sn 8 103 (o_iinc 6 1 106)) t_8_106
noncomputable def n_8_102 : e_Y := u_old (o_storeL 3 103) n_8_103
theorem t_8_102 : e_Sn 8 102 (e_un n_8_102) := u_oldT (s_lstore (i := .lstore_n 3) (len := 1) hq_8 (by decide +kernel) rfl (.inr ⟨3, rfl, rfl, rfl⟩) : e_Sn 8 102 (o_storeL 3 103)) t_8_103 (e_cg_storeL 3)
noncomputable def n_8_101 : e_Y := u_old (o_ladd 102) n_8_102
theorem t_8_101 : e_Sn 8 101 (e_un n_8_101) := u_oldT (s_ladd hq_8 (by decide +kernel) rfl : e_Sn 8 101 (o_ladd 102)) t_8_102 e_cg_ladd
noncomputable def n_8_100 : e_Y := u_old (o_i2l 101) n_8_101
theorem t_8_100 : e_Sn 8 100 (e_un n_8_100) := u_oldT (s_i2l hq_8 (by decide +kernel) rfl : e_Sn 8 100 (o_i2l 101)) t_8_101 e_congr_i2l
noncomputable def n_8_97 : e_Y := u_callV 0 46 3 22 3 n_46_0 n_8_100
theorem t_8_97 : e_Sn 8 97 (e_un n_8_97) := u_callVT rfl (s_callV (ci := 0) (C := er_0) (T := et_0) (N := 17) (index := 542) hq_8 ho_8 hy_46 hp_46 hc_46 hi_46 hd_46 (List.mem_of_getElem? (i := 1536) (by decide +kernel)) hs_46 (List.mem_of_getElem? (i := 1538) (by decide +kernel)) rfl (by decide +kernel) rfl : e_Sn 8 97 (o_callV (e_s1 0 46 3) 3 100)) t_46_0 t_8_100
noncomputable def n_8_95 : e_Y := u_ld f_okI f_l6 n_8_97
theorem t_8_95 : e_Sn 8 95 (e_un n_8_95) := u_ldIT f_l6_eq (s_iload (i := .iload 6) (len := 2) hq_8 (by decide +kernel) rfl (.inl ⟨rfl, rfl⟩) : e_Sn 8 95 (o_load e_okI 6 97)) t_8_97
noncomputable def n_8_93 : e_Y := u_ld f_okI f_l5 n_8_95
theorem t_8_93 : e_Sn 8 93 (e_un n_8_93) := u_ldIT f_l5_eq (s_iload (i := .iload 5) (len := 2) hq_8 (by decide +kernel) rfl (.inl ⟨rfl, rfl⟩) : e_Sn 8 93 (o_load e_okI 5 95)) t_8_95
noncomputable def n_8_92 : e_Y := u_ld f_okA f_l0 n_8_93
theorem t_8_92 : e_Sn 8 92 (e_un n_8_92) := u_ldAT f_l0_eq (s_aload (i := .aload_n 0) (len := 1) hq_8 (by decide +kernel) rfl (.inr ⟨0, rfl, rfl, rfl⟩) : e_Sn 8 92 (o_load e_okR 0 93)) t_8_93
noncomputable def n_8_91 : e_Y := u_old (o_lmul 92) n_8_92
theorem t_8_91 : e_Sn 8 91 (e_un n_8_91) := u_oldT (s_lmul hq_8 (by decide +kernel) rfl : e_Sn 8 91 (o_lmul 92)) t_8_92 e_cg_lmul
noncomputable def n_8_88 : e_Y := u_push (e_L 9223372036854775839) n_8_91
theorem t_8_88 : e_Sn 8 88 (e_un n_8_88) := u_pushT (s_ldc2 (index := 470) (v := (31)) hq_8 ho_8 (List.mem_of_getElem? (i := 1449) (by decide +kernel)) (by decide +kernel) rfl ⟨by decide +kernel, by decide +kernel⟩ : e_Sn 8 88 (o_push (e_L 9223372036854775839) 91)) t_8_91
noncomputable def n_8_87 : e_Y := u_old (o_load e_okL 3 88) n_8_88
theorem t_8_87 : e_Sn 8 87 (e_un n_8_87) := u_oldT (s_lload (i := .lload_n 3) (len := 1) hq_8 (by decide +kernel) rfl (.inr ⟨3, rfl, rfl, rfl⟩) : e_Sn 8 87 (o_load e_okL 3 88)) t_8_88 e_congr_load
noncomputable def n_8_84 : e_Y := u_jmp y_ge (u_old2 (o_clt 87 109) 87 n_8_87 n_8_109) n_8_87 n_8_109
theorem t_8_84 : e_Sn 8 84 (e_un n_8_84) := u_cltT rfl (s_cge (off := (25)) hq_8 (by decide +kernel) rfl rfl : e_Sn 8 84 (o_clt 87 109)) t_8_87 t_8_109
noncomputable def n_8_82 : e_Y := u_push (.inl 2147483680) n_8_84
theorem t_8_82 : e_Sn 8 82 (e_un n_8_82) := u_pushT (s_bipush (n := (32)) hq_8 (by decide +kernel) rfl ⟨by decide +kernel, by decide +kernel⟩ : e_Sn 8 82 (o_push (.inl 2147483680) 84)) t_8_84
noncomputable def n_8_80 : e_Y := u_ld f_okI f_l6 n_8_82
theorem t_8_80 : e_Sn 8 80 (e_un n_8_80) := u_ldIT f_l6_eq (s_iload (i := .iload 6) (len := 2) hq_8 (by decide +kernel) rfl (.inl ⟨rfl, rfl⟩) : e_Sn 8 80 (o_load e_okI 6 82)) t_8_82
noncomputable def n_8_78 : e_Y := u_st f_okI f_s6 n_8_80
theorem t_8_78 : e_Sn 8 78 (e_un n_8_78) := u_stIT (fun _ _ _ => f_s6_eq) (s_istore (i := .istore 6) (len := 2) hq_8 (by decide +kernel) rfl (.inl ⟨rfl, rfl⟩) : e_Sn 8 78 (o_store e_okI 6 80)) t_8_80
noncomputable def n_8_77 : e_Y := u_push (.inl 2147483648) n_8_78
theorem t_8_77 : e_Sn 8 77 (e_un n_8_77) := u_pushT (s_iconst (n := (0)) hq_8 (by decide +kernel) rfl ⟨by decide +kernel, by decide +kernel⟩ : e_Sn 8 77 (o_push (.inl 2147483648) 78)) t_8_78
noncomputable def n_8_74 : e_Y := u_jmp y_ge (u_old2 (o_clt 77 143) 77 n_8_77 n_8_143) n_8_77 n_8_143
theorem t_8_74 : e_Sn 8 74 (e_un n_8_74) := u_cltT rfl (s_cge (off := (69)) hq_8 (by decide +kernel) rfl rfl : e_Sn 8 74 (o_clt 77 143)) t_8_77 t_8_143
noncomputable def n_8_73 : e_Y := u_push (.inl 2147483652) n_8_74
theorem t_8_73 : e_Sn 8 73 (e_un n_8_73) := u_pushT (s_iconst (n := (4)) hq_8 (by decide +kernel) rfl ⟨by decide +kernel, by decide +kernel⟩ : e_Sn 8 73 (o_push (.inl 2147483652) 74)) t_8_74
noncomputable def n_8_71 : e_Y := u_ld f_okI f_l5 n_8_73
theorem t_8_71 : e_Sn 8 71 (e_un n_8_71) := u_ldIT f_l5_eq (s_iload (i := .iload 5) (len := 2) hq_8 (by decide +kernel) rfl (.inl ⟨rfl, rfl⟩) : e_Sn 8 71 (o_load e_okI 5 73)) t_8_73
noncomputable def n_8_69 : e_Y := u_st f_okI f_s5 n_8_71
theorem t_8_69 : e_Sn 8 69 (e_un n_8_69) := u_stIT (fun _ _ _ => f_s5_eq) (s_istore (i := .istore 5) (len := 2) hq_8 (by decide +kernel) rfl (.inl ⟨rfl, rfl⟩) : e_Sn 8 69 (o_store e_okI 5 71)) t_8_71
noncomputable def n_8_68 : e_Y := u_push (.inl 2147483648) n_8_69
theorem t_8_68 : e_Sn 8 68 (e_un n_8_68) := u_pushT (s_iconst (n := (0)) hq_8 (by decide +kernel) rfl ⟨by decide +kernel, by decide +kernel⟩ : e_Sn 8 68 (o_push (.inl 2147483648) 69)) t_8_69
noncomputable def n_8_27 : e_Y := u_jmp y_ge (u_old2 (o_clt 30 68) 30 (u_at 30) n_8_68) (u_at 30) n_8_68
theorem t_8_27 : e_Sn 8 27 (e_un n_8_27) := u_cltT rfl (s_cge (off := (41)) hq_8 (by decide +kernel) rfl rfl : e_Sn 8 27 (o_clt 30 68)) u_atT t_8_68
noncomputable def n_8_24 : e_Y := u_getf 3 4 (u_old (o_getf (e_f1 3 4) 27) n_8_27) n_8_27
theorem t_8_24 : e_Sn 8 24 (e_un n_8_24) := u_getfT (s_getf (C := er_3) (T := et_3) (N := 5) (ref := "Plateroomprinter$Figures") (index := 390) (ci := 3) (k := 4) hq_8 ho_8 ⟨rfl, by decide, ei_3, (List.mem_of_getElem? (i := 403) (by decide +kernel)), .inl rfl⟩ (by decide +kernel) rfl : e_Sn 8 24 (o_getf (e_f1 3 4) 27)) t_8_27
noncomputable def n_8_21 : e_Y := u_getf 11 9 (u_old (o_getf (e_f1 11 9) 24) n_8_24) n_8_24
theorem t_8_21 : e_Sn 8 21 (e_un n_8_21) := u_getfT (s_getf (C := er_11) (T := et_11) (N := 15) (ref := "Plateroomprinter$World") (index := 386) (ci := 11) (k := 9) hq_8 ho_8 ⟨rfl, by decide, ei_11, (List.mem_of_getElem? (i := 487) (by decide +kernel)), .inl rfl⟩ (by decide +kernel) rfl : e_Sn 8 21 (o_getf (e_f1 11 9) 24)) t_8_24
noncomputable def n_8_18 : e_Y := u_getf 0 1 (u_old (o_getf (e_f1 0 1) 21) n_8_21) n_8_21
theorem t_8_18 : e_Sn 8 18 (e_un n_8_18) := u_getfT (s_getf (C := er_0) (T := et_0) (N := 17) (ref := "Plateroomprinter") (index := 19) (ci := 0) (k := 1) hq_8 ho_8 ⟨rfl, by decide, ei_0, (List.mem_of_getElem? (i := 681) (by decide +kernel)), .inl rfl⟩ (by decide +kernel) rfl : e_Sn 8 18 (o_getf (e_f1 0 1) 21)) t_8_21
noncomputable def n_8_17 : e_Y := u_ld f_okA f_l0 n_8_18
theorem t_8_17 : e_Sn 8 17 (e_un n_8_17) := u_ldAT f_l0_eq (s_aload (i := .aload_n 0) (len := 1) hq_8 (by decide +kernel) rfl (.inr ⟨0, rfl, rfl, rfl⟩) : e_Sn 8 17 (o_load e_okR 0 18)) t_8_18
noncomputable def n_8_15 : e_Y := u_ld f_okI f_l5 n_8_17
theorem t_8_15 : e_Sn 8 15 (e_un n_8_15) := u_ldIT f_l5_eq (s_iload (i := .iload 5) (len := 2) hq_8 (by decide +kernel) rfl (.inl ⟨rfl, rfl⟩) : e_Sn 8 15 (o_load e_okI 5 17)) t_8_17
noncomputable def n_8_13 : e_Y := u_st f_okI f_s5 n_8_15
theorem t_8_13 : e_Sn 8 13 (e_un n_8_13) := u_stIT (fun _ _ _ => f_s5_eq) (s_istore (i := .istore 5) (len := 2) hq_8 (by decide +kernel) rfl (.inl ⟨rfl, rfl⟩) : e_Sn 8 13 (o_store e_okI 5 15)) t_8_15
noncomputable def n_8_12 : e_Y := u_push (.inl 2147483648) n_8_13
theorem t_8_12 : e_Sn 8 12 (e_un n_8_12) := u_pushT (s_iconst (n := (0)) hq_8 (by decide +kernel) rfl ⟨by decide +kernel, by decide +kernel⟩ : e_Sn 8 12 (o_push (.inl 2147483648) 13)) t_8_13
noncomputable def n_8_11 : e_Y := u_old (o_storeL 3 12) n_8_12
theorem t_8_11 : e_Sn 8 11 (e_un n_8_11) := u_oldT (s_lstore (i := .lstore_n 3) (len := 1) hq_8 (by decide +kernel) rfl (.inr ⟨3, rfl, rfl, rfl⟩) : e_Sn 8 11 (o_storeL 3 12)) t_8_12 (e_cg_storeL 3)
noncomputable def n_8_10 : e_Y := u_old (o_ladd 11) n_8_11
theorem t_8_10 : e_Sn 8 10 (e_un n_8_10) := u_oldT (s_ladd hq_8 (by decide +kernel) rfl : e_Sn 8 10 (o_ladd 11)) t_8_11 e_cg_ladd
noncomputable def n_8_9 : e_Y := u_old (o_i2l 10) n_8_10
theorem t_8_9 : e_Sn 8 9 (e_un n_8_9) := u_oldT (s_i2l hq_8 (by decide +kernel) rfl : e_Sn 8 9 (o_i2l 10)) t_8_10 e_congr_i2l
noncomputable def n_8_6 : e_Y := u_callV 0 18 1 20 1 n_18_0 n_8_9
theorem t_8_6 : e_Sn 8 6 (e_un n_8_6) := u_callVT rfl (s_callV (ci := 0) (C := er_0) (T := et_0) (N := 17) (index := 536) hq_8 ho_8 hy_18 hp_18 hc_18 hi_18 hd_18 (List.mem_of_getElem? (i := 1529) (by decide +kernel)) hs_18 (List.mem_of_getElem? (i := 1269) (by decide +kernel)) rfl (by decide +kernel) rfl : e_Sn 8 6 (o_callV (e_s1 0 18 1) 1 9)) t_18_0 t_8_9
noncomputable def n_8_5 : e_Y := u_ld f_okA f_l0 n_8_6
theorem t_8_5 : e_Sn 8 5 (e_un n_8_5) := u_ldAT f_l0_eq (s_aload (i := .aload_n 0) (len := 1) hq_8 (by decide +kernel) rfl (.inr ⟨0, rfl, rfl, rfl⟩) : e_Sn 8 5 (o_load e_okR 0 6)) t_8_6
noncomputable def n_8_4 : e_Y := u_old (o_lmul 5) n_8_5
theorem t_8_4 : e_Sn 8 4 (e_un n_8_4) := u_oldT (s_lmul hq_8 (by decide +kernel) rfl : e_Sn 8 4 (o_lmul 5)) t_8_5 e_cg_lmul
noncomputable def n_8_1 : e_Y := u_push (e_L 9223372036854775839) n_8_4
theorem t_8_1 : e_Sn 8 1 (e_un n_8_1) := u_pushT (s_ldc2 (index := 470) (v := (31)) hq_8 ho_8 (List.mem_of_getElem? (i := 1449) (by decide +kernel)) (by decide +kernel) rfl ⟨by decide +kernel, by decide +kernel⟩ : e_Sn 8 1 (o_push (e_L 9223372036854775839) 4)) t_8_4
noncomputable def n_8_0 : e_Y := u_old (o_load e_okL 1 1) n_8_1
theorem t_8_0 : e_Sn 8 0 (e_un n_8_0) := u_oldT (s_lload (i := .lload_n 1) (len := 1) hq_8 (by decide +kernel) rfl (.inr ⟨1, rfl, rfl, rfl⟩) : e_Sn 8 0 (o_load e_okL 1 1)) t_8_1 e_congr_load
noncomputable def e_tb_8 : e_X := (e_br 80 (e_br 71 (e_lf 0 (e_un n_8_0)) (e_lf 71 (e_un n_8_71))) (e_br 146 (e_lf 80 (e_un n_8_80)) (e_lf 146 (e_un n_8_146))))
theorem e_tk_8 : e_Tb 8 e_tb_8 := (e_brT (e_brT (e_lfT t_8_0) (e_lfT t_8_71)) (e_brT (e_lfT t_8_80) (e_lfT t_8_146)))
theorem hq_87 : (e_ml[87]?).map (·.2.1) = some prog_9_method_4_code := rfl
theorem ho_87 : (e_ml[87]?).map (·.1.cls) = some "Plateroomprinter$Raster" := rfl
theorem hr_87 : (e_ml[87]?).map (·.2.2.2) = some none := rfl
noncomputable def n_87_51 : e_Y := u_tab (o_retv)
theorem t_87_51 : e_Sn 87 51 (e_un n_87_51) := u_tabT (s_vret hq_87 hr_87 (by decide +kernel) : e_Sn 87 51 (o_retv))
noncomputable def n_87_9 : e_Y := u_jmp y_ge (u_old2 (o_clt 12 51) 12 (u_at 12) n_87_51) (u_at 12) n_87_51
theorem t_87_9 : e_Sn 87 9 (e_un n_87_9) := u_cltT rfl (s_cge (off := (42)) hq_87 (by decide +kernel) rfl rfl : e_Sn 87 9 (o_clt 12 51)) u_atT t_87_51
noncomputable def n_87_6 : e_Y := u_getf 7 4 (u_old (o_getf (e_f1 7 4) 9) n_87_9) n_87_9
theorem t_87_6 : e_Sn 87 6 (e_un n_87_6) := u_getfT (s_getf (C := er_7) (T := et_7) (N := 6) (ref := "Plateroomprinter$Path") (index := 32) (ci := 7) (k := 4) hq_87 ho_87 ⟨rfl, by decide, ei_7, (List.mem_of_getElem? (i := 295) (by decide +kernel)), .inl rfl⟩ (by decide +kernel) rfl : e_Sn 87 6 (o_getf (e_f1 7 4) 9)) t_87_9
noncomputable def n_87_5 : e_Y := u_ld f_okA f_l1 n_87_6
theorem t_87_5 : e_Sn 87 5 (e_un n_87_5) := u_ldAT f_l1_eq (s_aload (i := .aload_n 1) (len := 1) hq_87 (by decide +kernel) rfl (.inr ⟨1, rfl, rfl, rfl⟩) : e_Sn 87 5 (o_load e_okR 1 6)) t_87_6
noncomputable def n_87_3 : e_Y := u_ld f_okI f_l4 n_87_5
theorem t_87_3 : e_Sn 87 3 (e_un n_87_3) := u_ldIT f_l4_eq (s_iload (i := .iload 4) (len := 2) hq_87 (by decide +kernel) rfl (.inl ⟨rfl, rfl⟩) : e_Sn 87 3 (o_load e_okI 4 5)) t_87_5
noncomputable def n_87_1 : e_Y := u_st f_okI f_s4 n_87_3
theorem t_87_1 : e_Sn 87 1 (e_un n_87_1) := u_stIT (fun _ _ _ => f_s4_eq) (s_istore (i := .istore 4) (len := 2) hq_87 (by decide +kernel) rfl (.inl ⟨rfl, rfl⟩) : e_Sn 87 1 (o_store e_okI 4 3)) t_87_3
noncomputable def n_87_0 : e_Y := u_push (.inl 2147483648) n_87_1
theorem t_87_0 : e_Sn 87 0 (e_un n_87_0) := u_pushT (s_iconst (n := (0)) hq_87 (by decide +kernel) rfl ⟨by decide +kernel, by decide +kernel⟩ : e_Sn 87 0 (o_push (.inl 2147483648) 1)) t_87_1
noncomputable def e_tb_87 : e_X := (e_lf 0 (e_un n_87_0))
theorem e_tk_87 : e_Tb 87 e_tb_87 := (e_lfT t_87_0)
theorem hq_89 : (e_ml[89]?).map (·.2.1) = some prog_9_method_5_code := rfl
theorem ho_89 : (e_ml[89]?).map (·.1.cls) = some "Plateroomprinter$Raster" := rfl
theorem hr_89 : (e_ml[89]?).map (·.2.2.2) = some none := rfl
noncomputable def n_89_131 : e_Y := u_tab (o_retv)
theorem t_89_131 : e_Sn 89 131 (e_un n_89_131) := u_tabT (s_vret hq_89 hr_89 (by decide +kernel) : e_Sn 89 131 (o_retv))
noncomputable def n_89_128 : e_Y := u_old (o_putf (e_f1 8 2) e_okI 131) n_89_131
theorem t_89_128 : e_Sn 89 128 (e_un n_89_128) := u_oldT (s_putf (ty0 := ey_8) (ok := e_okI) (C := er_8) (T := et_8) (N := 3) (ref := "Plateroomprinter$Raster") (index := 19) (ci := 8) (k := 2) hq_89 ho_89 ⟨rfl, by decide, ei_8, (List.mem_of_getElem? (i := 542) (by decide +kernel)), .inl rfl⟩ eo_8 en_8 e_oksI (.inl rfl) (by decide +kernel) rfl : e_Sn 89 128 (o_putf (e_f1 8 2) e_okI 131)) t_89_131 (e_cg_putf (e_f1 8 2) e_okI)
noncomputable def n_89_127 : e_Y := u_push (.inl 2147483647) n_89_128
theorem t_89_127 : e_Sn 89 127 (e_un n_89_127) := u_pushT (s_iconst (n := (-1)) hq_89 (by decide +kernel) rfl ⟨by decide +kernel, by decide +kernel⟩ : e_Sn 89 127 (o_push (.inl 2147483647) 128)) t_89_128
noncomputable def n_89_126 : e_Y := u_ld f_okA f_l0 n_89_127
theorem t_89_126 : e_Sn 89 126 (e_un n_89_126) := u_ldAT f_l0_eq (s_aload (i := .aload_n 0) (len := 1) hq_89 (by decide +kernel) rfl (.inr ⟨0, rfl, rfl, rfl⟩) : e_Sn 89 126 (o_load e_okR 0 127)) t_89_127
noncomputable def n_89_123 : e_Y := u_old (o_putf (e_f1 8 1) e_okI 126) n_89_126
theorem t_89_123 : e_Sn 89 123 (e_un n_89_123) := u_oldT (s_putf (ty0 := ey_8) (ok := e_okI) (C := er_8) (T := et_8) (N := 3) (ref := "Plateroomprinter$Raster") (index := 15) (ci := 8) (k := 1) hq_89 ho_89 ⟨rfl, by decide, ei_8, (List.mem_of_getElem? (i := 541) (by decide +kernel)), .inl rfl⟩ eo_8 en_8 e_oksI (.inl rfl) (by decide +kernel) rfl : e_Sn 89 123 (o_putf (e_f1 8 1) e_okI 126)) t_89_126 (e_cg_putf (e_f1 8 1) e_okI)
noncomputable def n_89_121 : e_Y := u_push (.inl 2147483680) n_89_123
theorem t_89_121 : e_Sn 89 121 (e_un n_89_121) := u_pushT (s_bipush (n := (32)) hq_89 (by decide +kernel) rfl ⟨by decide +kernel, by decide +kernel⟩ : e_Sn 89 121 (o_push (.inl 2147483680) 123)) t_89_123
noncomputable def n_89_120 : e_Y := u_ld f_okA f_l0 n_89_121
theorem t_89_120 : e_Sn 89 120 (e_un n_89_120) := u_ldAT f_l0_eq (s_aload (i := .aload_n 0) (len := 1) hq_89 (by decide +kernel) rfl (.inr ⟨0, rfl, rfl, rfl⟩) : e_Sn 89 120 (o_load e_okR 0 121)) t_89_121
noncomputable def n_89_117 : e_Y := (u_at 27)
theorem t_89_117 : e_Sn 89 117 (e_un n_89_117) := u_gotoT (s_goto (off := (-90)) hq_89 (by decide +kernel) rfl : e_Sn 89 117 (o_goto 27)) u_atT
noncomputable def n_89_114 : e_Y := u_inc f_l4 f_s4 1 n_89_117
theorem t_89_114 : e_Sn 89 114 (e_un n_89_114) := u_incT f_l4_eq (fun _ _ _ => f_s4_eq) (s_iinc (zz := (1)) hq_89 (by decide +kernel) rfl (by decide +kernel) ⟨by decide, by decide⟩ : e_Sn 89 114 (o_iinc 4 1 117)) t_89_117
noncomputable def n_89_111 : e_Y := (u_at 39)
theorem t_89_111 : e_Sn 89 111 (e_un n_89_111) := u_gotoT (s_goto (off := (-72)) hq_89 (by decide +kernel) rfl : e_Sn 89 111 (o_goto 39)) u_atT
noncomputable def n_89_108 : e_Y := u_inc f_l6 f_s6 1 n_89_111
theorem t_89_108 : e_Sn 89 108 (e_un n_89_108) := u_incT f_l6_eq (fun _ _ _ => f_s6_eq) (s_iinc (zz := (1)) hq_89 (by decide +kernel) rfl (by decide +kernel) ⟨by decide, by decide⟩ : e_Sn 89 108 (o_iinc 6 1 111)) t_89_111
noncomputable def n_89_107 : e_Y := u_old (o_ast 0 e_okI 108) n_89_108
theorem t_89_107 : e_Sn 89 107 (e_un n_89_107) := u_oldT (s_iast hq_89 (by decide +kernel) rfl : e_Sn 89 107 (o_ast 0 e_okI 108)) t_89_108 (e_cg_ast 0 e_okI)
noncomputable def n_89_106 : e_Y := u_bin a_ior (u_old (o_bin Nat.lor 107) n_89_107) n_89_107
theorem t_89_106 : e_Sn 89 106 (e_un n_89_106) := u_iorT (s_ior hq_89 (by decide +kernel) rfl : e_Sn 89 106 (o_bin Nat.lor 107)) t_89_107
noncomputable def n_89_105 : e_Y := u_bin a_ishl (u_old (o_ishl 106) n_89_106) n_89_106
theorem t_89_105 : e_Sn 89 105 (e_un n_89_105) := u_ishlT (s_ishl hq_89 (by decide +kernel) rfl : e_Sn 89 105 (o_ishl 106)) t_89_106
noncomputable def n_89_103 : e_Y := u_ld f_okI f_l6 n_89_105
theorem t_89_103 : e_Sn 89 103 (e_un n_89_103) := u_ldIT f_l6_eq (s_iload (i := .iload 6) (len := 2) hq_89 (by decide +kernel) rfl (.inl ⟨rfl, rfl⟩) : e_Sn 89 103 (o_load e_okI 6 105)) t_89_105
noncomputable def n_89_102 : e_Y := u_push (.inl 2147483649) n_89_103
theorem t_89_102 : e_Sn 89 102 (e_un n_89_102) := u_pushT (s_iconst (n := (1)) hq_89 (by decide +kernel) rfl ⟨by decide +kernel, by decide +kernel⟩ : e_Sn 89 102 (o_push (.inl 2147483649) 103)) t_89_103
noncomputable def n_89_101 : e_Y := u_ald 0 (u_old (o_ald e_fcs 102) n_89_102) n_89_102
theorem t_89_101 : e_Sn 89 101 (e_un n_89_101) := u_aldT (s_iald hq_89 (by decide +kernel) rfl : e_Sn 89 101 (o_ald e_fcs 102)) t_89_102
noncomputable def n_89_100 : e_Y := u_old (o_dup2 101) n_89_101
theorem t_89_100 : e_Sn 89 100 (e_un n_89_100) := u_oldT (s_dup2 hq_89 (by decide +kernel) rfl : e_Sn 89 100 (o_dup2 101)) t_89_101 e_cg_dup2
noncomputable def n_89_98 : e_Y := u_ld f_okI f_l4 n_89_100
theorem t_89_98 : e_Sn 89 98 (e_un n_89_98) := u_ldIT f_l4_eq (s_iload (i := .iload 4) (len := 2) hq_89 (by decide +kernel) rfl (.inl ⟨rfl, rfl⟩) : e_Sn 89 98 (o_load e_okI 4 100)) t_89_100
noncomputable def n_89_97 : e_Y := u_ld f_okA f_l2 n_89_98
theorem t_89_97 : e_Sn 89 97 (e_un n_89_97) := u_ldAT f_l2_eq (s_aload (i := .aload_n 2) (len := 1) hq_89 (by decide +kernel) rfl (.inr ⟨2, rfl, rfl, rfl⟩) : e_Sn 89 97 (o_load e_okR 2 98)) t_89_98
noncomputable def n_89_89 : e_Y := n_89_97
theorem t_89_89 : e_Sn 89 89 (e_un n_89_89) := u_gotoT (s_goto (off := (8)) hq_89 (by decide +kernel) rfl : e_Sn 89 89 (o_goto 97)) t_89_97
noncomputable def n_89_86 : e_Y := u_if y_ne0 (u_old2 (o_ifeq 108 89) 108 n_89_108 n_89_89) n_89_108 n_89_89
theorem t_89_86 : e_Sn 89 86 (e_un n_89_86) := u_ifeqT rfl (s_ifeq (off := (22)) hq_89 (by decide +kernel) rfl rfl : e_Sn 89 86 (o_ifeq 108 89)) t_89_108 t_89_89
noncomputable def n_89_85 : e_Y := u_bin a_iand (u_old (o_bin Nat.land 86) n_89_86) n_89_86
theorem t_89_85 : e_Sn 89 85 (e_un n_89_85) := u_iandT (s_iand hq_89 (by decide +kernel) rfl : e_Sn 89 85 (o_bin Nat.land 86)) t_89_86
noncomputable def n_89_84 : e_Y := u_push (.inl 2147483649) n_89_85
theorem t_89_84 : e_Sn 89 84 (e_un n_89_84) := u_pushT (s_iconst (n := (1)) hq_89 (by decide +kernel) rfl ⟨by decide +kernel, by decide +kernel⟩ : e_Sn 89 84 (o_push (.inl 2147483649) 85)) t_89_85
noncomputable def n_89_82 : e_Y := u_ld f_okI f_l5 n_89_84
theorem t_89_82 : e_Sn 89 82 (e_un n_89_82) := u_ldIT f_l5_eq (s_iload (i := .iload 5) (len := 2) hq_89 (by decide +kernel) rfl (.inl ⟨rfl, rfl⟩) : e_Sn 89 82 (o_load e_okI 5 84)) t_89_84
noncomputable def n_89_79 : e_Y := u_if y_ne0 (u_old2 (o_ifeq 82 92) 82 n_89_82 (u_at 92)) n_89_82 (u_at 92)
theorem t_89_79 : e_Sn 89 79 (e_un n_89_79) := u_ifeqT rfl (s_ifne (off := (13)) hq_89 (by decide +kernel) rfl rfl : e_Sn 89 79 (o_ifeq 82 92)) t_89_82 u_atT
noncomputable def n_89_78 : e_Y := u_ld f_okI f_l1 n_89_79
theorem t_89_78 : e_Sn 89 78 (e_un n_89_78) := u_ldIT f_l1_eq (s_iload (i := .iload_n 1) (len := 1) hq_89 (by decide +kernel) rfl (.inr ⟨1, rfl, rfl, rfl⟩) : e_Sn 89 78 (o_load e_okI 1 79)) t_89_79
noncomputable def n_89_77 : e_Y := u_old (o_ast 0 e_okI 78) n_89_78
theorem t_89_77 : e_Sn 89 77 (e_un n_89_77) := u_oldT (s_iast hq_89 (by decide +kernel) rfl : e_Sn 89 77 (o_ast 0 e_okI 78)) t_89_78 (e_cg_ast 0 e_okI)
noncomputable def n_89_76 : e_Y := u_push (.inl 2147483648) n_89_77
theorem t_89_76 : e_Sn 89 76 (e_un n_89_76) := u_pushT (s_iconst (n := (0)) hq_89 (by decide +kernel) rfl ⟨by decide +kernel, by decide +kernel⟩ : e_Sn 89 76 (o_push (.inl 2147483648) 77)) t_89_77
noncomputable def n_89_75 : e_Y := u_bin a_iadd (u_old (o_iadd 76) n_89_76) n_89_76
theorem t_89_75 : e_Sn 89 75 (e_un n_89_75) := u_iaddT (s_iadd hq_89 (by decide +kernel) rfl : e_Sn 89 75 (o_iadd 76)) t_89_76
noncomputable def n_89_73 : e_Y := u_ld f_okI f_l6 n_89_75
theorem t_89_73 : e_Sn 89 73 (e_un n_89_73) := u_ldIT f_l6_eq (s_iload (i := .iload 6) (len := 2) hq_89 (by decide +kernel) rfl (.inl ⟨rfl, rfl⟩) : e_Sn 89 73 (o_load e_okI 6 75)) t_89_75
noncomputable def n_89_72 : e_Y := u_bin a_imul (u_old (o_imul 73) n_89_73) n_89_73
theorem t_89_72 : e_Sn 89 72 (e_un n_89_72) := u_imulT (s_imul hq_89 (by decide +kernel) rfl : e_Sn 89 72 (o_imul 73)) t_89_73
noncomputable def n_89_70 : e_Y := u_push (.inl 2147483680) n_89_72
theorem t_89_70 : e_Sn 89 70 (e_un n_89_70) := u_pushT (s_bipush (n := (32)) hq_89 (by decide +kernel) rfl ⟨by decide +kernel, by decide +kernel⟩ : e_Sn 89 70 (o_push (.inl 2147483680) 72)) t_89_72
noncomputable def n_89_68 : e_Y := u_ld f_okI f_l4 n_89_70
theorem t_89_68 : e_Sn 89 68 (e_un n_89_68) := u_ldIT f_l4_eq (s_iload (i := .iload 4) (len := 2) hq_89 (by decide +kernel) rfl (.inl ⟨rfl, rfl⟩) : e_Sn 89 68 (o_load e_okI 4 70)) t_89_70
noncomputable def n_89_65 : e_Y := u_getf 8 0 (u_old (o_getf (e_f1 8 0) 68) n_89_68) n_89_68
theorem t_89_65 : e_Sn 89 65 (e_un n_89_65) := u_getfT (s_getf (C := er_8) (T := et_8) (N := 3) (ref := "Plateroomprinter$Raster") (index := 9) (ci := 8) (k := 0) hq_89 ho_89 ⟨rfl, by decide, ei_8, (List.mem_of_getElem? (i := 540) (by decide +kernel)), .inl rfl⟩ (by decide +kernel) rfl : e_Sn 89 65 (o_getf (e_f1 8 0) 68)) t_89_68
noncomputable def n_89_64 : e_Y := u_ld f_okA f_l0 n_89_65
theorem t_89_64 : e_Sn 89 64 (e_un n_89_64) := u_ldAT f_l0_eq (s_aload (i := .aload_n 0) (len := 1) hq_89 (by decide +kernel) rfl (.inr ⟨0, rfl, rfl, rfl⟩) : e_Sn 89 64 (o_load e_okR 0 65)) t_89_65
noncomputable def n_89_62 : e_Y := u_st f_okI f_s5 n_89_64
theorem t_89_62 : e_Sn 89 62 (e_un n_89_62) := u_stIT (fun _ _ _ => f_s5_eq) (s_istore (i := .istore 5) (len := 2) hq_89 (by decide +kernel) rfl (.inl ⟨rfl, rfl⟩) : e_Sn 89 62 (o_store e_okI 5 64)) t_89_64
noncomputable def n_89_61 : e_Y := u_bin a_iadd (u_old (o_iadd 62) n_89_62) n_89_62
theorem t_89_61 : e_Sn 89 61 (e_un n_89_61) := u_iaddT (s_iadd hq_89 (by decide +kernel) rfl : e_Sn 89 61 (o_iadd 62)) t_89_62
noncomputable def n_89_60 : e_Y := u_ald 0 (u_old (o_ald e_fcs 61) n_89_61) n_89_61
theorem t_89_60 : e_Sn 89 60 (e_un n_89_60) := u_aldT (s_iald hq_89 (by decide +kernel) rfl : e_Sn 89 60 (o_ald e_fcs 61)) t_89_61
noncomputable def n_89_59 : e_Y := u_bin a_iadd (u_old (o_iadd 60) n_89_60) n_89_60
theorem t_89_59 : e_Sn 89 59 (e_un n_89_59) := u_iaddT (s_iadd hq_89 (by decide +kernel) rfl : e_Sn 89 59 (o_iadd 60)) t_89_60
noncomputable def n_89_57 : e_Y := u_ld f_okI f_l6 n_89_59
theorem t_89_57 : e_Sn 89 57 (e_un n_89_57) := u_ldIT f_l6_eq (s_iload (i := .iload 6) (len := 2) hq_89 (by decide +kernel) rfl (.inl ⟨rfl, rfl⟩) : e_Sn 89 57 (o_load e_okI 6 59)) t_89_59
noncomputable def n_89_56 : e_Y := u_bin a_imul (u_old (o_imul 57) n_89_57) n_89_57
theorem t_89_56 : e_Sn 89 56 (e_un n_89_56) := u_imulT (s_imul hq_89 (by decide +kernel) rfl : e_Sn 89 56 (o_imul 57)) t_89_57
noncomputable def n_89_54 : e_Y := u_push (.inl 2147483680) n_89_56
theorem t_89_54 : e_Sn 89 54 (e_un n_89_54) := u_pushT (s_bipush (n := (32)) hq_89 (by decide +kernel) rfl ⟨by decide +kernel, by decide +kernel⟩ : e_Sn 89 54 (o_push (.inl 2147483680) 56)) t_89_56
noncomputable def n_89_52 : e_Y := u_ld f_okI f_l4 n_89_54
theorem t_89_52 : e_Sn 89 52 (e_un n_89_52) := u_ldIT f_l4_eq (s_iload (i := .iload 4) (len := 2) hq_89 (by decide +kernel) rfl (.inl ⟨rfl, rfl⟩) : e_Sn 89 52 (o_load e_okI 4 54)) t_89_54
noncomputable def n_89_49 : e_Y := u_getf 8 0 (u_old (o_getf (e_f1 8 0) 52) n_89_52) n_89_52
theorem t_89_49 : e_Sn 89 49 (e_un n_89_49) := u_getfT (s_getf (C := er_8) (T := et_8) (N := 3) (ref := "Plateroomprinter$Raster") (index := 9) (ci := 8) (k := 0) hq_89 ho_89 ⟨rfl, by decide, ei_8, (List.mem_of_getElem? (i := 540) (by decide +kernel)), .inl rfl⟩ (by decide +kernel) rfl : e_Sn 89 49 (o_getf (e_f1 8 0) 52)) t_89_52
noncomputable def n_89_48 : e_Y := u_ld f_okA f_l0 n_89_49
theorem t_89_48 : e_Sn 89 48 (e_un n_89_48) := u_ldAT f_l0_eq (s_aload (i := .aload_n 0) (len := 1) hq_89 (by decide +kernel) rfl (.inr ⟨0, rfl, rfl, rfl⟩) : e_Sn 89 48 (o_load e_okR 0 49)) t_89_49
noncomputable def n_89_46 : e_Y := u_ld f_okI f_l5 n_89_48
theorem t_89_46 : e_Sn 89 46 (e_un n_89_46) := u_ldIT f_l5_eq (s_iload (i := .iload 5) (len := 2) hq_89 (by decide +kernel) rfl (.inl ⟨rfl, rfl⟩) : e_Sn 89 46 (o_load e_okI 5 48)) t_89_48
noncomputable def n_89_43 : e_Y := u_jmp y_ge (u_old2 (o_clt 46 114) 46 n_89_46 n_89_114) n_89_46 n_89_114
theorem t_89_43 : e_Sn 89 43 (e_un n_89_43) := u_cltT rfl (s_cge (off := (71)) hq_89 (by decide +kernel) rfl rfl : e_Sn 89 43 (o_clt 46 114)) t_89_46 t_89_114
noncomputable def n_89_41 : e_Y := u_push (.inl 2147483680) n_89_43
theorem t_89_41 : e_Sn 89 41 (e_un n_89_41) := u_pushT (s_bipush (n := (32)) hq_89 (by decide +kernel) rfl ⟨by decide +kernel, by decide +kernel⟩ : e_Sn 89 41 (o_push (.inl 2147483680) 43)) t_89_43
noncomputable def n_89_39 : e_Y := u_ld f_okI f_l6 n_89_41
theorem t_89_39 : e_Sn 89 39 (e_un n_89_39) := u_ldIT f_l6_eq (s_iload (i := .iload 6) (len := 2) hq_89 (by decide +kernel) rfl (.inl ⟨rfl, rfl⟩) : e_Sn 89 39 (o_load e_okI 6 41)) t_89_41
noncomputable def n_89_37 : e_Y := u_st f_okI f_s6 n_89_39
theorem t_89_37 : e_Sn 89 37 (e_un n_89_37) := u_stIT (fun _ _ _ => f_s6_eq) (s_istore (i := .istore 6) (len := 2) hq_89 (by decide +kernel) rfl (.inl ⟨rfl, rfl⟩) : e_Sn 89 37 (o_store e_okI 6 39)) t_89_39
noncomputable def n_89_36 : e_Y := u_push (.inl 2147483648) n_89_37
theorem t_89_36 : e_Sn 89 36 (e_un n_89_36) := u_pushT (s_iconst (n := (0)) hq_89 (by decide +kernel) rfl ⟨by decide +kernel, by decide +kernel⟩ : e_Sn 89 36 (o_push (.inl 2147483648) 37)) t_89_37
noncomputable def n_89_34 : e_Y := u_st f_okI f_s5 n_89_36
theorem t_89_34 : e_Sn 89 34 (e_un n_89_34) := u_stIT (fun _ _ _ => f_s5_eq) (s_istore (i := .istore 5) (len := 2) hq_89 (by decide +kernel) rfl (.inl ⟨rfl, rfl⟩) : e_Sn 89 34 (o_store e_okI 5 36)) t_89_36
noncomputable def n_89_33 : e_Y := u_push (.inl 2147483648) n_89_34
theorem t_89_33 : e_Sn 89 33 (e_un n_89_33) := u_pushT (s_iconst (n := (0)) hq_89 (by decide +kernel) rfl ⟨by decide +kernel, by decide +kernel⟩ : e_Sn 89 33 (o_push (.inl 2147483648) 34)) t_89_34
noncomputable def n_89_30 : e_Y := u_jmp y_le (u_old2 (o_cgt 120 33) 120 n_89_120 n_89_33) n_89_120 n_89_33
theorem t_89_30 : e_Sn 89 30 (e_un n_89_30) := u_cgtT rfl (s_cgt (off := (90)) hq_89 (by decide +kernel) rfl rfl : e_Sn 89 30 (o_cgt 120 33)) t_89_120 t_89_33
noncomputable def n_89_29 : e_Y := u_ld f_okI f_l3 n_89_30
theorem t_89_29 : e_Sn 89 29 (e_un n_89_29) := u_ldIT f_l3_eq (s_iload (i := .iload_n 3) (len := 1) hq_89 (by decide +kernel) rfl (.inr ⟨3, rfl, rfl, rfl⟩) : e_Sn 89 29 (o_load e_okI 3 30)) t_89_30
noncomputable def n_89_27 : e_Y := u_ld f_okI f_l4 n_89_29
theorem t_89_27 : e_Sn 89 27 (e_un n_89_27) := u_ldIT f_l4_eq (s_iload (i := .iload 4) (len := 2) hq_89 (by decide +kernel) rfl (.inl ⟨rfl, rfl⟩) : e_Sn 89 27 (o_load e_okI 4 29)) t_89_29
noncomputable def n_89_25 : e_Y := u_st f_okI f_s4 n_89_27
theorem t_89_25 : e_Sn 89 25 (e_un n_89_25) := u_stIT (fun _ _ _ => f_s4_eq) (s_istore (i := .istore 4) (len := 2) hq_89 (by decide +kernel) rfl (.inl ⟨rfl, rfl⟩) : e_Sn 89 25 (o_store e_okI 4 27)) t_89_27
noncomputable def n_89_22 : e_Y := u_tab (o_mmax 25)
theorem t_89_22 : e_Sn 89 22 (e_un n_89_22) := u_tabT (s_mmax (index := 60) hq_89 ho_89 (List.mem_of_getElem? (i := 1057) (by decide +kernel)) (List.mem_of_getElem? (i := 229) (by decide +kernel)) (List.mem_of_getElem? (i := 142) (by decide +kernel)) (List.mem_of_getElem? (i := 230) (by decide +kernel)) (by decide +kernel) rfl : e_Sn 89 22 (o_mmax 25))
noncomputable def n_89_19 : e_Y := u_getf 8 1 (u_old (o_getf (e_f1 8 1) 22) n_89_22) n_89_22
theorem t_89_19 : e_Sn 89 19 (e_un n_89_19) := u_getfT (s_getf (C := er_8) (T := et_8) (N := 3) (ref := "Plateroomprinter$Raster") (index := 15) (ci := 8) (k := 1) hq_89 ho_89 ⟨rfl, by decide, ei_8, (List.mem_of_getElem? (i := 541) (by decide +kernel)), .inl rfl⟩ (by decide +kernel) rfl : e_Sn 89 19 (o_getf (e_f1 8 1) 22)) t_89_22
noncomputable def n_89_18 : e_Y := u_ld f_okA f_l0 n_89_19
theorem t_89_18 : e_Sn 89 18 (e_un n_89_18) := u_ldAT f_l0_eq (s_aload (i := .aload_n 0) (len := 1) hq_89 (by decide +kernel) rfl (.inr ⟨0, rfl, rfl, rfl⟩) : e_Sn 89 18 (o_load e_okR 0 19)) t_89_19
noncomputable def n_89_17 : e_Y := u_push (.inl 2147483648) n_89_18
theorem t_89_17 : e_Sn 89 17 (e_un n_89_17) := u_pushT (s_iconst (n := (0)) hq_89 (by decide +kernel) rfl ⟨by decide +kernel, by decide +kernel⟩ : e_Sn 89 17 (o_push (.inl 2147483648) 18)) t_89_18
noncomputable def n_89_16 : e_Y := u_st f_okI f_s3 n_89_17
theorem t_89_16 : e_Sn 89 16 (e_un n_89_16) := u_stIT (fun _ _ _ => f_s3_eq) (s_istore (i := .istore_n 3) (len := 1) hq_89 (by decide +kernel) rfl (.inr ⟨3, rfl, rfl, rfl⟩) : e_Sn 89 16 (o_store e_okI 3 17)) t_89_17
noncomputable def n_89_13 : e_Y := u_tab (o_mmin 16)
theorem t_89_13 : e_Sn 89 13 (e_un n_89_13) := u_tabT (s_mmin (index := 54) hq_89 ho_89 (List.mem_of_getElem? (i := 1056) (by decide +kernel)) (List.mem_of_getElem? (i := 425) (by decide +kernel)) (List.mem_of_getElem? (i := 142) (by decide +kernel)) (List.mem_of_getElem? (i := 426) (by decide +kernel)) (by decide +kernel) rfl : e_Sn 89 13 (o_mmin 16))
noncomputable def n_89_12 : e_Y := u_bin a_isub (u_old (o_isub 13) n_89_13) n_89_13
theorem t_89_12 : e_Sn 89 12 (e_un n_89_12) := u_isubT (s_isub hq_89 (by decide +kernel) rfl : e_Sn 89 12 (o_isub 13)) t_89_13
noncomputable def n_89_11 : e_Y := u_push (.inl 2147483649) n_89_12
theorem t_89_11 : e_Sn 89 11 (e_un n_89_11) := u_pushT (s_iconst (n := (1)) hq_89 (by decide +kernel) rfl ⟨by decide +kernel, by decide +kernel⟩ : e_Sn 89 11 (o_push (.inl 2147483649) 12)) t_89_12
noncomputable def n_89_8 : e_Y := u_tab (o_mmin 11)
theorem t_89_8 : e_Sn 89 8 (e_un n_89_8) := u_tabT (s_mmin (index := 54) hq_89 ho_89 (List.mem_of_getElem? (i := 1056) (by decide +kernel)) (List.mem_of_getElem? (i := 425) (by decide +kernel)) (List.mem_of_getElem? (i := 142) (by decide +kernel)) (List.mem_of_getElem? (i := 426) (by decide +kernel)) (by decide +kernel) rfl : e_Sn 89 8 (o_mmin 11))
noncomputable def n_89_7 : e_Y := u_old (o_alen e_fcs 8) n_89_8
theorem t_89_7 : e_Sn 89 7 (e_un n_89_7) := u_oldT (s_alen hq_89 (by decide +kernel) rfl : e_Sn 89 7 (o_alen e_fcs 8)) t_89_8 (e_cg_alen e_fcs)
noncomputable def n_89_6 : e_Y := u_ld f_okA f_l2 n_89_7
theorem t_89_6 : e_Sn 89 6 (e_un n_89_6) := u_ldAT f_l2_eq (s_aload (i := .aload_n 2) (len := 1) hq_89 (by decide +kernel) rfl (.inr ⟨2, rfl, rfl, rfl⟩) : e_Sn 89 6 (o_load e_okR 2 7)) t_89_7
noncomputable def n_89_4 : e_Y := u_push (.inl 2147483680) n_89_6
theorem t_89_4 : e_Sn 89 4 (e_un n_89_4) := u_pushT (s_bipush (n := (32)) hq_89 (by decide +kernel) rfl ⟨by decide +kernel, by decide +kernel⟩ : e_Sn 89 4 (o_push (.inl 2147483680) 6)) t_89_6
noncomputable def n_89_1 : e_Y := u_getf 8 2 (u_old (o_getf (e_f1 8 2) 4) n_89_4) n_89_4
theorem t_89_1 : e_Sn 89 1 (e_un n_89_1) := u_getfT (s_getf (C := er_8) (T := et_8) (N := 3) (ref := "Plateroomprinter$Raster") (index := 19) (ci := 8) (k := 2) hq_89 ho_89 ⟨rfl, by decide, ei_8, (List.mem_of_getElem? (i := 542) (by decide +kernel)), .inl rfl⟩ (by decide +kernel) rfl : e_Sn 89 1 (o_getf (e_f1 8 2) 4)) t_89_4
noncomputable def n_89_0 : e_Y := u_ld f_okA f_l0 n_89_1
theorem t_89_0 : e_Sn 89 0 (e_un n_89_0) := u_ldAT f_l0_eq (s_aload (i := .aload_n 0) (len := 1) hq_89 (by decide +kernel) rfl (.inr ⟨0, rfl, rfl, rfl⟩) : e_Sn 89 0 (o_load e_okR 0 1)) t_89_1
noncomputable def e_tb_89 : e_X := (e_br 25 (e_br 11 (e_lf 0 (e_un n_89_0)) (e_br 16 (e_lf 11 (e_un n_89_11)) (e_lf 16 (e_un n_89_16)))) (e_br 27 (e_lf 25 (e_un n_89_25)) (e_br 39 (e_lf 27 (e_un n_89_27)) (e_lf 39 (e_un n_89_39)))))
theorem e_tk_89 : e_Tb 89 e_tb_89 := (e_brT (e_brT (e_lfT t_89_0) (e_brT (e_lfT t_89_11) (e_lfT t_89_16))) (e_brT (e_lfT t_89_25) (e_brT (e_lfT t_89_27) (e_lfT t_89_39))))
theorem hq_19 : (e_ml[19]?).map (·.2.1) = some prog_1_method_32_code := rfl
theorem ho_19 : (e_ml[19]?).map (·.1.cls) = some "Plateroomprinter" := rfl
theorem hr_19 : (e_ml[19]?).map (·.2.2.2) = some none := rfl
noncomputable def n_19_40 : e_Y := u_tab (o_retv)
theorem t_19_40 : e_Sn 19 40 (e_un n_19_40) := u_tabT (s_vret hq_19 hr_19 (by decide +kernel) : e_Sn 19 40 (o_retv))
noncomputable def n_19_37 : e_Y := u_callV 8 89 7 26 3 n_89_0 n_19_40
theorem t_19_37 : e_Sn 19 37 (e_un n_19_37) := u_callVT rfl (s_callV (ci := 8) (C := er_8) (T := et_8) (N := 3) (index := 358) hq_19 ho_19 hy_89 hp_89 hc_89 hi_89 hd_89 (List.mem_of_getElem? (i := 1265) (by decide +kernel)) hs_89 (List.mem_of_getElem? (i := 1054) (by decide +kernel)) rfl (by decide +kernel) rfl : e_Sn 19 37 (o_callV (e_s1 8 89 7) 3 40)) t_89_0 t_19_40
noncomputable def n_19_35 : e_Y := u_ld f_okA f_l4 n_19_37
theorem t_19_35 : e_Sn 19 35 (e_un n_19_35) := u_ldAT f_l4_eq (s_aload (i := .aload 4) (len := 2) hq_19 (by decide +kernel) rfl (.inl ⟨rfl, rfl⟩) : e_Sn 19 35 (o_load e_okR 4 37)) t_19_37
noncomputable def n_19_34 : e_Y := u_ld f_okI f_l3 n_19_35
theorem t_19_34 : e_Sn 19 34 (e_un n_19_34) := u_ldIT f_l3_eq (s_iload (i := .iload_n 3) (len := 1) hq_19 (by decide +kernel) rfl (.inr ⟨3, rfl, rfl, rfl⟩) : e_Sn 19 34 (o_load e_okI 3 35)) t_19_35
noncomputable def n_19_31 : e_Y := u_getf 0 3 (u_old (o_getf (e_f1 0 3) 34) n_19_34) n_19_34
theorem t_19_31 : e_Sn 19 31 (e_un n_19_31) := u_getfT (s_getf (C := er_0) (T := et_0) (N := 17) (ref := "Plateroomprinter") (index := 29) (ci := 0) (k := 3) hq_19 ho_19 ⟨rfl, by decide, ei_0, (List.mem_of_getElem? (i := 683) (by decide +kernel)), .inl rfl⟩ (by decide +kernel) rfl : e_Sn 19 31 (o_getf (e_f1 0 3) 34)) t_19_34
noncomputable def n_19_30 : e_Y := u_ld f_okA f_l0 n_19_31
theorem t_19_30 : e_Sn 19 30 (e_un n_19_30) := u_ldAT f_l0_eq (s_aload (i := .aload_n 0) (len := 1) hq_19 (by decide +kernel) rfl (.inr ⟨0, rfl, rfl, rfl⟩) : e_Sn 19 30 (o_load e_okR 0 31)) t_19_31
noncomputable def n_19_27 : e_Y := u_callV 8 87 6 25 4 n_87_0 n_19_30
theorem t_19_27 : e_Sn 19 27 (e_un n_19_27) := u_callVT rfl (s_callV (ci := 8) (C := er_8) (T := et_8) (N := 3) (index := 344) hq_19 ho_19 hy_87 hp_87 hc_87 hi_87 hd_87 (List.mem_of_getElem? (i := 1259) (by decide +kernel)) hs_87 (List.mem_of_getElem? (i := 1200) (by decide +kernel)) rfl (by decide +kernel) rfl : e_Sn 19 27 (o_callV (e_s1 8 87 6) 4 30)) t_87_0 t_19_30
noncomputable def n_19_26 : e_Y := u_bin a_imul (u_old (o_imul 27) n_19_27) n_19_27
theorem t_19_26 : e_Sn 19 26 (e_un n_19_26) := u_imulT (s_imul hq_19 (by decide +kernel) rfl : e_Sn 19 26 (o_imul 27)) t_19_27
noncomputable def n_19_25 : e_Y := u_ld f_okI f_l2 n_19_26
theorem t_19_25 : e_Sn 19 25 (e_un n_19_25) := u_ldIT f_l2_eq (s_iload (i := .iload_n 2) (len := 1) hq_19 (by decide +kernel) rfl (.inr ⟨2, rfl, rfl, rfl⟩) : e_Sn 19 25 (o_load e_okI 2 26)) t_19_26
noncomputable def n_19_23 : e_Y := u_push (.inl 2147483664) n_19_25
theorem t_19_23 : e_Sn 19 23 (e_un n_19_23) := u_pushT (s_bipush (n := (16)) hq_19 (by decide +kernel) rfl ⟨by decide +kernel, by decide +kernel⟩ : e_Sn 19 23 (o_push (.inl 2147483664) 25)) t_19_25
noncomputable def n_19_22 : e_Y := u_bin a_imul (u_old (o_imul 23) n_19_23) n_19_23
theorem t_19_22 : e_Sn 19 22 (e_un n_19_22) := u_imulT (s_imul hq_19 (by decide +kernel) rfl : e_Sn 19 22 (o_imul 23)) t_19_23
noncomputable def n_19_21 : e_Y := u_ld f_okI f_l1 n_19_22
theorem t_19_21 : e_Sn 19 21 (e_un n_19_21) := u_ldIT f_l1_eq (s_iload (i := .iload_n 1) (len := 1) hq_19 (by decide +kernel) rfl (.inr ⟨1, rfl, rfl, rfl⟩) : e_Sn 19 21 (o_load e_okI 1 22)) t_19_22
noncomputable def n_19_19 : e_Y := u_push (.inl 2147483664) n_19_21
theorem t_19_19 : e_Sn 19 19 (e_un n_19_19) := u_pushT (s_bipush (n := (16)) hq_19 (by decide +kernel) rfl ⟨by decide +kernel, by decide +kernel⟩ : e_Sn 19 19 (o_push (.inl 2147483664) 21)) t_19_21
noncomputable def n_19_16 : e_Y := u_getf 10 1 (u_old (o_getf (e_f1 10 1) 19) n_19_19) n_19_19
theorem t_19_16 : e_Sn 19 16 (e_un n_19_16) := u_getfT (s_getf (C := er_10) (T := et_10) (N := 11) (ref := "Plateroomprinter$State") (index := 250) (ci := 10) (k := 1) hq_19 ho_19 ⟨rfl, by decide, ei_10, (List.mem_of_getElem? (i := 321) (by decide +kernel)), .inl rfl⟩ (by decide +kernel) rfl : e_Sn 19 16 (o_getf (e_f1 10 1) 19)) t_19_19
noncomputable def n_19_13 : e_Y := u_getf 11 2 (u_old (o_getf (e_f1 11 2) 16) n_19_16) n_19_16
theorem t_19_13 : e_Sn 19 13 (e_un n_19_13) := u_getfT (s_getf (C := er_11) (T := et_11) (N := 15) (ref := "Plateroomprinter$World") (index := 221) (ci := 11) (k := 2) hq_19 ho_19 ⟨rfl, by decide, ei_11, (List.mem_of_getElem? (i := 467) (by decide +kernel)), .inl rfl⟩ (by decide +kernel) rfl : e_Sn 19 13 (o_getf (e_f1 11 2) 16)) t_19_16
noncomputable def n_19_10 : e_Y := u_getf 0 1 (u_old (o_getf (e_f1 0 1) 13) n_19_13) n_19_13
theorem t_19_10 : e_Sn 19 10 (e_un n_19_10) := u_getfT (s_getf (C := er_0) (T := et_0) (N := 17) (ref := "Plateroomprinter") (index := 19) (ci := 0) (k := 1) hq_19 ho_19 ⟨rfl, by decide, ei_0, (List.mem_of_getElem? (i := 681) (by decide +kernel)), .inl rfl⟩ (by decide +kernel) rfl : e_Sn 19 10 (o_getf (e_f1 0 1) 13)) t_19_13
noncomputable def n_19_9 : e_Y := u_ld f_okA f_l0 n_19_10
theorem t_19_9 : e_Sn 19 9 (e_un n_19_9) := u_ldAT f_l0_eq (s_aload (i := .aload_n 0) (len := 1) hq_19 (by decide +kernel) rfl (.inr ⟨0, rfl, rfl, rfl⟩) : e_Sn 19 9 (o_load e_okR 0 10)) t_19_10
noncomputable def n_19_6 : e_Y := u_getf 0 3 (u_old (o_getf (e_f1 0 3) 9) n_19_9) n_19_9
theorem t_19_6 : e_Sn 19 6 (e_un n_19_6) := u_getfT (s_getf (C := er_0) (T := et_0) (N := 17) (ref := "Plateroomprinter") (index := 29) (ci := 0) (k := 3) hq_19 ho_19 ⟨rfl, by decide, ei_0, (List.mem_of_getElem? (i := 683) (by decide +kernel)), .inl rfl⟩ (by decide +kernel) rfl : e_Sn 19 6 (o_getf (e_f1 0 3) 9)) t_19_9
noncomputable def n_19_5 : e_Y := u_ld f_okA f_l0 n_19_6
theorem t_19_5 : e_Sn 19 5 (e_un n_19_5) := u_ldAT f_l0_eq (s_aload (i := .aload_n 0) (len := 1) hq_19 (by decide +kernel) rfl (.inr ⟨0, rfl, rfl, rfl⟩) : e_Sn 19 5 (o_load e_okR 0 6)) t_19_6
noncomputable def n_19_2 : e_Y := u_callS 4 2 21 1 n_4_0 n_19_5
theorem t_19_2 : e_Sn 19 2 (e_un n_19_2) := u_callST rfl (s_callS (index := 340) hq_19 ho_19 hy_4 hp_4 hc_4 hi_4 hd_4 (List.mem_of_getElem? (i := 1258) (by decide +kernel)) hs_4 (by decide +kernel) rfl : e_Sn 19 2 (o_callS 4 2 1 5)) t_4_0 t_19_5
noncomputable def n_19_0 : e_Y := u_ld f_okA f_l4 n_19_2
theorem t_19_0 : e_Sn 19 0 (e_un n_19_0) := u_ldAT f_l4_eq (s_aload (i := .aload 4) (len := 2) hq_19 (by decide +kernel) rfl (.inl ⟨rfl, rfl⟩) : e_Sn 19 0 (o_load e_okR 4 2)) t_19_2
noncomputable def e_tb_19 : e_X := (e_lf 0 (e_un n_19_0))
theorem e_tk_19 : e_Tb 19 e_tb_19 := (e_lfT t_19_0)
theorem hq_27 : (e_ml[27]?).map (·.2.1) = some prog_1_method_34_code := rfl
theorem ho_27 : (e_ml[27]?).map (·.1.cls) = some "Plateroomprinter" := rfl
theorem hr_27 : (e_ml[27]?).map (·.2.2.2) = some (some .boolean) := rfl
noncomputable def n_27_14 : e_Y := u_tab (o_ret e_okZ)
theorem t_27_14 : e_Sn 27 14 (e_un n_27_14) := u_tabT (s_zret hq_27 hr_27 (by decide +kernel) : e_Sn 27 14 (o_ret e_okZ))
noncomputable def n_27_13 : e_Y := u_push (.inl 2147483648) n_27_14
theorem t_27_13 : e_Sn 27 13 (e_un n_27_13) := u_pushT (s_iconst (n := (0)) hq_27 (by decide +kernel) rfl ⟨by decide +kernel, by decide +kernel⟩ : e_Sn 27 13 (o_push (.inl 2147483648) 14)) t_27_14
noncomputable def n_27_10 : e_Y := n_27_14
theorem t_27_10 : e_Sn 27 10 (e_un n_27_10) := u_gotoT (s_goto (off := (4)) hq_27 (by decide +kernel) rfl : e_Sn 27 10 (o_goto 14)) t_27_14
noncomputable def n_27_9 : e_Y := u_push (.inl 2147483649) n_27_10
theorem t_27_9 : e_Sn 27 9 (e_un n_27_9) := u_pushT (s_iconst (n := (1)) hq_27 (by decide +kernel) rfl ⟨by decide +kernel, by decide +kernel⟩ : e_Sn 27 9 (o_push (.inl 2147483649) 10)) t_27_10
noncomputable def n_27_6 : e_Y := u_jmp y_ne (u_old2 (o_ceq 9 13) 9 n_27_9 n_27_13) n_27_9 n_27_13
theorem t_27_6 : e_Sn 27 6 (e_un n_27_6) := u_ceqT rfl (s_cne (off := (7)) hq_27 (by decide +kernel) rfl rfl : e_Sn 27 6 (o_ceq 9 13)) t_27_9 t_27_13
noncomputable def n_27_5 : e_Y := u_push (.inl 2147483649) n_27_6
theorem t_27_5 : e_Sn 27 5 (e_un n_27_5) := u_pushT (s_iconst (n := (1)) hq_27 (by decide +kernel) rfl ⟨by decide +kernel, by decide +kernel⟩ : e_Sn 27 5 (o_push (.inl 2147483649) 6)) t_27_6
noncomputable def n_27_4 : e_Y := u_ld f_okI f_l0 n_27_5
theorem t_27_4 : e_Sn 27 4 (e_un n_27_4) := u_ldIT f_l0_eq (s_iload (i := .iload_n 0) (len := 1) hq_27 (by decide +kernel) rfl (.inr ⟨0, rfl, rfl, rfl⟩) : e_Sn 27 4 (o_load e_okI 0 5)) t_27_5
noncomputable def n_27_1 : e_Y := u_if y_ne0 (u_old2 (o_ifeq 9 4) 9 n_27_9 n_27_4) n_27_9 n_27_4
theorem t_27_1 : e_Sn 27 1 (e_un n_27_1) := u_ifeqT rfl (s_ifeq (off := (8)) hq_27 (by decide +kernel) rfl rfl : e_Sn 27 1 (o_ifeq 9 4)) t_27_9 t_27_4
noncomputable def n_27_0 : e_Y := u_ld f_okI f_l0 n_27_1
theorem t_27_0 : e_Sn 27 0 (e_un n_27_0) := u_ldIT f_l0_eq (s_iload (i := .iload_n 0) (len := 1) hq_27 (by decide +kernel) rfl (.inr ⟨0, rfl, rfl, rfl⟩) : e_Sn 27 0 (o_load e_okI 0 1)) t_27_1
noncomputable def e_tb_27 : e_X := (e_lf 0 (e_un n_27_0))
theorem e_tk_27 : e_Tb 27 e_tb_27 := (e_lfT t_27_0)
theorem hq_14 : (e_ml[14]?).map (·.2.1) = some prog_1_method_25_code := rfl
theorem ho_14 : (e_ml[14]?).map (·.1.cls) = some "Plateroomprinter" := rfl
theorem hr_14 : (e_ml[14]?).map (·.2.2.2) = some (some .int) := rfl
noncomputable def n_14_37 : e_Y := u_retI
theorem t_14_37 : e_Sn 14 37 (e_un n_14_37) := u_retIT (s_iret hq_14 hr_14 (by decide +kernel) : e_Sn 14 37 (o_ret e_okI))
noncomputable def n_14_34 : e_Y := u_callS 3 4 23 2 n_3_0 n_14_37
theorem t_14_34 : e_Sn 14 34 (e_un n_14_34) := u_callST rfl (s_callS (index := 265) hq_14 ho_14 hy_3 hp_3 hc_3 hi_3 hd_3 (List.mem_of_getElem? (i := 1266) (by decide +kernel)) hs_3 (by decide +kernel) rfl : e_Sn 14 34 (o_callS 3 4 2 37)) t_3_0 t_14_37
noncomputable def n_14_33 : e_Y := u_push (.inl 2147483648) n_14_34
theorem t_14_33 : e_Sn 14 33 (e_un n_14_33) := u_pushT (s_iconst (n := (0)) hq_14 (by decide +kernel) rfl ⟨by decide +kernel, by decide +kernel⟩ : e_Sn 14 33 (o_push (.inl 2147483648) 34)) t_14_34
noncomputable def n_14_30 : e_Y := u_getf 0 7 (u_old (o_getf (e_f1 0 7) 33) n_14_33) n_14_33
theorem t_14_30 : e_Sn 14 30 (e_un n_14_30) := u_getfT (s_getf (C := er_0) (T := et_0) (N := 17) (ref := "Plateroomprinter") (index := 58) (ci := 0) (k := 7) hq_14 ho_14 ⟨rfl, by decide, ei_0, (List.mem_of_getElem? (i := 687) (by decide +kernel)), .inl rfl⟩ (by decide +kernel) rfl : e_Sn 14 30 (o_getf (e_f1 0 7) 33)) t_14_33
noncomputable def n_14_29 : e_Y := u_ld f_okA f_l0 n_14_30
theorem t_14_29 : e_Sn 14 29 (e_un n_14_29) := u_ldAT f_l0_eq (s_aload (i := .aload_n 0) (len := 1) hq_14 (by decide +kernel) rfl (.inr ⟨0, rfl, rfl, rfl⟩) : e_Sn 14 29 (o_load e_okR 0 30)) t_14_30
noncomputable def n_14_26 : e_Y := u_callV 0 19 5 24 5 n_19_0 n_14_29
theorem t_14_26 : e_Sn 14 26 (e_un n_14_26) := u_callVT rfl (s_callV (ci := 0) (C := er_0) (T := et_0) (N := 17) (index := 330) hq_14 ho_14 hy_19 hp_19 hc_19 hi_19 hd_19 (List.mem_of_getElem? (i := 1363) (by decide +kernel)) hs_19 (List.mem_of_getElem? (i := 55) (by decide +kernel)) rfl (by decide +kernel) rfl : e_Sn 14 26 (o_callV (e_s1 0 19 5) 5 29)) t_19_0 t_14_29
noncomputable def n_14_23 : e_Y := u_getf 0 7 (u_old (o_getf (e_f1 0 7) 26) n_14_26) n_14_26
theorem t_14_23 : e_Sn 14 23 (e_un n_14_23) := u_getfT (s_getf (C := er_0) (T := et_0) (N := 17) (ref := "Plateroomprinter") (index := 58) (ci := 0) (k := 7) hq_14 ho_14 ⟨rfl, by decide, ei_0, (List.mem_of_getElem? (i := 687) (by decide +kernel)), .inl rfl⟩ (by decide +kernel) rfl : e_Sn 14 23 (o_getf (e_f1 0 7) 26)) t_14_26
noncomputable def n_14_22 : e_Y := u_ld f_okA f_l0 n_14_23
theorem t_14_22 : e_Sn 14 22 (e_un n_14_22) := u_ldAT f_l0_eq (s_aload (i := .aload_n 0) (len := 1) hq_14 (by decide +kernel) rfl (.inr ⟨0, rfl, rfl, rfl⟩) : e_Sn 14 22 (o_load e_okR 0 23)) t_14_23
noncomputable def n_14_21 : e_Y := u_ld f_okI f_l1 n_14_22
theorem t_14_21 : e_Sn 14 21 (e_un n_14_21) := u_ldIT f_l1_eq (s_iload (i := .iload_n 1) (len := 1) hq_14 (by decide +kernel) rfl (.inr ⟨1, rfl, rfl, rfl⟩) : e_Sn 14 21 (o_load e_okI 1 22)) t_14_22
noncomputable def n_14_20 : e_Y := u_push (.inl 2147483648) n_14_21
theorem t_14_20 : e_Sn 14 20 (e_un n_14_20) := u_pushT (s_iconst (n := (0)) hq_14 (by decide +kernel) rfl ⟨by decide +kernel, by decide +kernel⟩ : e_Sn 14 20 (o_push (.inl 2147483648) 21)) t_14_21
noncomputable def n_14_19 : e_Y := u_push (.inl 2147483648) n_14_20
theorem t_14_19 : e_Sn 14 19 (e_un n_14_19) := u_pushT (s_iconst (n := (0)) hq_14 (by decide +kernel) rfl ⟨by decide +kernel, by decide +kernel⟩ : e_Sn 14 19 (o_push (.inl 2147483648) 20)) t_14_20
noncomputable def n_14_18 : e_Y := u_ld f_okA f_l0 n_14_19
theorem t_14_18 : e_Sn 14 18 (e_un n_14_18) := u_ldAT f_l0_eq (s_aload (i := .aload_n 0) (len := 1) hq_14 (by decide +kernel) rfl (.inr ⟨0, rfl, rfl, rfl⟩) : e_Sn 14 18 (o_load e_okR 0 19)) t_14_19
noncomputable def n_14_7 : e_Y := u_tab (o_throw 0)
theorem t_14_7 : e_Sn 14 7 (e_un n_14_7) := u_tabT (s_throw (ik := 94) (is := 328) (ic := 98) (X := "java/lang/IllegalArgumentException") (text := "rule is 0 or 1") hq_14 ho_14 hy_14 hc_14 rfl (by decide +kernel) e_wok0 (by simp [e_sr]) (by decide +kernel) (by decide +kernel) (.inr ⟨(by decide +kernel), (by decide +kernel), (by decide +kernel)⟩) : e_Sn 14 7 (o_throw 0))
noncomputable def n_14_4 : e_Y := u_if y_ne0 (u_old2 (o_ifeq 7 18) 7 n_14_7 n_14_18) n_14_7 n_14_18
theorem t_14_4 : e_Sn 14 4 (e_un n_14_4) := u_ifeqT rfl (s_ifne (off := (14)) hq_14 (by decide +kernel) rfl rfl : e_Sn 14 4 (o_ifeq 7 18)) t_14_7 t_14_18
noncomputable def n_14_1 : e_Y := u_callS 27 1 20 1 n_27_0 n_14_4
theorem t_14_1 : e_Sn 14 1 (e_un n_14_1) := u_callST rfl (s_callS (index := 324) hq_14 ho_14 hy_27 hp_27 hc_27 hi_27 hd_27 (List.mem_of_getElem? (i := 1291) (by decide +kernel)) hs_27 (by decide +kernel) rfl : e_Sn 14 1 (o_callS 27 1 1 4)) t_27_0 t_14_4
noncomputable def n_14_0 : e_Y := u_ld f_okI f_l1 n_14_1
theorem t_14_0 : e_Sn 14 0 (e_un n_14_0) := u_ldIT f_l1_eq (s_iload (i := .iload_n 1) (len := 1) hq_14 (by decide +kernel) rfl (.inr ⟨1, rfl, rfl, rfl⟩) : e_Sn 14 0 (o_load e_okI 1 1)) t_14_1
noncomputable def e_tb_14 : e_X := (e_lf 0 (e_un n_14_0))
theorem e_tk_14 : e_Tb 14 e_tb_14 := (e_lfT t_14_0)
theorem hq_20 : (e_ml[20]?).map (·.2.1) = some prog_1_method_23_code := rfl
theorem ho_20 : (e_ml[20]?).map (·.1.cls) = some "Plateroomprinter" := rfl
theorem hr_20 : (e_ml[20]?).map (·.2.2.2) = some (some .int) := rfl
noncomputable def n_20_84 : e_Y := u_tab (o_throw 0)
theorem t_20_84 : e_Sn 20 84 (e_un n_20_84) := u_tabT (s_throw (ik := 94) (is := 185) (ic := 98) (X := "java/lang/IllegalArgumentException") (text := "what is 0 to 2") hq_20 ho_20 hy_20 hc_20 rfl (by decide +kernel) e_wok0 (by simp [e_sr]) (by decide +kernel) (by decide +kernel) (.inl ⟨(by decide +kernel), (by decide +kernel), (by decide +kernel)⟩) : e_Sn 20 84 (o_throw 0))
noncomputable def n_20_83 : e_Y := u_retI
theorem t_20_83 : e_Sn 20 83 (e_un n_20_83) := u_retIT (s_iret hq_20 hr_20 (by decide +kernel) : e_Sn 20 83 (o_ret e_okI))
noncomputable def n_20_80 : e_Y := u_getf 7 5 (u_old (o_getf (e_f1 7 5) 83) n_20_83) n_20_83
theorem t_20_80 : e_Sn 20 80 (e_un n_20_80) := u_getfT (s_getf (C := er_7) (T := et_7) (N := 6) (ref := "Plateroomprinter$Path") (index := 259) (ci := 7) (k := 5) hq_20 ho_20 ⟨rfl, by decide, ei_7, (List.mem_of_getElem? (i := 302) (by decide +kernel)), .inl rfl⟩ (by decide +kernel) rfl : e_Sn 20 80 (o_getf (e_f1 7 5) 83)) t_20_83
noncomputable def n_20_79 : e_Y := u_ald 4 (u_old (o_aldO 4 80) n_20_80) n_20_80
theorem t_20_79 : e_Sn 20 79 (e_un n_20_79) := u_aldOT (s_aald (tc := 1) rfl hq_20 (by decide +kernel) rfl : e_Sn 20 79 (o_aldO 4 80)) t_20_80
noncomputable def n_20_78 : e_Y := u_ld f_okI f_l1 n_20_79
theorem t_20_78 : e_Sn 20 78 (e_un n_20_78) := u_ldIT f_l1_eq (s_iload (i := .iload_n 1) (len := 1) hq_20 (by decide +kernel) rfl (.inr ⟨1, rfl, rfl, rfl⟩) : e_Sn 20 78 (o_load e_okI 1 79)) t_20_79
noncomputable def n_20_75 : e_Y := u_getf 11 5 (u_old (o_getf (e_f1 11 5) 78) n_20_78) n_20_78
theorem t_20_75 : e_Sn 20 75 (e_un n_20_75) := u_getfT (s_getf (C := er_11) (T := et_11) (N := 15) (ref := "Plateroomprinter$World") (index := 315) (ci := 11) (k := 5) hq_20 ho_20 ⟨rfl, by decide, ei_11, (List.mem_of_getElem? (i := 475) (by decide +kernel)), .inl rfl⟩ (by decide +kernel) rfl : e_Sn 20 75 (o_getf (e_f1 11 5) 78)) t_20_78
noncomputable def n_20_72 : e_Y := u_getf 0 1 (u_old (o_getf (e_f1 0 1) 75) n_20_75) n_20_75
theorem t_20_72 : e_Sn 20 72 (e_un n_20_72) := u_getfT (s_getf (C := er_0) (T := et_0) (N := 17) (ref := "Plateroomprinter") (index := 19) (ci := 0) (k := 1) hq_20 ho_20 ⟨rfl, by decide, ei_0, (List.mem_of_getElem? (i := 681) (by decide +kernel)), .inl rfl⟩ (by decide +kernel) rfl : e_Sn 20 72 (o_getf (e_f1 0 1) 75)) t_20_75
noncomputable def n_20_71 : e_Y := u_ld f_okA f_l0 n_20_72
theorem t_20_71 : e_Sn 20 71 (e_un n_20_71) := u_ldAT f_l0_eq (s_aload (i := .aload_n 0) (len := 1) hq_20 (by decide +kernel) rfl (.inr ⟨0, rfl, rfl, rfl⟩) : e_Sn 20 71 (o_load e_okR 0 72)) t_20_72
noncomputable def n_20_70 : e_Y := u_retI
theorem t_20_70 : e_Sn 20 70 (e_un n_20_70) := u_retIT (s_iret hq_20 hr_20 (by decide +kernel) : e_Sn 20 70 (o_ret e_okI))
noncomputable def n_20_67 : e_Y := u_getf 7 4 (u_old (o_getf (e_f1 7 4) 70) n_20_70) n_20_70
theorem t_20_67 : e_Sn 20 67 (e_un n_20_67) := u_getfT (s_getf (C := er_7) (T := et_7) (N := 6) (ref := "Plateroomprinter$Path") (index := 254) (ci := 7) (k := 4) hq_20 ho_20 ⟨rfl, by decide, ei_7, (List.mem_of_getElem? (i := 298) (by decide +kernel)), .inl rfl⟩ (by decide +kernel) rfl : e_Sn 20 67 (o_getf (e_f1 7 4) 70)) t_20_70
noncomputable def n_20_66 : e_Y := u_ald 4 (u_old (o_aldO 4 67) n_20_67) n_20_67
theorem t_20_66 : e_Sn 20 66 (e_un n_20_66) := u_aldOT (s_aald (tc := 1) rfl hq_20 (by decide +kernel) rfl : e_Sn 20 66 (o_aldO 4 67)) t_20_67
noncomputable def n_20_65 : e_Y := u_ld f_okI f_l1 n_20_66
theorem t_20_65 : e_Sn 20 65 (e_un n_20_65) := u_ldIT f_l1_eq (s_iload (i := .iload_n 1) (len := 1) hq_20 (by decide +kernel) rfl (.inr ⟨1, rfl, rfl, rfl⟩) : e_Sn 20 65 (o_load e_okI 1 66)) t_20_66
noncomputable def n_20_62 : e_Y := u_getf 11 5 (u_old (o_getf (e_f1 11 5) 65) n_20_65) n_20_65
theorem t_20_62 : e_Sn 20 62 (e_un n_20_62) := u_getfT (s_getf (C := er_11) (T := et_11) (N := 15) (ref := "Plateroomprinter$World") (index := 315) (ci := 11) (k := 5) hq_20 ho_20 ⟨rfl, by decide, ei_11, (List.mem_of_getElem? (i := 475) (by decide +kernel)), .inl rfl⟩ (by decide +kernel) rfl : e_Sn 20 62 (o_getf (e_f1 11 5) 65)) t_20_65
noncomputable def n_20_59 : e_Y := u_getf 0 1 (u_old (o_getf (e_f1 0 1) 62) n_20_62) n_20_62
theorem t_20_59 : e_Sn 20 59 (e_un n_20_59) := u_getfT (s_getf (C := er_0) (T := et_0) (N := 17) (ref := "Plateroomprinter") (index := 19) (ci := 0) (k := 1) hq_20 ho_20 ⟨rfl, by decide, ei_0, (List.mem_of_getElem? (i := 681) (by decide +kernel)), .inl rfl⟩ (by decide +kernel) rfl : e_Sn 20 59 (o_getf (e_f1 0 1) 62)) t_20_62
noncomputable def n_20_58 : e_Y := u_ld f_okA f_l0 n_20_59
theorem t_20_58 : e_Sn 20 58 (e_un n_20_58) := u_ldAT f_l0_eq (s_aload (i := .aload_n 0) (len := 1) hq_20 (by decide +kernel) rfl (.inr ⟨0, rfl, rfl, rfl⟩) : e_Sn 20 58 (o_load e_okR 0 59)) t_20_59
noncomputable def n_20_57 : e_Y := u_retI
theorem t_20_57 : e_Sn 20 57 (e_un n_20_57) := u_retIT (s_iret hq_20 hr_20 (by decide +kernel) : e_Sn 20 57 (o_ret e_okI))
noncomputable def n_20_56 : e_Y := u_ald 0 (u_old (o_ald e_fcs 57) n_20_57) n_20_57
theorem t_20_56 : e_Sn 20 56 (e_un n_20_56) := u_aldT (s_iald hq_20 (by decide +kernel) rfl : e_Sn 20 56 (o_ald e_fcs 57)) t_20_57
noncomputable def n_20_55 : e_Y := u_ld f_okI f_l1 n_20_56
theorem t_20_55 : e_Sn 20 55 (e_un n_20_55) := u_ldIT f_l1_eq (s_iload (i := .iload_n 1) (len := 1) hq_20 (by decide +kernel) rfl (.inr ⟨1, rfl, rfl, rfl⟩) : e_Sn 20 55 (o_load e_okI 1 56)) t_20_56
noncomputable def n_20_52 : e_Y := u_getf 11 6 (u_old (o_getf (e_f1 11 6) 55) n_20_55) n_20_55
theorem t_20_52 : e_Sn 20 52 (e_un n_20_52) := u_getfT (s_getf (C := er_11) (T := et_11) (N := 15) (ref := "Plateroomprinter$World") (index := 312) (ci := 11) (k := 6) hq_20 ho_20 ⟨rfl, by decide, ei_11, (List.mem_of_getElem? (i := 478) (by decide +kernel)), .inl rfl⟩ (by decide +kernel) rfl : e_Sn 20 52 (o_getf (e_f1 11 6) 55)) t_20_55
noncomputable def n_20_49 : e_Y := u_getf 0 1 (u_old (o_getf (e_f1 0 1) 52) n_20_52) n_20_52
theorem t_20_49 : e_Sn 20 49 (e_un n_20_49) := u_getfT (s_getf (C := er_0) (T := et_0) (N := 17) (ref := "Plateroomprinter") (index := 19) (ci := 0) (k := 1) hq_20 ho_20 ⟨rfl, by decide, ei_0, (List.mem_of_getElem? (i := 681) (by decide +kernel)), .inl rfl⟩ (by decide +kernel) rfl : e_Sn 20 49 (o_getf (e_f1 0 1) 52)) t_20_52
noncomputable def n_20_48 : e_Y := u_ld f_okA f_l0 n_20_49
theorem t_20_48 : e_Sn 20 48 (e_un n_20_48) := u_ldAT f_l0_eq (s_aload (i := .aload_n 0) (len := 1) hq_20 (by decide +kernel) rfl (.inr ⟨0, rfl, rfl, rfl⟩) : e_Sn 20 48 (o_load e_okR 0 49)) t_20_49
noncomputable def n_20_21 : e_Y := u_tab (o_switch 2147483648 [48, 58, 71] 84)
theorem t_20_21 : e_Sn 20 21 (e_un n_20_21) := u_tabT (s_switch (dflt := (63)) (low := (0)) (hi := (2)) (offs := #[(27), (37), (50)]) (len := 27) hq_20 (by decide +kernel) rfl rfl rfl rfl : e_Sn 20 21 (o_switch 2147483648 [48, 58, 71] 84))
noncomputable def n_20_20 : e_Y := u_ld f_okI f_l2 n_20_21
theorem t_20_20 : e_Sn 20 20 (e_un n_20_20) := u_ldIT f_l2_eq (s_iload (i := .iload_n 2) (len := 1) hq_20 (by decide +kernel) rfl (.inr ⟨2, rfl, rfl, rfl⟩) : e_Sn 20 20 (o_load e_okI 2 21)) t_20_21
noncomputable def n_20_9 : e_Y := u_tab (o_throw 2)
theorem t_20_9 : e_Sn 20 9 (e_un n_20_9) := u_tabT (s_throw (ik := 175) (is := 310) (ic := 179) (X := "java/lang/IndexOutOfBoundsException") (text := "no such form") hq_20 ho_20 hy_20 hc_20 rfl (by decide +kernel) e_wok2 (by simp [e_sr]) (by decide +kernel) (by decide +kernel) (.inr ⟨(by decide +kernel), (by decide +kernel), (by decide +kernel)⟩) : e_Sn 20 9 (o_throw 2))
noncomputable def n_20_6 : e_Y := u_jmp y_ge (u_old2 (o_clt 20 9) 20 n_20_20 n_20_9) n_20_20 n_20_9
theorem t_20_6 : e_Sn 20 6 (e_un n_20_6) := u_cltT rfl (s_clt (off := (14)) hq_20 (by decide +kernel) rfl rfl : e_Sn 20 6 (o_clt 20 9)) t_20_20 t_20_9
noncomputable def n_20_5 : e_Y := u_push (.inl 2147483653) n_20_6
theorem t_20_5 : e_Sn 20 5 (e_un n_20_5) := u_pushT (s_iconst (n := (5)) hq_20 (by decide +kernel) rfl ⟨by decide +kernel, by decide +kernel⟩ : e_Sn 20 5 (o_push (.inl 2147483653) 6)) t_20_6
noncomputable def n_20_4 : e_Y := u_ld f_okI f_l1 n_20_5
theorem t_20_4 : e_Sn 20 4 (e_un n_20_4) := u_ldIT f_l1_eq (s_iload (i := .iload_n 1) (len := 1) hq_20 (by decide +kernel) rfl (.inr ⟨1, rfl, rfl, rfl⟩) : e_Sn 20 4 (o_load e_okI 1 5)) t_20_5
noncomputable def n_20_1 : e_Y := u_if y_ge0 (u_old2 (o_iflt 9 4) 9 n_20_9 n_20_4) n_20_9 n_20_4
theorem t_20_1 : e_Sn 20 1 (e_un n_20_1) := u_ifltT rfl (s_iflt (off := (8)) hq_20 (by decide +kernel) rfl rfl : e_Sn 20 1 (o_iflt 9 4)) t_20_9 t_20_4
noncomputable def n_20_0 : e_Y := u_ld f_okI f_l1 n_20_1
theorem t_20_0 : e_Sn 20 0 (e_un n_20_0) := u_ldIT f_l1_eq (s_iload (i := .iload_n 1) (len := 1) hq_20 (by decide +kernel) rfl (.inr ⟨1, rfl, rfl, rfl⟩) : e_Sn 20 0 (o_load e_okI 1 1)) t_20_1
noncomputable def e_tb_20 : e_X := (e_br 58 (e_br 48 (e_lf 0 (e_un n_20_0)) (e_lf 48 (e_un n_20_48))) (e_br 71 (e_lf 58 (e_un n_20_58)) (e_br 84 (e_lf 71 (e_un n_20_71)) (e_lf 84 (e_un n_20_84)))))
theorem e_tk_20 : e_Tb 20 e_tb_20 := (e_brT (e_brT (e_lfT t_20_0) (e_lfT t_20_48)) (e_brT (e_lfT t_20_58) (e_brT (e_lfT t_20_71) (e_lfT t_20_84))))
theorem hq_86 : (e_ml[86]?).map (·.2.1) = some prog_9_method_3_code := rfl
theorem ho_86 : (e_ml[86]?).map (·.1.cls) = some "Plateroomprinter$Raster" := rfl
theorem hr_86 : (e_ml[86]?).map (·.2.2.2) = some none := rfl
noncomputable def n_86_227 : e_Y := u_tab (o_retv)
theorem t_86_227 : e_Sn 86 227 (e_un n_86_227) := u_tabT (s_vret hq_86 hr_86 (by decide +kernel) : e_Sn 86 227 (o_retv))
noncomputable def n_86_224 : e_Y := u_old (o_putf (e_f1 8 2) e_okI 227) n_86_227
theorem t_86_224 : e_Sn 86 224 (e_un n_86_224) := u_oldT (s_putf (ty0 := ey_8) (ok := e_okI) (C := er_8) (T := et_8) (N := 3) (ref := "Plateroomprinter$Raster") (index := 19) (ci := 8) (k := 2) hq_86 ho_86 ⟨rfl, by decide, ei_8, (List.mem_of_getElem? (i := 542) (by decide +kernel)), .inl rfl⟩ eo_8 en_8 e_oksI (.inl rfl) (by decide +kernel) rfl : e_Sn 86 224 (o_putf (e_f1 8 2) e_okI 227)) t_86_227 (e_cg_putf (e_f1 8 2) e_okI)
noncomputable def n_86_221 : e_Y := u_getf 8 2 (u_old (o_getf (e_f1 8 2) 224) n_86_224) n_86_224
theorem t_86_221 : e_Sn 86 221 (e_un n_86_221) := u_getfT (s_getf (C := er_8) (T := et_8) (N := 3) (ref := "Plateroomprinter$Raster") (index := 19) (ci := 8) (k := 2) hq_86 ho_86 ⟨rfl, by decide, ei_8, (List.mem_of_getElem? (i := 542) (by decide +kernel)), .inl rfl⟩ (by decide +kernel) rfl : e_Sn 86 221 (o_getf (e_f1 8 2) 224)) t_86_224
noncomputable def n_86_220 : e_Y := u_ld f_okA f_l0 n_86_221
theorem t_86_220 : e_Sn 86 220 (e_un n_86_220) := u_ldAT f_l0_eq (s_aload (i := .aload_n 0) (len := 1) hq_86 (by decide +kernel) rfl (.inr ⟨0, rfl, rfl, rfl⟩) : e_Sn 86 220 (o_load e_okR 0 221)) t_86_221
noncomputable def n_86_217 : e_Y := n_86_224
theorem t_86_217 : e_Sn 86 217 (e_un n_86_217) := u_gotoT (s_goto (off := (7)) hq_86 (by decide +kernel) rfl : e_Sn 86 217 (o_goto 224)) t_86_224
noncomputable def n_86_215 : e_Y := u_ld f_okI f_l11 n_86_217
theorem t_86_215 : e_Sn 86 215 (e_un n_86_215) := u_ldIT f_l11_eq (s_iload (i := .iload 11) (len := 2) hq_86 (by decide +kernel) rfl (.inl ⟨rfl, rfl⟩) : e_Sn 86 215 (o_load e_okI 11 217)) t_86_217
noncomputable def n_86_212 : e_Y := u_jmp y_le (u_old2 (o_cgt 215 220) 215 n_86_215 n_86_220) n_86_215 n_86_220
theorem t_86_212 : e_Sn 86 212 (e_un n_86_212) := u_cgtT rfl (s_cle (off := (8)) hq_86 (by decide +kernel) rfl rfl : e_Sn 86 212 (o_cgt 215 220)) t_86_215 t_86_220
noncomputable def n_86_209 : e_Y := u_getf 8 2 (u_old (o_getf (e_f1 8 2) 212) n_86_212) n_86_212
theorem t_86_209 : e_Sn 86 209 (e_un n_86_209) := u_getfT (s_getf (C := er_8) (T := et_8) (N := 3) (ref := "Plateroomprinter$Raster") (index := 19) (ci := 8) (k := 2) hq_86 ho_86 ⟨rfl, by decide, ei_8, (List.mem_of_getElem? (i := 542) (by decide +kernel)), .inl rfl⟩ (by decide +kernel) rfl : e_Sn 86 209 (o_getf (e_f1 8 2) 212)) t_86_212
noncomputable def n_86_208 : e_Y := u_ld f_okA f_l0 n_86_209
theorem t_86_208 : e_Sn 86 208 (e_un n_86_208) := u_ldAT f_l0_eq (s_aload (i := .aload_n 0) (len := 1) hq_86 (by decide +kernel) rfl (.inr ⟨0, rfl, rfl, rfl⟩) : e_Sn 86 208 (o_load e_okR 0 209)) t_86_209
noncomputable def n_86_206 : e_Y := u_ld f_okI f_l11 n_86_208
theorem t_86_206 : e_Sn 86 206 (e_un n_86_206) := u_ldIT f_l11_eq (s_iload (i := .iload 11) (len := 2) hq_86 (by decide +kernel) rfl (.inl ⟨rfl, rfl⟩) : e_Sn 86 206 (o_load e_okI 11 208)) t_86_208
noncomputable def n_86_205 : e_Y := u_ld f_okA f_l0 n_86_206
theorem t_86_205 : e_Sn 86 205 (e_un n_86_205) := u_ldAT f_l0_eq (s_aload (i := .aload_n 0) (len := 1) hq_86 (by decide +kernel) rfl (.inr ⟨0, rfl, rfl, rfl⟩) : e_Sn 86 205 (o_load e_okR 0 206)) t_86_206
noncomputable def n_86_202 : e_Y := u_old (o_putf (e_f1 8 1) e_okI 205) n_86_205
theorem t_86_202 : e_Sn 86 202 (e_un n_86_202) := u_oldT (s_putf (ty0 := ey_8) (ok := e_okI) (C := er_8) (T := et_8) (N := 3) (ref := "Plateroomprinter$Raster") (index := 15) (ci := 8) (k := 1) hq_86 ho_86 ⟨rfl, by decide, ei_8, (List.mem_of_getElem? (i := 541) (by decide +kernel)), .inl rfl⟩ eo_8 en_8 e_oksI (.inl rfl) (by decide +kernel) rfl : e_Sn 86 202 (o_putf (e_f1 8 1) e_okI 205)) t_86_205 (e_cg_putf (e_f1 8 1) e_okI)
noncomputable def n_86_199 : e_Y := u_getf 8 1 (u_old (o_getf (e_f1 8 1) 202) n_86_202) n_86_202
theorem t_86_199 : e_Sn 86 199 (e_un n_86_199) := u_getfT (s_getf (C := er_8) (T := et_8) (N := 3) (ref := "Plateroomprinter$Raster") (index := 15) (ci := 8) (k := 1) hq_86 ho_86 ⟨rfl, by decide, ei_8, (List.mem_of_getElem? (i := 541) (by decide +kernel)), .inl rfl⟩ (by decide +kernel) rfl : e_Sn 86 199 (o_getf (e_f1 8 1) 202)) t_86_202
noncomputable def n_86_198 : e_Y := u_ld f_okA f_l0 n_86_199
theorem t_86_198 : e_Sn 86 198 (e_un n_86_198) := u_ldAT f_l0_eq (s_aload (i := .aload_n 0) (len := 1) hq_86 (by decide +kernel) rfl (.inr ⟨0, rfl, rfl, rfl⟩) : e_Sn 86 198 (o_load e_okR 0 199)) t_86_199
noncomputable def n_86_195 : e_Y := n_86_202
theorem t_86_195 : e_Sn 86 195 (e_un n_86_195) := u_gotoT (s_goto (off := (7)) hq_86 (by decide +kernel) rfl : e_Sn 86 195 (o_goto 202)) t_86_202
noncomputable def n_86_193 : e_Y := u_ld f_okI f_l10 n_86_195
theorem t_86_193 : e_Sn 86 193 (e_un n_86_193) := u_ldIT f_l10_eq (s_iload (i := .iload 10) (len := 2) hq_86 (by decide +kernel) rfl (.inl ⟨rfl, rfl⟩) : e_Sn 86 193 (o_load e_okI 10 195)) t_86_195
noncomputable def n_86_190 : e_Y := u_jmp y_ge (u_old2 (o_clt 193 198) 193 n_86_193 n_86_198) n_86_193 n_86_198
theorem t_86_190 : e_Sn 86 190 (e_un n_86_190) := u_cltT rfl (s_cge (off := (8)) hq_86 (by decide +kernel) rfl rfl : e_Sn 86 190 (o_clt 193 198)) t_86_193 t_86_198
noncomputable def n_86_187 : e_Y := u_getf 8 1 (u_old (o_getf (e_f1 8 1) 190) n_86_190) n_86_190
theorem t_86_187 : e_Sn 86 187 (e_un n_86_187) := u_getfT (s_getf (C := er_8) (T := et_8) (N := 3) (ref := "Plateroomprinter$Raster") (index := 15) (ci := 8) (k := 1) hq_86 ho_86 ⟨rfl, by decide, ei_8, (List.mem_of_getElem? (i := 541) (by decide +kernel)), .inl rfl⟩ (by decide +kernel) rfl : e_Sn 86 187 (o_getf (e_f1 8 1) 190)) t_86_190
noncomputable def n_86_186 : e_Y := u_ld f_okA f_l0 n_86_187
theorem t_86_186 : e_Sn 86 186 (e_un n_86_186) := u_ldAT f_l0_eq (s_aload (i := .aload_n 0) (len := 1) hq_86 (by decide +kernel) rfl (.inr ⟨0, rfl, rfl, rfl⟩) : e_Sn 86 186 (o_load e_okR 0 187)) t_86_187
noncomputable def n_86_184 : e_Y := u_ld f_okI f_l10 n_86_186
theorem t_86_184 : e_Sn 86 184 (e_un n_86_184) := u_ldIT f_l10_eq (s_iload (i := .iload 10) (len := 2) hq_86 (by decide +kernel) rfl (.inl ⟨rfl, rfl⟩) : e_Sn 86 184 (o_load e_okI 10 186)) t_86_186
noncomputable def n_86_183 : e_Y := u_ld f_okA f_l0 n_86_184
theorem t_86_183 : e_Sn 86 183 (e_un n_86_183) := u_ldAT f_l0_eq (s_aload (i := .aload_n 0) (len := 1) hq_86 (by decide +kernel) rfl (.inr ⟨0, rfl, rfl, rfl⟩) : e_Sn 86 183 (o_load e_okR 0 184)) t_86_184
noncomputable def n_86_180 : e_Y := (u_at 75)
theorem t_86_180 : e_Sn 86 180 (e_un n_86_180) := u_gotoT (s_goto (off := (-105)) hq_86 (by decide +kernel) rfl : e_Sn 86 180 (o_goto 75)) u_atT
noncomputable def n_86_177 : e_Y := u_inc f_l12 f_s12 1 n_86_180
theorem t_86_177 : e_Sn 86 177 (e_un n_86_177) := u_incT f_l12_eq (fun _ _ _ => f_s12_eq) (s_iinc (zz := (1)) hq_86 (by decide +kernel) rfl (by decide +kernel) ⟨by decide, by decide⟩ : e_Sn 86 177 (o_iinc 12 1 180)) t_86_180
noncomputable def n_86_176 : e_Y := u_old (o_ast 0 e_okI 177) n_86_177
theorem t_86_176 : e_Sn 86 176 (e_un n_86_176) := u_oldT (s_iast hq_86 (by decide +kernel) rfl : e_Sn 86 176 (o_ast 0 e_okI 177)) t_86_177 (e_cg_ast 0 e_okI)
noncomputable def n_86_175 : e_Y := u_bin a_iadd (u_old (o_iadd 176) n_86_176) n_86_176
theorem t_86_175 : e_Sn 86 175 (e_un n_86_175) := u_iaddT (s_iadd hq_86 (by decide +kernel) rfl : e_Sn 86 175 (o_iadd 176)) t_86_176
noncomputable def n_86_173 : e_Y := u_ld f_okI f_l5 n_86_175
theorem t_86_173 : e_Sn 86 173 (e_un n_86_173) := u_ldIT f_l5_eq (s_iload (i := .iload 5) (len := 2) hq_86 (by decide +kernel) rfl (.inl ⟨rfl, rfl⟩) : e_Sn 86 173 (o_load e_okI 5 175)) t_86_175
noncomputable def n_86_172 : e_Y := u_ald 0 (u_old (o_ald e_fcs 173) n_86_173) n_86_173
theorem t_86_172 : e_Sn 86 172 (e_un n_86_172) := u_aldT (s_iald hq_86 (by decide +kernel) rfl : e_Sn 86 172 (o_ald e_fcs 173)) t_86_173
noncomputable def n_86_171 : e_Y := u_old (o_dup2 172) n_86_172
theorem t_86_171 : e_Sn 86 171 (e_un n_86_171) := u_oldT (s_dup2 hq_86 (by decide +kernel) rfl : e_Sn 86 171 (o_dup2 172)) t_86_172 e_cg_dup2
noncomputable def n_86_170 : e_Y := u_bin a_iadd (u_old (o_iadd 171) n_86_171) n_86_171
theorem t_86_170 : e_Sn 86 170 (e_un n_86_170) := u_iaddT (s_iadd hq_86 (by decide +kernel) rfl : e_Sn 86 170 (o_iadd 171)) t_86_171
noncomputable def n_86_169 : e_Y := u_old (o_l2i 170) n_86_170
theorem t_86_169 : e_Sn 86 169 (e_un n_86_169) := u_oldT (s_l2i hq_86 (by decide +kernel) rfl : e_Sn 86 169 (o_l2i 170)) t_86_170 e_cg_l2i
noncomputable def n_86_167 : e_Y := u_old (o_load e_okL 15 169) n_86_169
theorem t_86_167 : e_Sn 86 167 (e_un n_86_167) := u_oldT (s_lload (i := .lload 15) (len := 2) hq_86 (by decide +kernel) rfl (.inl ⟨rfl, rfl⟩) : e_Sn 86 167 (o_load e_okL 15 169)) t_86_169 e_congr_load
noncomputable def n_86_166 : e_Y := u_bin a_imul (u_old (o_imul 167) n_86_167) n_86_167
theorem t_86_166 : e_Sn 86 166 (e_un n_86_166) := u_imulT (s_imul hq_86 (by decide +kernel) rfl : e_Sn 86 166 (o_imul 167)) t_86_167
noncomputable def n_86_164 : e_Y := u_push (.inl 2147483680) n_86_166
theorem t_86_164 : e_Sn 86 164 (e_un n_86_164) := u_pushT (s_bipush (n := (32)) hq_86 (by decide +kernel) rfl ⟨by decide +kernel, by decide +kernel⟩ : e_Sn 86 164 (o_push (.inl 2147483680) 166)) t_86_166
noncomputable def n_86_162 : e_Y := u_ld f_okI f_l12 n_86_164
theorem t_86_162 : e_Sn 86 162 (e_un n_86_162) := u_ldIT f_l12_eq (s_iload (i := .iload 12) (len := 2) hq_86 (by decide +kernel) rfl (.inl ⟨rfl, rfl⟩) : e_Sn 86 162 (o_load e_okI 12 164)) t_86_164
noncomputable def n_86_159 : e_Y := u_getf 8 0 (u_old (o_getf (e_f1 8 0) 162) n_86_162) n_86_162
theorem t_86_159 : e_Sn 86 159 (e_un n_86_159) := u_getfT (s_getf (C := er_8) (T := et_8) (N := 3) (ref := "Plateroomprinter$Raster") (index := 9) (ci := 8) (k := 0) hq_86 ho_86 ⟨rfl, by decide, ei_8, (List.mem_of_getElem? (i := 540) (by decide +kernel)), .inl rfl⟩ (by decide +kernel) rfl : e_Sn 86 159 (o_getf (e_f1 8 0) 162)) t_86_162
noncomputable def n_86_158 : e_Y := u_ld f_okA f_l0 n_86_159
theorem t_86_158 : e_Sn 86 158 (e_un n_86_158) := u_ldAT f_l0_eq (s_aload (i := .aload_n 0) (len := 1) hq_86 (by decide +kernel) rfl (.inr ⟨0, rfl, rfl, rfl⟩) : e_Sn 86 158 (o_load e_okR 0 159)) t_86_159
noncomputable def n_86_155 : e_Y := u_if y_ge0 (u_old2 (o_iflt 158 177) 158 n_86_158 n_86_177) n_86_158 n_86_177
theorem t_86_155 : e_Sn 86 155 (e_un n_86_155) := u_ifltT rfl (s_ifge (off := (22)) hq_86 (by decide +kernel) rfl rfl : e_Sn 86 155 (o_iflt 158 177)) t_86_158 t_86_177
noncomputable def n_86_154 : e_Y := u_old (o_lcmp 155) n_86_155
theorem t_86_154 : e_Sn 86 154 (e_un n_86_154) := u_oldT (s_lcmp hq_86 (by decide +kernel) rfl : e_Sn 86 154 (o_lcmp 155)) t_86_155 e_cg_lcmp
noncomputable def n_86_151 : e_Y := u_push (e_L 9223372036854775840) n_86_154
theorem t_86_151 : e_Sn 86 151 (e_un n_86_151) := u_pushT (s_ldc2 (index := 30) (v := (32)) hq_86 ho_86 (List.mem_of_getElem? (i := 1051) (by decide +kernel)) (by decide +kernel) rfl ⟨by decide +kernel, by decide +kernel⟩ : e_Sn 86 151 (o_push (e_L 9223372036854775840) 154)) t_86_154
noncomputable def n_86_149 : e_Y := u_old (o_load e_okL 15 151) n_86_151
theorem t_86_149 : e_Sn 86 149 (e_un n_86_149) := u_oldT (s_lload (i := .lload 15) (len := 2) hq_86 (by decide +kernel) rfl (.inl ⟨rfl, rfl⟩) : e_Sn 86 149 (o_load e_okL 15 151)) t_86_151 e_congr_load
noncomputable def n_86_147 : e_Y := u_old (o_storeL 15 149) n_86_149
theorem t_86_147 : e_Sn 86 147 (e_un n_86_147) := u_oldT (s_lstore (i := .lstore 15) (len := 2) hq_86 (by decide +kernel) rfl (.inl ⟨rfl, rfl⟩) : e_Sn 86 147 (o_storeL 15 149)) t_86_149 (e_cg_storeL 15)
noncomputable def n_86_146 : e_Y := u_old (o_ldiv 147) n_86_147
theorem t_86_146 : e_Sn 86 146 (e_un n_86_146) := u_oldT (s_ldiv hq_86 (by decide +kernel) rfl : e_Sn 86 146 (o_ldiv 147)) t_86_147 e_cg_ldiv
noncomputable def n_86_145 : e_Y := u_old (o_lmul 146) n_86_146
theorem t_86_145 : e_Sn 86 145 (e_un n_86_145) := u_oldT (s_lmul hq_86 (by decide +kernel) rfl : e_Sn 86 145 (o_lmul 146)) t_86_146 e_cg_lmul
noncomputable def n_86_143 : e_Y := u_old (o_load e_okL 6 145) n_86_145
theorem t_86_143 : e_Sn 86 143 (e_un n_86_143) := u_oldT (s_lload (i := .lload 6) (len := 2) hq_86 (by decide +kernel) rfl (.inl ⟨rfl, rfl⟩) : e_Sn 86 143 (o_load e_okL 6 145)) t_86_145 e_congr_load
noncomputable def n_86_140 : e_Y := u_push (e_L 9223372036854775824) n_86_143
theorem t_86_140 : e_Sn 86 140 (e_un n_86_140) := u_pushT (s_ldc2 (index := 26) (v := (16)) hq_86 ho_86 (List.mem_of_getElem? (i := 1049) (by decide +kernel)) (by decide +kernel) rfl ⟨by decide +kernel, by decide +kernel⟩ : e_Sn 86 140 (o_push (e_L 9223372036854775824) 143)) t_86_143
noncomputable def n_86_139 : e_Y := u_old (o_lsub 140) n_86_140
theorem t_86_139 : e_Sn 86 139 (e_un n_86_139) := u_oldT (s_lsub hq_86 (by decide +kernel) rfl : e_Sn 86 139 (o_lsub 140)) t_86_140 e_cg_lsub
noncomputable def n_86_138 : e_Y := u_push (e_L 9223372036854775809) n_86_139
theorem t_86_138 : e_Sn 86 138 (e_un n_86_138) := u_pushT (s_lconst (n := 1) hq_86 (by decide +kernel) rfl ⟨by decide +kernel, by decide +kernel⟩ : e_Sn 86 138 (o_push (e_L 9223372036854775809) 139)) t_86_139
noncomputable def n_86_137 : e_Y := u_old (o_ladd 138) n_86_138
theorem t_86_137 : e_Sn 86 137 (e_un n_86_137) := u_oldT (s_ladd hq_86 (by decide +kernel) rfl : e_Sn 86 137 (o_ladd 138)) t_86_138 e_cg_ladd
noncomputable def n_86_136 : e_Y := u_old (o_lmul 137) n_86_137
theorem t_86_136 : e_Sn 86 136 (e_un n_86_136) := u_oldT (s_lmul hq_86 (by decide +kernel) rfl : e_Sn 86 136 (o_lmul 137)) t_86_137 e_cg_lmul
noncomputable def n_86_134 : e_Y := u_old (o_load e_okL 6 136) n_86_136
theorem t_86_134 : e_Sn 86 134 (e_un n_86_134) := u_oldT (s_lload (i := .lload 6) (len := 2) hq_86 (by decide +kernel) rfl (.inl ⟨rfl, rfl⟩) : e_Sn 86 134 (o_load e_okL 6 136)) t_86_136 e_congr_load
noncomputable def n_86_131 : e_Y := u_push (e_L 9223372036854775824) n_86_134
theorem t_86_131 : e_Sn 86 131 (e_un n_86_131) := u_pushT (s_ldc2 (index := 26) (v := (16)) hq_86 ho_86 (List.mem_of_getElem? (i := 1049) (by decide +kernel)) (by decide +kernel) rfl ⟨by decide +kernel, by decide +kernel⟩ : e_Sn 86 131 (o_push (e_L 9223372036854775824) 134)) t_86_134
noncomputable def n_86_129 : e_Y := u_old (o_load e_okL 13 131) n_86_131
theorem t_86_129 : e_Sn 86 129 (e_un n_86_129) := u_oldT (s_lload (i := .lload 13) (len := 2) hq_86 (by decide +kernel) rfl (.inl ⟨rfl, rfl⟩) : e_Sn 86 129 (o_load e_okL 13 131)) t_86_131 e_congr_load
noncomputable def n_86_126 : e_Y := n_86_147
theorem t_86_126 : e_Sn 86 126 (e_un n_86_126) := u_gotoT (s_goto (off := (21)) hq_86 (by decide +kernel) rfl : e_Sn 86 126 (o_goto 147)) t_86_147
noncomputable def n_86_125 : e_Y := u_push (e_L 9223372036854775808) n_86_126
theorem t_86_125 : e_Sn 86 125 (e_un n_86_125) := u_pushT (s_lconst (n := 0) hq_86 (by decide +kernel) rfl ⟨by decide +kernel, by decide +kernel⟩ : e_Sn 86 125 (o_push (e_L 9223372036854775808) 126)) t_86_126
noncomputable def n_86_122 : e_Y := u_if y_le0 (u_old2 (o_ifgt 129 125) 129 n_86_129 n_86_125) n_86_129 n_86_125
theorem t_86_122 : e_Sn 86 122 (e_un n_86_122) := u_ifgtT rfl (s_ifgt (off := (7)) hq_86 (by decide +kernel) rfl rfl : e_Sn 86 122 (o_ifgt 129 125)) t_86_129 t_86_125
noncomputable def n_86_121 : e_Y := u_old (o_lcmp 122) n_86_122
theorem t_86_121 : e_Sn 86 121 (e_un n_86_121) := u_oldT (s_lcmp hq_86 (by decide +kernel) rfl : e_Sn 86 121 (o_lcmp 122)) t_86_122 e_cg_lcmp
noncomputable def n_86_120 : e_Y := u_push (e_L 9223372036854775808) n_86_121
theorem t_86_120 : e_Sn 86 120 (e_un n_86_120) := u_pushT (s_lconst (n := 0) hq_86 (by decide +kernel) rfl ⟨by decide +kernel, by decide +kernel⟩ : e_Sn 86 120 (o_push (e_L 9223372036854775808) 121)) t_86_121
noncomputable def n_86_118 : e_Y := u_old (o_load e_okL 13 120) n_86_120
theorem t_86_118 : e_Sn 86 118 (e_un n_86_118) := u_oldT (s_lload (i := .lload 13) (len := 2) hq_86 (by decide +kernel) rfl (.inl ⟨rfl, rfl⟩) : e_Sn 86 118 (o_load e_okL 13 120)) t_86_120 e_congr_load
noncomputable def n_86_116 : e_Y := u_old (o_storeL 13 118) n_86_118
theorem t_86_116 : e_Sn 86 116 (e_un n_86_116) := u_oldT (s_lstore (i := .lstore 13) (len := 2) hq_86 (by decide +kernel) rfl (.inl ⟨rfl, rfl⟩) : e_Sn 86 116 (o_storeL 13 118)) t_86_118 (e_cg_storeL 13)
noncomputable def n_86_115 : e_Y := u_old (o_ladd 116) n_86_116
theorem t_86_115 : e_Sn 86 115 (e_un n_86_115) := u_oldT (s_ladd hq_86 (by decide +kernel) rfl : e_Sn 86 115 (o_ladd 116)) t_86_116 e_cg_ladd
noncomputable def n_86_114 : e_Y := u_old (o_lmul 115) n_86_115
theorem t_86_114 : e_Sn 86 114 (e_un n_86_114) := u_oldT (s_lmul hq_86 (by decide +kernel) rfl : e_Sn 86 114 (o_lmul 115)) t_86_115 e_cg_lmul
noncomputable def n_86_112 : e_Y := u_old (o_load e_okL 6 114) n_86_114
theorem t_86_112 : e_Sn 86 112 (e_un n_86_112) := u_oldT (s_lload (i := .lload 6) (len := 2) hq_86 (by decide +kernel) rfl (.inl ⟨rfl, rfl⟩) : e_Sn 86 112 (o_load e_okL 6 114)) t_86_114 e_congr_load
noncomputable def n_86_111 : e_Y := u_old (o_lsub 112) n_86_112
theorem t_86_111 : e_Sn 86 111 (e_un n_86_111) := u_oldT (s_lsub hq_86 (by decide +kernel) rfl : e_Sn 86 111 (o_lsub 112)) t_86_112 e_cg_lsub
noncomputable def n_86_108 : e_Y := u_push (e_L 9223372036854775816) n_86_111
theorem t_86_108 : e_Sn 86 108 (e_un n_86_108) := u_pushT (s_ldc2 (index := 28) (v := (8)) hq_86 ho_86 (List.mem_of_getElem? (i := 1050) (by decide +kernel)) (by decide +kernel) rfl ⟨by decide +kernel, by decide +kernel⟩ : e_Sn 86 108 (o_push (e_L 9223372036854775816) 111)) t_86_111
noncomputable def n_86_107 : e_Y := u_old (o_i2l 108) n_86_108
theorem t_86_107 : e_Sn 86 107 (e_un n_86_107) := u_oldT (s_i2l hq_86 (by decide +kernel) rfl : e_Sn 86 107 (o_i2l 108)) t_86_108 e_congr_i2l
noncomputable def n_86_106 : e_Y := u_ld f_okI f_l1 n_86_107
theorem t_86_106 : e_Sn 86 106 (e_un n_86_106) := u_ldIT f_l1_eq (s_iload (i := .iload_n 1) (len := 1) hq_86 (by decide +kernel) rfl (.inr ⟨1, rfl, rfl, rfl⟩) : e_Sn 86 106 (o_load e_okI 1 107)) t_86_107
noncomputable def n_86_105 : e_Y := u_old (o_lmul 106) n_86_106
theorem t_86_105 : e_Sn 86 105 (e_un n_86_105) := u_oldT (s_lmul hq_86 (by decide +kernel) rfl : e_Sn 86 105 (o_lmul 106)) t_86_106 e_cg_lmul
noncomputable def n_86_103 : e_Y := u_old (o_load e_okL 8 105) n_86_105
theorem t_86_103 : e_Sn 86 103 (e_un n_86_103) := u_oldT (s_lload (i := .lload 8) (len := 2) hq_86 (by decide +kernel) rfl (.inl ⟨rfl, rfl⟩) : e_Sn 86 103 (o_load e_okL 8 105)) t_86_105 e_congr_load
noncomputable def n_86_102 : e_Y := u_old (o_lsub 103) n_86_103
theorem t_86_102 : e_Sn 86 102 (e_un n_86_102) := u_oldT (s_lsub hq_86 (by decide +kernel) rfl : e_Sn 86 102 (o_lsub 103)) t_86_103 e_cg_lsub
noncomputable def n_86_101 : e_Y := u_old (o_i2l 102) n_86_102
theorem t_86_101 : e_Sn 86 101 (e_un n_86_101) := u_oldT (s_i2l hq_86 (by decide +kernel) rfl : e_Sn 86 101 (o_i2l 102)) t_86_102 e_congr_i2l
noncomputable def n_86_100 : e_Y := u_ld f_okI f_l2 n_86_101
theorem t_86_100 : e_Sn 86 100 (e_un n_86_100) := u_ldIT f_l2_eq (s_iload (i := .iload_n 2) (len := 1) hq_86 (by decide +kernel) rfl (.inr ⟨2, rfl, rfl, rfl⟩) : e_Sn 86 100 (o_load e_okI 2 101)) t_86_101
noncomputable def n_86_99 : e_Y := u_old (o_ladd 100) n_86_100
theorem t_86_99 : e_Sn 86 99 (e_un n_86_99) := u_oldT (s_ladd hq_86 (by decide +kernel) rfl : e_Sn 86 99 (o_ladd 100)) t_86_100 e_cg_ladd
noncomputable def n_86_96 : e_Y := u_push (e_L 9223372036854775816) n_86_99
theorem t_86_96 : e_Sn 86 96 (e_un n_86_96) := u_pushT (s_ldc2 (index := 28) (v := (8)) hq_86 ho_86 (List.mem_of_getElem? (i := 1050) (by decide +kernel)) (by decide +kernel) rfl ⟨by decide +kernel, by decide +kernel⟩ : e_Sn 86 96 (o_push (e_L 9223372036854775816) 99)) t_86_99
noncomputable def n_86_95 : e_Y := u_old (o_lmul 96) n_86_96
theorem t_86_95 : e_Sn 86 95 (e_un n_86_95) := u_oldT (s_lmul hq_86 (by decide +kernel) rfl : e_Sn 86 95 (o_lmul 96)) t_86_96 e_cg_lmul
noncomputable def n_86_94 : e_Y := u_old (o_i2l 95) n_86_95
theorem t_86_94 : e_Sn 86 94 (e_un n_86_94) := u_oldT (s_i2l hq_86 (by decide +kernel) rfl : e_Sn 86 94 (o_i2l 95)) t_86_95 e_congr_i2l
noncomputable def n_86_92 : e_Y := u_ld f_okI f_l12 n_86_94
theorem t_86_92 : e_Sn 86 92 (e_un n_86_92) := u_ldIT f_l12_eq (s_iload (i := .iload 12) (len := 2) hq_86 (by decide +kernel) rfl (.inl ⟨rfl, rfl⟩) : e_Sn 86 92 (o_load e_okI 12 94)) t_86_94
noncomputable def n_86_89 : e_Y := u_push (e_L 9223372036854775824) n_86_92
theorem t_86_89 : e_Sn 86 89 (e_un n_86_89) := u_pushT (s_ldc2 (index := 26) (v := (16)) hq_86 ho_86 (List.mem_of_getElem? (i := 1049) (by decide +kernel)) (by decide +kernel) rfl ⟨by decide +kernel, by decide +kernel⟩ : e_Sn 86 89 (o_push (e_L 9223372036854775824) 92)) t_86_92
noncomputable def n_86_86 : e_Y := u_jmp y_ge (u_old2 (o_clt 89 183) 89 n_86_89 n_86_183) n_86_89 n_86_183
theorem t_86_86 : e_Sn 86 86 (e_un n_86_86) := u_cltT rfl (s_cge (off := (97)) hq_86 (by decide +kernel) rfl rfl : e_Sn 86 86 (o_clt 89 183)) t_86_89 t_86_183
noncomputable def n_86_84 : e_Y := u_push (.inl 2147483680) n_86_86
theorem t_86_84 : e_Sn 86 84 (e_un n_86_84) := u_pushT (s_bipush (n := (32)) hq_86 (by decide +kernel) rfl ⟨by decide +kernel, by decide +kernel⟩ : e_Sn 86 84 (o_push (.inl 2147483680) 86)) t_86_86
noncomputable def n_86_82 : e_Y := u_ld f_okI f_l12 n_86_84
theorem t_86_82 : e_Sn 86 82 (e_un n_86_82) := u_ldIT f_l12_eq (s_iload (i := .iload 12) (len := 2) hq_86 (by decide +kernel) rfl (.inl ⟨rfl, rfl⟩) : e_Sn 86 82 (o_load e_okI 12 84)) t_86_84
noncomputable def n_86_79 : e_Y := u_jmp y_le (u_old2 (o_cgt 183 82) 183 n_86_183 n_86_82) n_86_183 n_86_82
theorem t_86_79 : e_Sn 86 79 (e_un n_86_79) := u_cgtT rfl (s_cgt (off := (104)) hq_86 (by decide +kernel) rfl rfl : e_Sn 86 79 (o_cgt 183 82)) t_86_183 t_86_82
noncomputable def n_86_77 : e_Y := u_ld f_okI f_l11 n_86_79
theorem t_86_77 : e_Sn 86 77 (e_un n_86_77) := u_ldIT f_l11_eq (s_iload (i := .iload 11) (len := 2) hq_86 (by decide +kernel) rfl (.inl ⟨rfl, rfl⟩) : e_Sn 86 77 (o_load e_okI 11 79)) t_86_79
noncomputable def n_86_75 : e_Y := u_ld f_okI f_l12 n_86_77
theorem t_86_75 : e_Sn 86 75 (e_un n_86_75) := u_ldIT f_l12_eq (s_iload (i := .iload 12) (len := 2) hq_86 (by decide +kernel) rfl (.inl ⟨rfl, rfl⟩) : e_Sn 86 75 (o_load e_okI 12 77)) t_86_77
noncomputable def n_86_73 : e_Y := u_st f_okI f_s12 n_86_75
theorem t_86_73 : e_Sn 86 73 (e_un n_86_73) := u_stIT (fun _ _ _ => f_s12_eq) (s_istore (i := .istore 12) (len := 2) hq_86 (by decide +kernel) rfl (.inl ⟨rfl, rfl⟩) : e_Sn 86 73 (o_store e_okI 12 75)) t_86_75
noncomputable def n_86_71 : e_Y := u_ld f_okI f_l10 n_86_73
theorem t_86_71 : e_Sn 86 71 (e_un n_86_71) := u_ldIT f_l10_eq (s_iload (i := .iload 10) (len := 2) hq_86 (by decide +kernel) rfl (.inl ⟨rfl, rfl⟩) : e_Sn 86 71 (o_load e_okI 10 73)) t_86_73
noncomputable def n_86_67 : e_Y := u_jmp y_le (u_old2 (o_cgt 70 71) 70 (u_at 70) n_86_71) (u_at 70) n_86_71
theorem t_86_67 : e_Sn 86 67 (e_un n_86_67) := u_cgtT rfl (s_cle (off := (4)) hq_86 (by decide +kernel) rfl rfl : e_Sn 86 67 (o_cgt 70 71)) u_atT t_86_71
noncomputable def n_86_65 : e_Y := u_ld f_okI f_l11 n_86_67
theorem t_86_65 : e_Sn 86 65 (e_un n_86_65) := u_ldIT f_l11_eq (s_iload (i := .iload 11) (len := 2) hq_86 (by decide +kernel) rfl (.inl ⟨rfl, rfl⟩) : e_Sn 86 65 (o_load e_okI 11 67)) t_86_67
noncomputable def n_86_63 : e_Y := u_ld f_okI f_l10 n_86_65
theorem t_86_63 : e_Sn 86 63 (e_un n_86_63) := u_ldIT f_l10_eq (s_iload (i := .iload 10) (len := 2) hq_86 (by decide +kernel) rfl (.inl ⟨rfl, rfl⟩) : e_Sn 86 63 (o_load e_okI 10 65)) t_86_65
noncomputable def n_86_61 : e_Y := u_st f_okI f_s11 n_86_63
theorem t_86_61 : e_Sn 86 61 (e_un n_86_61) := u_stIT (fun _ _ _ => f_s11_eq) (s_istore (i := .istore 11) (len := 2) hq_86 (by decide +kernel) rfl (.inl ⟨rfl, rfl⟩) : e_Sn 86 61 (o_store e_okI 11 63)) t_86_63
noncomputable def n_86_60 : e_Y := u_bin a_isub (u_old (o_isub 61) n_86_61) n_86_61
theorem t_86_60 : e_Sn 86 60 (e_un n_86_60) := u_isubT (s_isub hq_86 (by decide +kernel) rfl : e_Sn 86 60 (o_isub 61)) t_86_61
noncomputable def n_86_59 : e_Y := u_push (.inl 2147483649) n_86_60
theorem t_86_59 : e_Sn 86 59 (e_un n_86_59) := u_pushT (s_iconst (n := (1)) hq_86 (by decide +kernel) rfl ⟨by decide +kernel, by decide +kernel⟩ : e_Sn 86 59 (o_push (.inl 2147483649) 60)) t_86_60
noncomputable def n_86_58 : e_Y := u_old (o_ishr 59) n_86_59
theorem t_86_58 : e_Sn 86 58 (e_un n_86_58) := u_oldT (s_ishr hq_86 (by decide +kernel) rfl : e_Sn 86 58 (o_ishr 59)) t_86_59 e_cg_ishr
noncomputable def n_86_57 : e_Y := u_push (.inl 2147483652) n_86_58
theorem t_86_57 : e_Sn 86 57 (e_un n_86_57) := u_pushT (s_iconst (n := (4)) hq_86 (by decide +kernel) rfl ⟨by decide +kernel, by decide +kernel⟩ : e_Sn 86 57 (o_push (.inl 2147483652) 58)) t_86_58
noncomputable def n_86_56 : e_Y := u_bin a_iadd (u_old (o_iadd 57) n_86_57) n_86_57
theorem t_86_56 : e_Sn 86 56 (e_un n_86_56) := u_iaddT (s_iadd hq_86 (by decide +kernel) rfl : e_Sn 86 56 (o_iadd 57)) t_86_57
noncomputable def n_86_54 : e_Y := u_push (.inl 2147483655) n_86_56
theorem t_86_54 : e_Sn 86 54 (e_un n_86_54) := u_pushT (s_bipush (n := (7)) hq_86 (by decide +kernel) rfl ⟨by decide +kernel, by decide +kernel⟩ : e_Sn 86 54 (o_push (.inl 2147483655) 56)) t_86_56
noncomputable def n_86_52 : e_Y := u_ld f_okI f_l4 n_86_54
theorem t_86_52 : e_Sn 86 52 (e_un n_86_52) := u_ldIT f_l4_eq (s_iload (i := .iload 4) (len := 2) hq_86 (by decide +kernel) rfl (.inl ⟨rfl, rfl⟩) : e_Sn 86 52 (o_load e_okI 4 54)) t_86_54
noncomputable def n_86_44 : e_Y := u_jmp y_le (u_old2 (o_cgt 47 52) 47 (u_at 47) n_86_52) (u_at 47) n_86_52
theorem t_86_44 : e_Sn 86 44 (e_un n_86_44) := u_cgtT rfl (s_cle (off := (8)) hq_86 (by decide +kernel) rfl rfl : e_Sn 86 44 (o_cgt 47 52)) u_atT t_86_52
noncomputable def n_86_41 : e_Y := u_push (.inl 2147484160) n_86_44
theorem t_86_41 : e_Sn 86 41 (e_un n_86_41) := u_pushT (s_sipush (n := (512)) hq_86 (by decide +kernel) rfl ⟨by decide +kernel, by decide +kernel⟩ : e_Sn 86 41 (o_push (.inl 2147484160) 44)) t_86_44
noncomputable def n_86_39 : e_Y := u_ld f_okI f_l4 n_86_41
theorem t_86_39 : e_Sn 86 39 (e_un n_86_39) := u_ldIT f_l4_eq (s_iload (i := .iload 4) (len := 2) hq_86 (by decide +kernel) rfl (.inl ⟨rfl, rfl⟩) : e_Sn 86 39 (o_load e_okI 4 41)) t_86_41
noncomputable def n_86_37 : e_Y := u_st f_okI f_s10 n_86_39
theorem t_86_37 : e_Sn 86 37 (e_un n_86_37) := u_stIT (fun _ _ _ => f_s10_eq) (s_istore (i := .istore 10) (len := 2) hq_86 (by decide +kernel) rfl (.inl ⟨rfl, rfl⟩) : e_Sn 86 37 (o_store e_okI 10 39)) t_86_39
noncomputable def n_86_36 : e_Y := u_old (o_ishr 37) n_86_37
theorem t_86_36 : e_Sn 86 36 (e_un n_86_36) := u_oldT (s_ishr hq_86 (by decide +kernel) rfl : e_Sn 86 36 (o_ishr 37)) t_86_37 e_cg_ishr
noncomputable def n_86_35 : e_Y := u_push (.inl 2147483652) n_86_36
theorem t_86_35 : e_Sn 86 35 (e_un n_86_35) := u_pushT (s_iconst (n := (4)) hq_86 (by decide +kernel) rfl ⟨by decide +kernel, by decide +kernel⟩ : e_Sn 86 35 (o_push (.inl 2147483652) 36)) t_86_36
noncomputable def n_86_34 : e_Y := u_bin a_iadd (u_old (o_iadd 35) n_86_35) n_86_35
theorem t_86_34 : e_Sn 86 34 (e_un n_86_34) := u_iaddT (s_iadd hq_86 (by decide +kernel) rfl : e_Sn 86 34 (o_iadd 35)) t_86_35
noncomputable def n_86_32 : e_Y := u_push (.inl 2147483655) n_86_34
theorem t_86_32 : e_Sn 86 32 (e_un n_86_32) := u_pushT (s_bipush (n := (7)) hq_86 (by decide +kernel) rfl ⟨by decide +kernel, by decide +kernel⟩ : e_Sn 86 32 (o_push (.inl 2147483655) 34)) t_86_34
noncomputable def n_86_31 : e_Y := u_ld f_okI f_l2 n_86_32
theorem t_86_31 : e_Sn 86 31 (e_un n_86_31) := u_ldIT f_l2_eq (s_iload (i := .iload_n 2) (len := 1) hq_86 (by decide +kernel) rfl (.inr ⟨2, rfl, rfl, rfl⟩) : e_Sn 86 31 (o_load e_okI 2 32)) t_86_32
noncomputable def n_86_24 : e_Y := u_if y_ge0 (u_old2 (o_iflt 27 31) 27 (u_at 27) n_86_31) (u_at 27) n_86_31
theorem t_86_24 : e_Sn 86 24 (e_un n_86_24) := u_ifltT rfl (s_ifge (off := (7)) hq_86 (by decide +kernel) rfl rfl : e_Sn 86 24 (o_iflt 27 31)) u_atT t_86_31
noncomputable def n_86_23 : e_Y := u_ld f_okI f_l2 n_86_24
theorem t_86_23 : e_Sn 86 23 (e_un n_86_23) := u_ldIT f_l2_eq (s_iload (i := .iload_n 2) (len := 1) hq_86 (by decide +kernel) rfl (.inr ⟨2, rfl, rfl, rfl⟩) : e_Sn 86 23 (o_load e_okI 2 24)) t_86_24
noncomputable def n_86_21 : e_Y := u_old (o_storeL 8 23) n_86_23
theorem t_86_21 : e_Sn 86 21 (e_un n_86_21) := u_oldT (s_lstore (i := .lstore 8) (len := 2) hq_86 (by decide +kernel) rfl (.inl ⟨rfl, rfl⟩) : e_Sn 86 21 (o_storeL 8 23)) t_86_23 (e_cg_storeL 8)
noncomputable def n_86_20 : e_Y := u_old (o_lsub 21) n_86_21
theorem t_86_20 : e_Sn 86 20 (e_un n_86_20) := u_oldT (s_lsub hq_86 (by decide +kernel) rfl : e_Sn 86 20 (o_lsub 21)) t_86_21 e_cg_lsub
noncomputable def n_86_19 : e_Y := u_old (o_i2l 20) n_86_20
theorem t_86_19 : e_Sn 86 19 (e_un n_86_19) := u_oldT (s_i2l hq_86 (by decide +kernel) rfl : e_Sn 86 19 (o_i2l 20)) t_86_20 e_congr_i2l
noncomputable def n_86_18 : e_Y := u_ld f_okI f_l1 n_86_19
theorem t_86_18 : e_Sn 86 18 (e_un n_86_18) := u_ldIT f_l1_eq (s_iload (i := .iload_n 1) (len := 1) hq_86 (by decide +kernel) rfl (.inr ⟨1, rfl, rfl, rfl⟩) : e_Sn 86 18 (o_load e_okI 1 19)) t_86_19
noncomputable def n_86_17 : e_Y := u_old (o_i2l 18) n_86_18
theorem t_86_17 : e_Sn 86 17 (e_un n_86_17) := u_oldT (s_i2l hq_86 (by decide +kernel) rfl : e_Sn 86 17 (o_i2l 18)) t_86_18 e_congr_i2l
noncomputable def n_86_16 : e_Y := u_ld f_okI f_l3 n_86_17
theorem t_86_16 : e_Sn 86 16 (e_un n_86_16) := u_ldIT f_l3_eq (s_iload (i := .iload_n 3) (len := 1) hq_86 (by decide +kernel) rfl (.inr ⟨3, rfl, rfl, rfl⟩) : e_Sn 86 16 (o_load e_okI 3 17)) t_86_17
noncomputable def n_86_12 : e_Y := u_if y_le0 (u_old2 (o_ifgt 16 15) 16 n_86_16 (u_at 15)) n_86_16 (u_at 15)
theorem t_86_12 : e_Sn 86 12 (e_un n_86_12) := u_ifgtT rfl (s_ifgt (off := (4)) hq_86 (by decide +kernel) rfl rfl : e_Sn 86 12 (o_ifgt 16 15)) t_86_16 u_atT
noncomputable def n_86_11 : e_Y := u_old (o_lcmp 12) n_86_12
theorem t_86_11 : e_Sn 86 11 (e_un n_86_11) := u_oldT (s_lcmp hq_86 (by decide +kernel) rfl : e_Sn 86 11 (o_lcmp 12)) t_86_12 e_cg_lcmp
noncomputable def n_86_10 : e_Y := u_push (e_L 9223372036854775808) n_86_11
theorem t_86_10 : e_Sn 86 10 (e_un n_86_10) := u_pushT (s_lconst (n := 0) hq_86 (by decide +kernel) rfl ⟨by decide +kernel, by decide +kernel⟩ : e_Sn 86 10 (o_push (e_L 9223372036854775808) 11)) t_86_11
noncomputable def n_86_8 : e_Y := u_old (o_load e_okL 6 10) n_86_10
theorem t_86_8 : e_Sn 86 8 (e_un n_86_8) := u_oldT (s_lload (i := .lload 6) (len := 2) hq_86 (by decide +kernel) rfl (.inl ⟨rfl, rfl⟩) : e_Sn 86 8 (o_load e_okL 6 10)) t_86_10 e_congr_load
noncomputable def n_86_6 : e_Y := u_old (o_storeL 6 8) n_86_8
theorem t_86_6 : e_Sn 86 6 (e_un n_86_6) := u_oldT (s_lstore (i := .lstore 6) (len := 2) hq_86 (by decide +kernel) rfl (.inl ⟨rfl, rfl⟩) : e_Sn 86 6 (o_storeL 6 8)) t_86_8 (e_cg_storeL 6)
noncomputable def n_86_5 : e_Y := u_old (o_lsub 6) n_86_6
theorem t_86_5 : e_Sn 86 5 (e_un n_86_5) := u_oldT (s_lsub hq_86 (by decide +kernel) rfl : e_Sn 86 5 (o_lsub 6)) t_86_6 e_cg_lsub
noncomputable def n_86_4 : e_Y := u_old (o_i2l 5) n_86_5
theorem t_86_4 : e_Sn 86 4 (e_un n_86_4) := u_oldT (s_i2l hq_86 (by decide +kernel) rfl : e_Sn 86 4 (o_i2l 5)) t_86_5 e_congr_i2l
noncomputable def n_86_3 : e_Y := u_ld f_okI f_l2 n_86_4
theorem t_86_3 : e_Sn 86 3 (e_un n_86_3) := u_ldIT f_l2_eq (s_iload (i := .iload_n 2) (len := 1) hq_86 (by decide +kernel) rfl (.inr ⟨2, rfl, rfl, rfl⟩) : e_Sn 86 3 (o_load e_okI 2 4)) t_86_4
noncomputable def n_86_2 : e_Y := u_old (o_i2l 3) n_86_3
theorem t_86_2 : e_Sn 86 2 (e_un n_86_2) := u_oldT (s_i2l hq_86 (by decide +kernel) rfl : e_Sn 86 2 (o_i2l 3)) t_86_3 e_congr_i2l
noncomputable def n_86_0 : e_Y := u_ld f_okI f_l4 n_86_2
theorem t_86_0 : e_Sn 86 0 (e_un n_86_0) := u_ldIT f_l4_eq (s_iload (i := .iload 4) (len := 2) hq_86 (by decide +kernel) rfl (.inl ⟨rfl, rfl⟩) : e_Sn 86 0 (o_load e_okI 4 2)) t_86_2
noncomputable def e_tb_86 : e_X := (e_br 75 (e_lf 0 (e_un n_86_0)) (e_lf 75 (e_un n_86_75)))
theorem e_tk_86 : e_Tb 86 e_tb_86 := (e_brT (e_lfT t_86_0) (e_lfT t_86_75))
end SN
