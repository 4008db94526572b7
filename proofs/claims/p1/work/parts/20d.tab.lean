/-! TABLES, by program -/
section SN
theorem hq_42 : (e_ml[42]?).map (·.2.1) = some prog_1_method_55_code := rfl
theorem ho_42 : (e_ml[42]?).map (·.1.cls) = some "Plateroomprinter" := rfl
theorem hr_42 : (e_ml[42]?).map (·.2.2.2) = some (some .boolean) := rfl
noncomputable def n_42_80 : e_Y := u_tab (o_ret e_okZ)
theorem t_42_80 : e_Sn 42 80 (e_un n_42_80) := u_tabT (s_zret hq_42 hr_42 (by decide +kernel) : e_Sn 42 80 (o_ret e_okZ))
noncomputable def n_42_79 : e_Y := u_ld f_okI f_l1 n_42_80
theorem t_42_79 : e_Sn 42 79 (e_un n_42_79) := u_ldIT f_l1_eq (s_iload (i := .iload_n 1) (len := 1) hq_42 (by decide +kernel) rfl (.inr ⟨1, rfl, rfl, rfl⟩) : e_Sn 42 79 (o_load e_okI 1 80)) t_42_80
noncomputable def n_42_76 : e_Y := (u_at 4)
theorem t_42_76 : e_Sn 42 76 (e_un n_42_76) := u_gotoT (s_goto (off := (-72)) hq_42 (by decide +kernel) rfl : e_Sn 42 76 (o_goto 4)) u_atT
noncomputable def n_42_73 : e_Y := u_inc f_l2 f_s2 1 n_42_76
theorem t_42_73 : e_Sn 42 73 (e_un n_42_73) := u_incT f_l2_eq (fun _ _ _ => f_s2_eq) (s_iinc (zz := (1)) hq_42 (by decide +kernel) rfl (by decide +kernel) ⟨by decide, by decide⟩ : e_Sn 42 73 (o_iinc 2 1 76)) t_42_76
noncomputable def n_42_70 : e_Y := (u_at 26)
theorem t_42_70 : e_Sn 42 70 (e_un n_42_70) := u_gotoT (s_goto (off := (-44)) hq_42 (by decide +kernel) rfl : e_Sn 42 70 (o_goto 26)) u_atT
noncomputable def n_42_67 : e_Y := u_inc f_l4 f_s4 1 n_42_70
theorem t_42_67 : e_Sn 42 67 (e_un n_42_67) := u_incT f_l4_eq (fun _ _ _ => f_s4_eq) (s_iinc (zz := (1)) hq_42 (by decide +kernel) rfl (by decide +kernel) ⟨by decide, by decide⟩ : e_Sn 42 67 (o_iinc 4 1 70)) t_42_70
noncomputable def n_42_62 : e_Y := u_jmp y_ne (u_old2 (o_ceq 67 65) 67 n_42_67 (u_at 65)) n_42_67 (u_at 65)
theorem t_42_62 : e_Sn 42 62 (e_un n_42_62) := u_ceqT rfl (s_ceq (off := (5)) hq_42 (by decide +kernel) rfl rfl : e_Sn 42 62 (o_ceq 67 65)) t_42_67 u_atT
noncomputable def n_42_61 : e_Y := u_ald 0 (u_old (o_ald e_fcs 62) n_42_62) n_42_62
theorem t_42_61 : e_Sn 42 61 (e_un n_42_61) := u_aldT (s_iald hq_42 (by decide +kernel) rfl : e_Sn 42 61 (o_ald e_fcs 62)) t_42_62
noncomputable def n_42_60 : e_Y := u_bin a_iadd (u_old (o_iadd 61) n_42_61) n_42_61
theorem t_42_60 : e_Sn 42 60 (e_un n_42_60) := u_iaddT (s_iadd hq_42 (by decide +kernel) rfl : e_Sn 42 60 (o_iadd 61)) t_42_61
noncomputable def n_42_58 : e_Y := u_ld f_okI f_l4 n_42_60
theorem t_42_58 : e_Sn 42 58 (e_un n_42_58) := u_ldIT f_l4_eq (s_iload (i := .iload 4) (len := 2) hq_42 (by decide +kernel) rfl (.inl ⟨rfl, rfl⟩) : e_Sn 42 58 (o_load e_okI 4 60)) t_42_60
noncomputable def n_42_57 : e_Y := u_bin a_imul (u_old (o_imul 58) n_42_58) n_42_58
theorem t_42_57 : e_Sn 42 57 (e_un n_42_57) := u_imulT (s_imul hq_42 (by decide +kernel) rfl : e_Sn 42 57 (o_imul 58)) t_42_58
noncomputable def n_42_55 : e_Y := u_push (.inl 2147483680) n_42_57
theorem t_42_55 : e_Sn 42 55 (e_un n_42_55) := u_pushT (s_bipush (n := (32)) hq_42 (by decide +kernel) rfl ⟨by decide +kernel, by decide +kernel⟩ : e_Sn 42 55 (o_push (.inl 2147483680) 57)) t_42_57
noncomputable def n_42_54 : e_Y := u_ld f_okI f_l2 n_42_55
theorem t_42_54 : e_Sn 42 54 (e_un n_42_54) := u_ldIT f_l2_eq (s_iload (i := .iload_n 2) (len := 1) hq_42 (by decide +kernel) rfl (.inr ⟨2, rfl, rfl, rfl⟩) : e_Sn 42 54 (o_load e_okI 2 55)) t_42_55
noncomputable def n_42_51 : e_Y := u_getf 9 0 (u_old (o_getf (e_f1 9 0) 54) n_42_54) n_42_54
theorem t_42_51 : e_Sn 42 51 (e_un n_42_51) := u_getfT (s_getf (C := er_9) (T := et_9) (N := 1) (ref := "Plateroomprinter$Sheet") (index := 414) (ci := 9) (k := 0) hq_42 ho_42 ⟨rfl, by decide, ei_9, (List.mem_of_getElem? (i := 382) (by decide +kernel)), .inl rfl⟩ (by decide +kernel) rfl : e_Sn 42 51 (o_getf (e_f1 9 0) 54)) t_42_54
noncomputable def n_42_48 : e_Y := u_getf 11 7 (u_old (o_getf (e_f1 11 7) 51) n_42_51) n_42_51
theorem t_42_48 : e_Sn 42 48 (e_un n_42_48) := u_getfT (s_getf (C := er_11) (T := et_11) (N := 15) (ref := "Plateroomprinter$World") (index := 406) (ci := 11) (k := 7) hq_42 ho_42 ⟨rfl, by decide, ei_11, (List.mem_of_getElem? (i := 481) (by decide +kernel)), .inl rfl⟩ (by decide +kernel) rfl : e_Sn 42 48 (o_getf (e_f1 11 7) 51)) t_42_51
noncomputable def n_42_45 : e_Y := u_getf 0 1 (u_old (o_getf (e_f1 0 1) 48) n_42_48) n_42_48
theorem t_42_45 : e_Sn 42 45 (e_un n_42_45) := u_getfT (s_getf (C := er_0) (T := et_0) (N := 17) (ref := "Plateroomprinter") (index := 19) (ci := 0) (k := 1) hq_42 ho_42 ⟨rfl, by decide, ei_0, (List.mem_of_getElem? (i := 681) (by decide +kernel)), .inl rfl⟩ (by decide +kernel) rfl : e_Sn 42 45 (o_getf (e_f1 0 1) 48)) t_42_48
noncomputable def n_42_44 : e_Y := u_ld f_okA f_l0 n_42_45
theorem t_42_44 : e_Sn 42 44 (e_un n_42_44) := u_ldAT f_l0_eq (s_aload (i := .aload_n 0) (len := 1) hq_42 (by decide +kernel) rfl (.inr ⟨0, rfl, rfl, rfl⟩) : e_Sn 42 44 (o_load e_okR 0 45)) t_42_45
noncomputable def n_42_43 : e_Y := u_ald 0 (u_old (o_ald e_fcs 44) n_42_44) n_42_44
theorem t_42_43 : e_Sn 42 43 (e_un n_42_43) := u_aldT (s_iald hq_42 (by decide +kernel) rfl : e_Sn 42 43 (o_ald e_fcs 44)) t_42_44
noncomputable def n_42_41 : e_Y := u_ld f_okI f_l4 n_42_43
theorem t_42_41 : e_Sn 42 41 (e_un n_42_41) := u_ldIT f_l4_eq (s_iload (i := .iload 4) (len := 2) hq_42 (by decide +kernel) rfl (.inl ⟨rfl, rfl⟩) : e_Sn 42 41 (o_load e_okI 4 43)) t_42_43
noncomputable def n_42_38 : e_Y := u_getf 0 7 (u_old (o_getf (e_f1 0 7) 41) n_42_41) n_42_41
theorem t_42_38 : e_Sn 42 38 (e_un n_42_38) := u_getfT (s_getf (C := er_0) (T := et_0) (N := 17) (ref := "Plateroomprinter") (index := 58) (ci := 0) (k := 7) hq_42 ho_42 ⟨rfl, by decide, ei_0, (List.mem_of_getElem? (i := 687) (by decide +kernel)), .inl rfl⟩ (by decide +kernel) rfl : e_Sn 42 38 (o_getf (e_f1 0 7) 41)) t_42_41
noncomputable def n_42_37 : e_Y := u_ld f_okA f_l0 n_42_38
theorem t_42_37 : e_Sn 42 37 (e_un n_42_37) := u_ldAT f_l0_eq (s_aload (i := .aload_n 0) (len := 1) hq_42 (by decide +kernel) rfl (.inr ⟨0, rfl, rfl, rfl⟩) : e_Sn 42 37 (o_load e_okR 0 38)) t_42_38
noncomputable def n_42_34 : e_Y := u_if y_ne0 (u_old2 (o_ifeq 65 37) 65 (u_at 65) n_42_37) (u_at 65) n_42_37
theorem t_42_34 : e_Sn 42 34 (e_un n_42_34) := u_ifeqT rfl (s_ifeq (off := (31)) hq_42 (by decide +kernel) rfl rfl : e_Sn 42 34 (o_ifeq 65 37)) u_atT t_42_37
noncomputable def n_42_33 : e_Y := u_ld f_okI f_l3 n_42_34
theorem t_42_33 : e_Sn 42 33 (e_un n_42_33) := u_ldIT f_l3_eq (s_iload (i := .iload_n 3) (len := 1) hq_42 (by decide +kernel) rfl (.inr ⟨3, rfl, rfl, rfl⟩) : e_Sn 42 33 (o_load e_okI 3 34)) t_42_34
noncomputable def n_42_30 : e_Y := u_jmp y_ge (u_old2 (o_clt 33 73) 33 n_42_33 n_42_73) n_42_33 n_42_73
theorem t_42_30 : e_Sn 42 30 (e_un n_42_30) := u_cltT rfl (s_cge (off := (43)) hq_42 (by decide +kernel) rfl rfl : e_Sn 42 30 (o_clt 33 73)) t_42_33 t_42_73
noncomputable def n_42_28 : e_Y := u_push (.inl 2147483680) n_42_30
theorem t_42_28 : e_Sn 42 28 (e_un n_42_28) := u_pushT (s_bipush (n := (32)) hq_42 (by decide +kernel) rfl ⟨by decide +kernel, by decide +kernel⟩ : e_Sn 42 28 (o_push (.inl 2147483680) 30)) t_42_30
noncomputable def n_42_26 : e_Y := u_ld f_okI f_l4 n_42_28
theorem t_42_26 : e_Sn 42 26 (e_un n_42_26) := u_ldIT f_l4_eq (s_iload (i := .iload 4) (len := 2) hq_42 (by decide +kernel) rfl (.inl ⟨rfl, rfl⟩) : e_Sn 42 26 (o_load e_okI 4 28)) t_42_28
noncomputable def n_42_24 : e_Y := u_st f_okI f_s4 n_42_26
theorem t_42_24 : e_Sn 42 24 (e_un n_42_24) := u_stIT (fun _ _ _ => f_s4_eq) (s_istore (i := .istore 4) (len := 2) hq_42 (by decide +kernel) rfl (.inl ⟨rfl, rfl⟩) : e_Sn 42 24 (o_store e_okI 4 26)) t_42_26
noncomputable def n_42_23 : e_Y := u_push (.inl 2147483648) n_42_24
theorem t_42_23 : e_Sn 42 23 (e_un n_42_23) := u_pushT (s_iconst (n := (0)) hq_42 (by decide +kernel) rfl ⟨by decide +kernel, by decide +kernel⟩ : e_Sn 42 23 (o_push (.inl 2147483648) 24)) t_42_24
noncomputable def n_42_22 : e_Y := u_st f_okI f_s3 n_42_23
theorem t_42_22 : e_Sn 42 22 (e_un n_42_22) := u_stIT (fun _ _ _ => f_s3_eq) (s_istore (i := .istore_n 3) (len := 1) hq_42 (by decide +kernel) rfl (.inr ⟨3, rfl, rfl, rfl⟩) : e_Sn 42 22 (o_store e_okI 3 23)) t_42_23
noncomputable def n_42_19 : e_Y := u_callV 0 57 7 26 3 n_57_0 n_42_22
theorem t_42_19 : e_Sn 42 19 (e_un n_42_19) := u_callVT rfl (s_callV (ci := 0) (C := er_0) (T := et_0) (N := 17) (index := 491) hq_42 ho_42 hy_57 hp_57 hc_57 hi_57 hd_57 (List.mem_of_getElem? (i := 1436) (by decide +kernel)) hs_57 (List.mem_of_getElem? (i := 64) (by decide +kernel)) rfl (by decide +kernel) rfl : e_Sn 42 19 (o_callV (e_s1 0 57 7) 3 22)) t_57_0 t_42_22
noncomputable def n_42_16 : e_Y := u_getf 0 7 (u_old (o_getf (e_f1 0 7) 19) n_42_19) n_42_19
theorem t_42_16 : e_Sn 42 16 (e_un n_42_16) := u_getfT (s_getf (C := er_0) (T := et_0) (N := 17) (ref := "Plateroomprinter") (index := 58) (ci := 0) (k := 7) hq_42 ho_42 ⟨rfl, by decide, ei_0, (List.mem_of_getElem? (i := 687) (by decide +kernel)), .inl rfl⟩ (by decide +kernel) rfl : e_Sn 42 16 (o_getf (e_f1 0 7) 19)) t_42_19
noncomputable def n_42_15 : e_Y := u_ld f_okA f_l0 n_42_16
theorem t_42_15 : e_Sn 42 15 (e_un n_42_15) := u_ldAT f_l0_eq (s_aload (i := .aload_n 0) (len := 1) hq_42 (by decide +kernel) rfl (.inr ⟨0, rfl, rfl, rfl⟩) : e_Sn 42 15 (o_load e_okR 0 16)) t_42_16
noncomputable def n_42_12 : e_Y := u_callV 0 41 8 27 2 n_41_0 n_42_15
theorem t_42_12 : e_Sn 42 12 (e_un n_42_12) := u_callVT rfl (s_callV (ci := 0) (C := er_0) (T := et_0) (N := 17) (index := 422) hq_42 ho_42 hy_41 hp_41 hc_41 hi_41 hd_41 (List.mem_of_getElem? (i := 1428) (by decide +kernel)) hs_41 (List.mem_of_getElem? (i := 62) (by decide +kernel)) rfl (by decide +kernel) rfl : e_Sn 42 12 (o_callV (e_s1 0 41 8) 2 15)) t_41_0 t_42_15
noncomputable def n_42_11 : e_Y := u_ld f_okI f_l2 n_42_12
theorem t_42_11 : e_Sn 42 11 (e_un n_42_11) := u_ldIT f_l2_eq (s_iload (i := .iload_n 2) (len := 1) hq_42 (by decide +kernel) rfl (.inr ⟨2, rfl, rfl, rfl⟩) : e_Sn 42 11 (o_load e_okI 2 12)) t_42_12
noncomputable def n_42_10 : e_Y := u_ld f_okA f_l0 n_42_11
theorem t_42_10 : e_Sn 42 10 (e_un n_42_10) := u_ldAT f_l0_eq (s_aload (i := .aload_n 0) (len := 1) hq_42 (by decide +kernel) rfl (.inr ⟨0, rfl, rfl, rfl⟩) : e_Sn 42 10 (o_load e_okR 0 11)) t_42_11
noncomputable def n_42_9 : e_Y := u_ld f_okA f_l0 n_42_10
theorem t_42_9 : e_Sn 42 9 (e_un n_42_9) := u_ldAT f_l0_eq (s_aload (i := .aload_n 0) (len := 1) hq_42 (by decide +kernel) rfl (.inr ⟨0, rfl, rfl, rfl⟩) : e_Sn 42 9 (o_load e_okR 0 10)) t_42_10
noncomputable def n_42_6 : e_Y := u_jmp y_ge (u_old2 (o_clt 9 79) 9 n_42_9 n_42_79) n_42_9 n_42_79
theorem t_42_6 : e_Sn 42 6 (e_un n_42_6) := u_cltT rfl (s_cge (off := (73)) hq_42 (by decide +kernel) rfl rfl : e_Sn 42 6 (o_clt 9 79)) t_42_9 t_42_79
noncomputable def n_42_5 : e_Y := u_push (.inl 2147483652) n_42_6
theorem t_42_5 : e_Sn 42 5 (e_un n_42_5) := u_pushT (s_iconst (n := (4)) hq_42 (by decide +kernel) rfl ⟨by decide +kernel, by decide +kernel⟩ : e_Sn 42 5 (o_push (.inl 2147483652) 6)) t_42_6
noncomputable def n_42_4 : e_Y := u_ld f_okI f_l2 n_42_5
theorem t_42_4 : e_Sn 42 4 (e_un n_42_4) := u_ldIT f_l2_eq (s_iload (i := .iload_n 2) (len := 1) hq_42 (by decide +kernel) rfl (.inr ⟨2, rfl, rfl, rfl⟩) : e_Sn 42 4 (o_load e_okI 2 5)) t_42_5
noncomputable def n_42_3 : e_Y := u_st f_okI f_s2 n_42_4
theorem t_42_3 : e_Sn 42 3 (e_un n_42_3) := u_stIT (fun _ _ _ => f_s2_eq) (s_istore (i := .istore_n 2) (len := 1) hq_42 (by decide +kernel) rfl (.inr ⟨2, rfl, rfl, rfl⟩) : e_Sn 42 3 (o_store e_okI 2 4)) t_42_4
noncomputable def n_42_2 : e_Y := u_push (.inl 2147483648) n_42_3
theorem t_42_2 : e_Sn 42 2 (e_un n_42_2) := u_pushT (s_iconst (n := (0)) hq_42 (by decide +kernel) rfl ⟨by decide +kernel, by decide +kernel⟩ : e_Sn 42 2 (o_push (.inl 2147483648) 3)) t_42_3
noncomputable def n_42_1 : e_Y := u_st f_okI f_s1 n_42_2
theorem t_42_1 : e_Sn 42 1 (e_un n_42_1) := u_stIT (fun _ _ _ => f_s1_eq) (s_istore (i := .istore_n 1) (len := 1) hq_42 (by decide +kernel) rfl (.inr ⟨1, rfl, rfl, rfl⟩) : e_Sn 42 1 (o_store e_okI 1 2)) t_42_2
noncomputable def n_42_0 : e_Y := u_push (.inl 2147483649) n_42_1
theorem t_42_0 : e_Sn 42 0 (e_un n_42_0) := u_pushT (s_iconst (n := (1)) hq_42 (by decide +kernel) rfl ⟨by decide +kernel, by decide +kernel⟩ : e_Sn 42 0 (o_push (.inl 2147483649) 1)) t_42_1
noncomputable def e_tb_42 : e_X := (e_br 4 (e_lf 0 (e_un n_42_0)) (e_br 26 (e_lf 4 (e_un n_42_4)) (e_lf 26 (e_un n_42_26))))
theorem e_tk_42 : e_Tb 42 e_tb_42 := (e_brT (e_lfT t_42_0) (e_brT (e_lfT t_42_4) (e_lfT t_42_26)))
theorem hq_219 : (e_ml[219]?).map (·.2.1) = some prog_37_method_50_code := rfl
theorem ho_219 : (e_ml[219]?).map (·.1.cls) = some "java/lang/Math" := rfl
theorem hr_219 : (e_ml[219]?).map (·.2.2.2) = some (some .int) := rfl
noncomputable def n_219_19 : e_Y := u_retI
theorem t_219_19 : e_Sn 219 19 (e_un n_219_19) := u_retIT (s_iret hq_219 hr_219 (by decide +kernel) : e_Sn 219 19 (o_ret e_okI))
noncomputable def n_219_18 : e_Y := u_ld f_okI f_l2 n_219_19
theorem t_219_18 : e_Sn 219 18 (e_un n_219_18) := u_ldIT f_l2_eq (s_iload (i := .iload_n 2) (len := 1) hq_219 (by decide +kernel) rfl (.inr ⟨2, rfl, rfl, rfl⟩) : e_Sn 219 18 (o_load e_okI 2 19)) t_219_19
noncomputable def n_219_7 : e_Y := u_if y_ge0 (u_old2 (o_iflt 10 18) 10 (u_at 10) n_219_18) (u_at 10) n_219_18
theorem t_219_7 : e_Sn 219 7 (e_un n_219_7) := u_ifltT rfl (s_ifge (off := (11)) hq_219 (by decide +kernel) rfl rfl : e_Sn 219 7 (o_iflt 10 18)) u_atT t_219_18
noncomputable def n_219_6 : e_Y := u_bin a_ixor (u_old (o_bin Nat.xor 7) n_219_7) n_219_7
theorem t_219_6 : e_Sn 219 6 (e_un n_219_6) := u_ixorT (s_ixor hq_219 (by decide +kernel) rfl : e_Sn 219 6 (o_bin Nat.xor 7)) t_219_7
noncomputable def n_219_5 : e_Y := u_ld f_okI f_l1 n_219_6
theorem t_219_5 : e_Sn 219 5 (e_un n_219_5) := u_ldIT f_l1_eq (s_iload (i := .iload_n 1) (len := 1) hq_219 (by decide +kernel) rfl (.inr ⟨1, rfl, rfl, rfl⟩) : e_Sn 219 5 (o_load e_okI 1 6)) t_219_6
noncomputable def n_219_4 : e_Y := u_ld f_okI f_l0 n_219_5
theorem t_219_4 : e_Sn 219 4 (e_un n_219_4) := u_ldIT f_l0_eq (s_iload (i := .iload_n 0) (len := 1) hq_219 (by decide +kernel) rfl (.inr ⟨0, rfl, rfl, rfl⟩) : e_Sn 219 4 (o_load e_okI 0 5)) t_219_5
noncomputable def n_219_3 : e_Y := u_st f_okI f_s2 n_219_4
theorem t_219_3 : e_Sn 219 3 (e_un n_219_3) := u_stIT (fun _ _ _ => f_s2_eq) (s_istore (i := .istore_n 2) (len := 1) hq_219 (by decide +kernel) rfl (.inr ⟨2, rfl, rfl, rfl⟩) : e_Sn 219 3 (o_store e_okI 2 4)) t_219_4
noncomputable def n_219_2 : e_Y := u_old (o_irem 3) n_219_3
theorem t_219_2 : e_Sn 219 2 (e_un n_219_2) := u_oldT (s_irem hq_219 (by decide +kernel) rfl : e_Sn 219 2 (o_irem 3)) t_219_3 e_cg_irem
noncomputable def n_219_1 : e_Y := u_ld f_okI f_l1 n_219_2
theorem t_219_1 : e_Sn 219 1 (e_un n_219_1) := u_ldIT f_l1_eq (s_iload (i := .iload_n 1) (len := 1) hq_219 (by decide +kernel) rfl (.inr ⟨1, rfl, rfl, rfl⟩) : e_Sn 219 1 (o_load e_okI 1 2)) t_219_2
noncomputable def n_219_0 : e_Y := u_ld f_okI f_l0 n_219_1
theorem t_219_0 : e_Sn 219 0 (e_un n_219_0) := u_ldIT f_l0_eq (s_iload (i := .iload_n 0) (len := 1) hq_219 (by decide +kernel) rfl (.inr ⟨0, rfl, rfl, rfl⟩) : e_Sn 219 0 (o_load e_okI 0 1)) t_219_1
noncomputable def e_tb_219 : e_X := (e_lf 0 (e_un n_219_0))
theorem e_tk_219 : e_Tb 219 e_tb_219 := (e_lfT t_219_0)
theorem hq_29 : (e_ml[29]?).map (·.2.1) = some prog_1_method_49_code := rfl
theorem ho_29 : (e_ml[29]?).map (·.1.cls) = some "Plateroomprinter" := rfl
theorem hr_29 : (e_ml[29]?).map (·.2.2.2) = some (some .boolean) := rfl
noncomputable def n_29_99 : e_Y := u_tab (o_ret e_okZ)
theorem t_29_99 : e_Sn 29 99 (e_un n_29_99) := u_tabT (s_zret hq_29 hr_29 (by decide +kernel) : e_Sn 29 99 (o_ret e_okZ))
noncomputable def n_29_95 : e_Y := n_29_99
theorem t_29_95 : e_Sn 29 95 (e_un n_29_95) := u_gotoT (s_goto (off := (4)) hq_29 (by decide +kernel) rfl : e_Sn 29 95 (o_goto 99)) t_29_99
noncomputable def n_29_94 : e_Y := u_push (.inl 2147483649) n_29_95
theorem t_29_94 : e_Sn 29 94 (e_un n_29_94) := u_pushT (s_iconst (n := (1)) hq_29 (by decide +kernel) rfl ⟨by decide +kernel, by decide +kernel⟩ : e_Sn 29 94 (o_push (.inl 2147483649) 95)) t_29_95
noncomputable def n_29_91 : e_Y := u_if y_ne0 (u_old2 (o_ifeq 98 94) 98 (u_at 98) n_29_94) (u_at 98) n_29_94
theorem t_29_91 : e_Sn 29 91 (e_un n_29_91) := u_ifeqT rfl (s_ifeq (off := (7)) hq_29 (by decide +kernel) rfl rfl : e_Sn 29 91 (o_ifeq 98 94)) u_atT t_29_94
noncomputable def n_29_88 : e_Y := u_callV 0 42 5 24 1 n_42_0 n_29_91
theorem t_29_88 : e_Sn 29 88 (e_un n_29_88) := u_callVT rfl (s_callV (ci := 0) (C := er_0) (T := et_0) (N := 17) (index := 452) hq_29 ho_29 hy_42 hp_42 hc_42 hi_42 hd_42 (List.mem_of_getElem? (i := 1424) (by decide +kernel)) hs_42 (List.mem_of_getElem? (i := 61) (by decide +kernel)) rfl (by decide +kernel) rfl : e_Sn 29 88 (o_callV (e_s1 0 42 5) 1 91)) t_42_0 t_29_91
noncomputable def n_29_87 : e_Y := u_ld f_okA f_l0 n_29_88
theorem t_29_87 : e_Sn 29 87 (e_un n_29_87) := u_ldAT f_l0_eq (s_aload (i := .aload_n 0) (len := 1) hq_29 (by decide +kernel) rfl (.inr ⟨0, rfl, rfl, rfl⟩) : e_Sn 29 87 (o_load e_okR 0 88)) t_29_88
noncomputable def n_29_84 : e_Y := u_if y_ne0 (u_old2 (o_ifeq 98 87) 98 (u_at 98) n_29_87) (u_at 98) n_29_87
theorem t_29_84 : e_Sn 29 84 (e_un n_29_84) := u_ifeqT rfl (s_ifeq (off := (14)) hq_29 (by decide +kernel) rfl rfl : e_Sn 29 84 (o_ifeq 98 87)) u_atT t_29_87
noncomputable def n_29_81 : e_Y := u_callV 0 36 8 27 2 n_36_0 n_29_84
theorem t_29_81 : e_Sn 29 81 (e_un n_29_81) := u_callVT rfl (s_callV (ci := 0) (C := er_0) (T := et_0) (N := 17) (index := 449) hq_29 ho_29 hy_36 hp_36 hc_36 hi_36 hd_36 (List.mem_of_getElem? (i := 1394) (by decide +kernel)) hs_36 (List.mem_of_getElem? (i := 60) (by decide +kernel)) rfl (by decide +kernel) rfl : e_Sn 29 81 (o_callV (e_s1 0 36 8) 2 84)) t_36_0 t_29_84
noncomputable def n_29_80 : e_Y := u_ld f_okI f_l1 n_29_81
theorem t_29_80 : e_Sn 29 80 (e_un n_29_80) := u_ldIT f_l1_eq (s_iload (i := .iload_n 1) (len := 1) hq_29 (by decide +kernel) rfl (.inr ⟨1, rfl, rfl, rfl⟩) : e_Sn 29 80 (o_load e_okI 1 81)) t_29_81
noncomputable def n_29_79 : e_Y := u_ld f_okA f_l0 n_29_80
theorem t_29_79 : e_Sn 29 79 (e_un n_29_79) := u_ldAT f_l0_eq (s_aload (i := .aload_n 0) (len := 1) hq_29 (by decide +kernel) rfl (.inr ⟨0, rfl, rfl, rfl⟩) : e_Sn 29 79 (o_load e_okR 0 80)) t_29_80
noncomputable def n_29_76 : e_Y := u_if y_ne0 (u_old2 (o_ifeq 98 79) 98 (u_at 98) n_29_79) (u_at 98) n_29_79
theorem t_29_76 : e_Sn 29 76 (e_un n_29_76) := u_ifeqT rfl (s_ifeq (off := (22)) hq_29 (by decide +kernel) rfl rfl : e_Sn 29 76 (o_ifeq 98 79)) u_atT t_29_79
noncomputable def n_29_73 : e_Y := u_callV 0 23 4 23 1 n_23_0 n_29_76
theorem t_29_73 : e_Sn 29 73 (e_un n_29_73) := u_callVT rfl (s_callV (ci := 0) (C := er_0) (T := et_0) (N := 17) (index := 445) hq_29 ho_29 hy_23 hp_23 hc_23 hi_23 hd_23 (List.mem_of_getElem? (i := 1377) (by decide +kernel)) hs_23 (List.mem_of_getElem? (i := 57) (by decide +kernel)) rfl (by decide +kernel) rfl : e_Sn 29 73 (o_callV (e_s1 0 23 4) 1 76)) t_23_0 t_29_76
noncomputable def n_29_72 : e_Y := u_ld f_okA f_l0 n_29_73
theorem t_29_72 : e_Sn 29 72 (e_un n_29_72) := u_ldAT f_l0_eq (s_aload (i := .aload_n 0) (len := 1) hq_29 (by decide +kernel) rfl (.inr ⟨0, rfl, rfl, rfl⟩) : e_Sn 29 72 (o_load e_okR 0 73)) t_29_73
noncomputable def n_29_69 : e_Y := u_if y_ne0 (u_old2 (o_ifeq 98 72) 98 (u_at 98) n_29_72) (u_at 98) n_29_72
theorem t_29_69 : e_Sn 29 69 (e_un n_29_69) := u_ifeqT rfl (s_ifeq (off := (29)) hq_29 (by decide +kernel) rfl rfl : e_Sn 29 69 (o_ifeq 98 72)) u_atT t_29_72
noncomputable def n_29_66 : e_Y := u_callV 0 39 5 24 3 n_39_0 n_29_69
theorem t_29_66 : e_Sn 29 66 (e_un n_29_66) := u_callVT rfl (s_callV (ci := 0) (C := er_0) (T := et_0) (N := 17) (index := 442) hq_29 ho_29 hy_39 hp_39 hc_39 hi_39 hd_39 (List.mem_of_getElem? (i := 1367) (by decide +kernel)) hs_39 (List.mem_of_getElem? (i := 56) (by decide +kernel)) rfl (by decide +kernel) rfl : e_Sn 29 66 (o_callV (e_s1 0 39 5) 3 69)) t_39_0 t_29_69
noncomputable def n_29_65 : e_Y := u_push (.inl 2147483649) n_29_66
theorem t_29_65 : e_Sn 29 65 (e_un n_29_65) := u_pushT (s_iconst (n := (1)) hq_29 (by decide +kernel) rfl ⟨by decide +kernel, by decide +kernel⟩ : e_Sn 29 65 (o_push (.inl 2147483649) 66)) t_29_66
noncomputable def n_29_64 : e_Y := u_ld f_okI f_l1 n_29_65
theorem t_29_64 : e_Sn 29 64 (e_un n_29_64) := u_ldIT f_l1_eq (s_iload (i := .iload_n 1) (len := 1) hq_29 (by decide +kernel) rfl (.inr ⟨1, rfl, rfl, rfl⟩) : e_Sn 29 64 (o_load e_okI 1 65)) t_29_65
noncomputable def n_29_63 : e_Y := u_ld f_okA f_l0 n_29_64
theorem t_29_63 : e_Sn 29 63 (e_un n_29_63) := u_ldAT f_l0_eq (s_aload (i := .aload_n 0) (len := 1) hq_29 (by decide +kernel) rfl (.inr ⟨0, rfl, rfl, rfl⟩) : e_Sn 29 63 (o_load e_okR 0 64)) t_29_64
noncomputable def n_29_60 : e_Y := u_if y_ne0 (u_old2 (o_ifeq 98 63) 98 (u_at 98) n_29_63) (u_at 98) n_29_63
theorem t_29_60 : e_Sn 29 60 (e_un n_29_60) := u_ifeqT rfl (s_ifeq (off := (38)) hq_29 (by decide +kernel) rfl rfl : e_Sn 29 60 (o_ifeq 98 63)) u_atT t_29_63
noncomputable def n_29_57 : e_Y := u_callV 0 39 5 24 3 n_39_0 n_29_60
theorem t_29_57 : e_Sn 29 57 (e_un n_29_57) := u_callVT rfl (s_callV (ci := 0) (C := er_0) (T := et_0) (N := 17) (index := 442) hq_29 ho_29 hy_39 hp_39 hc_39 hi_39 hd_39 (List.mem_of_getElem? (i := 1367) (by decide +kernel)) hs_39 (List.mem_of_getElem? (i := 56) (by decide +kernel)) rfl (by decide +kernel) rfl : e_Sn 29 57 (o_callV (e_s1 0 39 5) 3 60)) t_39_0 t_29_60
noncomputable def n_29_56 : e_Y := u_push (.inl 2147483648) n_29_57
theorem t_29_56 : e_Sn 29 56 (e_un n_29_56) := u_pushT (s_iconst (n := (0)) hq_29 (by decide +kernel) rfl ⟨by decide +kernel, by decide +kernel⟩ : e_Sn 29 56 (o_push (.inl 2147483648) 57)) t_29_57
noncomputable def n_29_55 : e_Y := u_ld f_okI f_l1 n_29_56
theorem t_29_55 : e_Sn 29 55 (e_un n_29_55) := u_ldIT f_l1_eq (s_iload (i := .iload_n 1) (len := 1) hq_29 (by decide +kernel) rfl (.inr ⟨1, rfl, rfl, rfl⟩) : e_Sn 29 55 (o_load e_okI 1 56)) t_29_56
noncomputable def n_29_54 : e_Y := u_ld f_okA f_l0 n_29_55
theorem t_29_54 : e_Sn 29 54 (e_un n_29_54) := u_ldAT f_l0_eq (s_aload (i := .aload_n 0) (len := 1) hq_29 (by decide +kernel) rfl (.inr ⟨0, rfl, rfl, rfl⟩) : e_Sn 29 54 (o_load e_okR 0 55)) t_29_55
noncomputable def n_29_51 : e_Y := u_jmp y_ne (u_old2 (o_ceq 54 98) 54 n_29_54 (u_at 98)) n_29_54 (u_at 98)
theorem t_29_51 : e_Sn 29 51 (e_un n_29_51) := u_ceqT rfl (s_cne (off := (47)) hq_29 (by decide +kernel) rfl rfl : e_Sn 29 51 (o_ceq 54 98)) t_29_54 u_atT
noncomputable def n_29_50 : e_Y := u_bin a_isub (u_old (o_isub 51) n_29_51) n_29_51
theorem t_29_50 : e_Sn 29 50 (e_un n_29_50) := u_isubT (s_isub hq_29 (by decide +kernel) rfl : e_Sn 29 50 (o_isub 51)) t_29_51
noncomputable def n_29_47 : e_Y := u_callV 0 14 2 21 2 n_14_0 n_29_50
theorem t_29_47 : e_Sn 29 47 (e_un n_29_47) := u_callVT rfl (s_callV (ci := 0) (C := er_0) (T := et_0) (N := 17) (index := 439) hq_29 ho_29 hy_14 hp_14 hc_14 hi_14 hd_14 (List.mem_of_getElem? (i := 1287) (by decide +kernel)) hs_14 (List.mem_of_getElem? (i := 1289) (by decide +kernel)) rfl (by decide +kernel) rfl : e_Sn 29 47 (o_callV (e_s1 0 14 2) 2 50)) t_14_0 t_29_50
noncomputable def n_29_46 : e_Y := u_push (.inl 2147483648) n_29_47
theorem t_29_46 : e_Sn 29 46 (e_un n_29_46) := u_pushT (s_iconst (n := (0)) hq_29 (by decide +kernel) rfl ⟨by decide +kernel, by decide +kernel⟩ : e_Sn 29 46 (o_push (.inl 2147483648) 47)) t_29_47
noncomputable def n_29_45 : e_Y := u_ld f_okA f_l0 n_29_46
theorem t_29_45 : e_Sn 29 45 (e_un n_29_45) := u_ldAT f_l0_eq (s_aload (i := .aload_n 0) (len := 1) hq_29 (by decide +kernel) rfl (.inr ⟨0, rfl, rfl, rfl⟩) : e_Sn 29 45 (o_load e_okR 0 46)) t_29_46
noncomputable def n_29_42 : e_Y := u_push (.inl 2147484672) n_29_45
theorem t_29_42 : e_Sn 29 42 (e_un n_29_42) := u_pushT (s_sipush (n := (1024)) hq_29 (by decide +kernel) rfl ⟨by decide +kernel, by decide +kernel⟩ : e_Sn 29 42 (o_push (.inl 2147484672) 45)) t_29_45
noncomputable def n_29_39 : e_Y := u_callV 0 25 1 20 1 n_25_0 n_29_42
theorem t_29_39 : e_Sn 29 39 (e_un n_29_39) := u_callVT rfl (s_callV (ci := 0) (C := er_0) (T := et_0) (N := 17) (index := 436) hq_29 ho_29 hy_25 hp_25 hc_25 hi_25 hd_25 (List.mem_of_getElem? (i := 1286) (by decide +kernel)) hs_25 (List.mem_of_getElem? (i := 1256) (by decide +kernel)) rfl (by decide +kernel) rfl : e_Sn 29 39 (o_callV (e_s1 0 25 1) 1 42)) t_25_0 t_29_42
noncomputable def n_29_38 : e_Y := u_ld f_okA f_l0 n_29_39
theorem t_29_38 : e_Sn 29 38 (e_un n_29_38) := u_ldAT f_l0_eq (s_aload (i := .aload_n 0) (len := 1) hq_29 (by decide +kernel) rfl (.inr ⟨0, rfl, rfl, rfl⟩) : e_Sn 29 38 (o_load e_okR 0 39)) t_29_39
noncomputable def n_29_35 : e_Y := u_if y_ne0 (u_old2 (o_ifeq 98 38) 98 (u_at 98) n_29_38) (u_at 98) n_29_38
theorem t_29_35 : e_Sn 29 35 (e_un n_29_35) := u_ifeqT rfl (s_ifeq (off := (63)) hq_29 (by decide +kernel) rfl rfl : e_Sn 29 35 (o_ifeq 98 38)) u_atT t_29_38
noncomputable def n_29_32 : e_Y := u_callV 0 1 5 24 2 n_1_0 n_29_35
theorem t_29_32 : e_Sn 29 32 (e_un n_29_32) := u_callVT rfl (s_callV (ci := 0) (C := er_0) (T := et_0) (N := 17) (index := 419) hq_29 ho_29 hy_1 hp_1 hc_1 hi_1 hd_1 (List.mem_of_getElem? (i := 1276) (by decide +kernel)) hs_1 (List.mem_of_getElem? (i := 53) (by decide +kernel)) rfl (by decide +kernel) rfl : e_Sn 29 32 (o_callV (e_s1 0 1 5) 2 35)) t_1_0 t_29_35
noncomputable def n_29_30 : e_Y := u_push (.inl 2147483680) n_29_32
theorem t_29_30 : e_Sn 29 30 (e_un n_29_30) := u_pushT (s_bipush (n := (32)) hq_29 (by decide +kernel) rfl ⟨by decide +kernel, by decide +kernel⟩ : e_Sn 29 30 (o_push (.inl 2147483680) 32)) t_29_32
noncomputable def n_29_29 : e_Y := u_ld f_okA f_l0 n_29_30
theorem t_29_29 : e_Sn 29 29 (e_un n_29_29) := u_ldAT f_l0_eq (s_aload (i := .aload_n 0) (len := 1) hq_29 (by decide +kernel) rfl (.inr ⟨0, rfl, rfl, rfl⟩) : e_Sn 29 29 (o_load e_okR 0 30)) t_29_30
noncomputable def n_29_26 : e_Y := u_if y_ne0 (u_old2 (o_ifeq 98 29) 98 (u_at 98) n_29_29) (u_at 98) n_29_29
theorem t_29_26 : e_Sn 29 26 (e_un n_29_26) := u_ifeqT rfl (s_ifeq (off := (72)) hq_29 (by decide +kernel) rfl rfl : e_Sn 29 26 (o_ifeq 98 29)) u_atT t_29_29
noncomputable def n_29_23 : e_Y := u_callV 0 1 5 24 2 n_1_0 n_29_26
theorem t_29_23 : e_Sn 29 23 (e_un n_29_23) := u_callVT rfl (s_callV (ci := 0) (C := er_0) (T := et_0) (N := 17) (index := 419) hq_29 ho_29 hy_1 hp_1 hc_1 hi_1 hd_1 (List.mem_of_getElem? (i := 1276) (by decide +kernel)) hs_1 (List.mem_of_getElem? (i := 53) (by decide +kernel)) rfl (by decide +kernel) rfl : e_Sn 29 23 (o_callV (e_s1 0 1 5) 2 26)) t_1_0 t_29_26
noncomputable def n_29_22 : e_Y := u_push (.inl 2147483653) n_29_23
theorem t_29_22 : e_Sn 29 22 (e_un n_29_22) := u_pushT (s_iconst (n := (5)) hq_29 (by decide +kernel) rfl ⟨by decide +kernel, by decide +kernel⟩ : e_Sn 29 22 (o_push (.inl 2147483653) 23)) t_29_23
noncomputable def n_29_21 : e_Y := u_ld f_okA f_l0 n_29_22
theorem t_29_21 : e_Sn 29 21 (e_un n_29_21) := u_ldAT f_l0_eq (s_aload (i := .aload_n 0) (len := 1) hq_29 (by decide +kernel) rfl (.inr ⟨0, rfl, rfl, rfl⟩) : e_Sn 29 21 (o_load e_okR 0 22)) t_29_22
noncomputable def n_29_18 : e_Y := u_if y_ne0 (u_old2 (o_ifeq 98 21) 98 (u_at 98) n_29_21) (u_at 98) n_29_21
theorem t_29_18 : e_Sn 29 18 (e_un n_29_18) := u_ifeqT rfl (s_ifeq (off := (80)) hq_29 (by decide +kernel) rfl rfl : e_Sn 29 18 (o_ifeq 98 21)) u_atT t_29_21
noncomputable def n_29_15 : e_Y := u_callV 0 1 5 24 2 n_1_0 n_29_18
theorem t_29_15 : e_Sn 29 15 (e_un n_29_15) := u_callVT rfl (s_callV (ci := 0) (C := er_0) (T := et_0) (N := 17) (index := 419) hq_29 ho_29 hy_1 hp_1 hc_1 hi_1 hd_1 (List.mem_of_getElem? (i := 1276) (by decide +kernel)) hs_1 (List.mem_of_getElem? (i := 53) (by decide +kernel)) rfl (by decide +kernel) rfl : e_Sn 29 15 (o_callV (e_s1 0 1 5) 2 18)) t_1_0 t_29_18
noncomputable def n_29_14 : e_Y := u_push (.inl 2147483649) n_29_15
theorem t_29_14 : e_Sn 29 14 (e_un n_29_14) := u_pushT (s_iconst (n := (1)) hq_29 (by decide +kernel) rfl ⟨by decide +kernel, by decide +kernel⟩ : e_Sn 29 14 (o_push (.inl 2147483649) 15)) t_29_15
noncomputable def n_29_13 : e_Y := u_ld f_okA f_l0 n_29_14
theorem t_29_13 : e_Sn 29 13 (e_un n_29_13) := u_ldAT f_l0_eq (s_aload (i := .aload_n 0) (len := 1) hq_29 (by decide +kernel) rfl (.inr ⟨0, rfl, rfl, rfl⟩) : e_Sn 29 13 (o_load e_okR 0 14)) t_29_14
noncomputable def n_29_12 : e_Y := u_st f_okI f_s1 n_29_13
theorem t_29_12 : e_Sn 29 12 (e_un n_29_12) := u_stIT (fun _ _ _ => f_s1_eq) (s_istore (i := .istore_n 1) (len := 1) hq_29 (by decide +kernel) rfl (.inr ⟨1, rfl, rfl, rfl⟩) : e_Sn 29 12 (o_store e_okI 1 13)) t_29_13
noncomputable def n_29_9 : e_Y := u_callS 219 3 22 2 n_219_0 n_29_12
theorem t_29_9 : e_Sn 29 9 (e_un n_29_9) := u_callST rfl (s_callSF (index := 433) hq_29 ho_29 hy_219 hp_219 hc_219 hi_219 hd_219 (List.mem_of_getElem? (i := 1275) (by decide +kernel)) hs_219 (by decide +kernel) rfl : e_Sn 29 9 (o_callS 219 3 2 12)) t_219_0 t_29_12
noncomputable def n_29_7 : e_Y := u_push (.inl 2147483680) n_29_9
theorem t_29_7 : e_Sn 29 7 (e_un n_29_7) := u_pushT (s_bipush (n := (32)) hq_29 (by decide +kernel) rfl ⟨by decide +kernel, by decide +kernel⟩ : e_Sn 29 7 (o_push (.inl 2147483680) 9)) t_29_9
noncomputable def n_29_4 : e_Y := u_getf 11 12 (u_old (o_getf (e_f1 11 12) 7) n_29_7) n_29_7
theorem t_29_4 : e_Sn 29 4 (e_un n_29_4) := u_getfT (s_getf (C := er_11) (T := et_11) (N := 15) (ref := "Plateroomprinter$World") (index := 207) (ci := 11) (k := 12) hq_29 ho_29 ⟨rfl, by decide, ei_11, (List.mem_of_getElem? (i := 496) (by decide +kernel)), .inl rfl⟩ (by decide +kernel) rfl : e_Sn 29 4 (o_getf (e_f1 11 12) 7)) t_29_7
noncomputable def n_29_1 : e_Y := u_getf 0 1 (u_old (o_getf (e_f1 0 1) 4) n_29_4) n_29_4
theorem t_29_1 : e_Sn 29 1 (e_un n_29_1) := u_getfT (s_getf (C := er_0) (T := et_0) (N := 17) (ref := "Plateroomprinter") (index := 19) (ci := 0) (k := 1) hq_29 ho_29 ⟨rfl, by decide, ei_0, (List.mem_of_getElem? (i := 681) (by decide +kernel)), .inl rfl⟩ (by decide +kernel) rfl : e_Sn 29 1 (o_getf (e_f1 0 1) 4)) t_29_4
noncomputable def n_29_0 : e_Y := u_ld f_okA f_l0 n_29_1
theorem t_29_0 : e_Sn 29 0 (e_un n_29_0) := u_ldAT f_l0_eq (s_aload (i := .aload_n 0) (len := 1) hq_29 (by decide +kernel) rfl (.inr ⟨0, rfl, rfl, rfl⟩) : e_Sn 29 0 (o_load e_okR 0 1)) t_29_1
noncomputable def e_tb_29 : e_X := (e_lf 0 (e_un n_29_0))
theorem e_tk_29 : e_Tb 29 e_tb_29 := (e_lfT t_29_0)
theorem hq_7 : (e_ml[7]?).map (·.2.1) = some prog_1_method_50_code := rfl
theorem ho_7 : (e_ml[7]?).map (·.1.cls) = some "Plateroomprinter" := rfl
theorem hr_7 : (e_ml[7]?).map (·.2.2.2) = some (some .long) := rfl
noncomputable def n_7_45 : e_Y := u_tab (o_ret e_okL)
theorem t_7_45 : e_Sn 7 45 (e_un n_7_45) := u_tabT (s_lret hq_7 hr_7 (by decide +kernel) : e_Sn 7 45 (o_ret e_okL))
noncomputable def n_7_44 : e_Y := u_old (o_ladd 45) n_7_45
theorem t_7_44 : e_Sn 7 44 (e_un n_7_44) := u_oldT (s_ladd hq_7 (by decide +kernel) rfl : e_Sn 7 44 (o_ladd 45)) t_7_45 e_cg_ladd
noncomputable def n_7_43 : e_Y := u_old (o_i2l 44) n_7_44
theorem t_7_43 : e_Sn 7 43 (e_un n_7_43) := u_oldT (s_i2l hq_7 (by decide +kernel) rfl : e_Sn 7 43 (o_i2l 44)) t_7_44 e_congr_i2l
noncomputable def n_7_39 : e_Y := n_7_43
theorem t_7_39 : e_Sn 7 39 (e_un n_7_39) := u_gotoT (s_goto (off := (4)) hq_7 (by decide +kernel) rfl : e_Sn 7 39 (o_goto 43)) t_7_43
noncomputable def n_7_38 : e_Y := u_push (.inl 2147483649) n_7_39
theorem t_7_38 : e_Sn 7 38 (e_un n_7_38) := u_pushT (s_iconst (n := (1)) hq_7 (by decide +kernel) rfl ⟨by decide +kernel, by decide +kernel⟩ : e_Sn 7 38 (o_push (.inl 2147483649) 39)) t_7_39
noncomputable def n_7_35 : e_Y := u_if y_ne0 (u_old2 (o_ifeq 42 38) 42 (u_at 42) n_7_38) (u_at 42) n_7_38
theorem t_7_35 : e_Sn 7 35 (e_un n_7_35) := u_ifeqT rfl (s_ifeq (off := (7)) hq_7 (by decide +kernel) rfl rfl : e_Sn 7 35 (o_ifeq 42 38)) u_atT t_7_38
noncomputable def n_7_32 : e_Y := u_callV 0 29 2 21 1 n_29_0 n_7_35
theorem t_7_32 : e_Sn 7 32 (e_un n_7_32) := u_callVT rfl (s_callV (ci := 0) (C := er_0) (T := et_0) (N := 17) (index := 472) hq_7 ho_7 hy_29 hp_29 hc_29 hi_29 hd_29 (List.mem_of_getElem? (i := 1560) (by decide +kernel)) hs_29 (List.mem_of_getElem? (i := 1273) (by decide +kernel)) rfl (by decide +kernel) rfl : e_Sn 7 32 (o_callV (e_s1 0 29 2) 1 35)) t_29_0 t_7_35
noncomputable def n_7_31 : e_Y := u_ld f_okA f_l0 n_7_32
theorem t_7_31 : e_Sn 7 31 (e_un n_7_31) := u_ldAT f_l0_eq (s_aload (i := .aload_n 0) (len := 1) hq_7 (by decide +kernel) rfl (.inr ⟨0, rfl, rfl, rfl⟩) : e_Sn 7 31 (o_load e_okR 0 32)) t_7_32
noncomputable def n_7_30 : e_Y := u_old (o_lmul 31) n_7_31
theorem t_7_30 : e_Sn 7 30 (e_un n_7_30) := u_oldT (s_lmul hq_7 (by decide +kernel) rfl : e_Sn 7 30 (o_lmul 31)) t_7_31 e_cg_lmul
noncomputable def n_7_27 : e_Y := u_push (e_L 9223372036854775839) n_7_30
theorem t_7_27 : e_Sn 7 27 (e_un n_7_27) := u_pushT (s_ldc2 (index := 470) (v := (31)) hq_7 ho_7 (List.mem_of_getElem? (i := 1449) (by decide +kernel)) (by decide +kernel) rfl ⟨by decide +kernel, by decide +kernel⟩ : e_Sn 7 27 (o_push (e_L 9223372036854775839) 30)) t_7_30
noncomputable def n_7_26 : e_Y := u_old (o_load e_okL 1 27) n_7_27
theorem t_7_26 : e_Sn 7 26 (e_un n_7_26) := u_oldT (s_lload (i := .lload_n 1) (len := 1) hq_7 (by decide +kernel) rfl (.inr ⟨1, rfl, rfl, rfl⟩) : e_Sn 7 26 (o_load e_okL 1 27)) t_7_27 e_congr_load
noncomputable def n_7_25 : e_Y := u_old (o_storeL 1 26) n_7_26
theorem t_7_25 : e_Sn 7 25 (e_un n_7_25) := u_oldT (s_lstore (i := .lstore_n 1) (len := 1) hq_7 (by decide +kernel) rfl (.inr ⟨1, rfl, rfl, rfl⟩) : e_Sn 7 25 (o_storeL 1 26)) t_7_26 (e_cg_storeL 1)
noncomputable def n_7_22 : e_Y := u_callV 0 8 7 26 2 n_8_0 n_7_25
theorem t_7_22 : e_Sn 7 22 (e_un n_7_22) := u_callVT rfl (s_callV (ci := 0) (C := er_0) (T := et_0) (N := 17) (index := 467) hq_7 ho_7 hy_8 hp_8 hc_8 hi_8 hd_8 (List.mem_of_getElem? (i := 1525) (by decide +kernel)) hs_8 (List.mem_of_getElem? (i := 68) (by decide +kernel)) rfl (by decide +kernel) rfl : e_Sn 7 22 (o_callV (e_s1 0 8 7) 2 25)) t_8_0 t_7_25
noncomputable def n_7_21 : e_Y := u_old (o_load e_okL 1 22) n_7_22
theorem t_7_21 : e_Sn 7 21 (e_un n_7_21) := u_oldT (s_lload (i := .lload_n 1) (len := 1) hq_7 (by decide +kernel) rfl (.inr ⟨1, rfl, rfl, rfl⟩) : e_Sn 7 21 (o_load e_okL 1 22)) t_7_22 e_congr_load
noncomputable def n_7_20 : e_Y := u_ld f_okA f_l0 n_7_21
theorem t_7_20 : e_Sn 7 20 (e_un n_7_20) := u_ldAT f_l0_eq (s_aload (i := .aload_n 0) (len := 1) hq_7 (by decide +kernel) rfl (.inr ⟨0, rfl, rfl, rfl⟩) : e_Sn 7 20 (o_load e_okR 0 21)) t_7_21
noncomputable def n_7_19 : e_Y := u_old (o_storeL 1 20) n_7_20
theorem t_7_19 : e_Sn 7 19 (e_un n_7_19) := u_oldT (s_lstore (i := .lstore_n 1) (len := 1) hq_7 (by decide +kernel) rfl (.inr ⟨1, rfl, rfl, rfl⟩) : e_Sn 7 19 (o_storeL 1 20)) t_7_20 (e_cg_storeL 1)
noncomputable def n_7_16 : e_Y := u_callV 0 9 8 27 2 n_9_0 n_7_19
theorem t_7_16 : e_Sn 7 16 (e_un n_7_16) := u_callVT rfl (s_callV (ci := 0) (C := er_0) (T := et_0) (N := 17) (index := 464) hq_7 ho_7 hy_9 hp_9 hc_9 hi_9 hd_9 (List.mem_of_getElem? (i := 1506) (by decide +kernel)) hs_9 (List.mem_of_getElem? (i := 67) (by decide +kernel)) rfl (by decide +kernel) rfl : e_Sn 7 16 (o_callV (e_s1 0 9 8) 2 19)) t_9_0 t_7_19
noncomputable def n_7_15 : e_Y := u_old (o_load e_okL 1 16) n_7_16
theorem t_7_15 : e_Sn 7 15 (e_un n_7_15) := u_oldT (s_lload (i := .lload_n 1) (len := 1) hq_7 (by decide +kernel) rfl (.inr ⟨1, rfl, rfl, rfl⟩) : e_Sn 7 15 (o_load e_okL 1 16)) t_7_16 e_congr_load
noncomputable def n_7_14 : e_Y := u_ld f_okA f_l0 n_7_15
theorem t_7_14 : e_Sn 7 14 (e_un n_7_14) := u_ldAT f_l0_eq (s_aload (i := .aload_n 0) (len := 1) hq_7 (by decide +kernel) rfl (.inr ⟨0, rfl, rfl, rfl⟩) : e_Sn 7 14 (o_load e_okR 0 15)) t_7_15
noncomputable def n_7_13 : e_Y := u_old (o_storeL 1 14) n_7_14
theorem t_7_13 : e_Sn 7 13 (e_un n_7_13) := u_oldT (s_lstore (i := .lstore_n 1) (len := 1) hq_7 (by decide +kernel) rfl (.inr ⟨1, rfl, rfl, rfl⟩) : e_Sn 7 13 (o_storeL 1 14)) t_7_14 (e_cg_storeL 1)
noncomputable def n_7_10 : e_Y := u_callV 0 11 6 25 2 n_11_0 n_7_13
theorem t_7_10 : e_Sn 7 10 (e_un n_7_10) := u_callVT rfl (s_callV (ci := 0) (C := er_0) (T := et_0) (N := 17) (index := 461) hq_7 ho_7 hy_11 hp_11 hc_11 hi_11 hd_11 (List.mem_of_getElem? (i := 1491) (by decide +kernel)) hs_11 (List.mem_of_getElem? (i := 66) (by decide +kernel)) rfl (by decide +kernel) rfl : e_Sn 7 10 (o_callV (e_s1 0 11 6) 2 13)) t_11_0 t_7_13
noncomputable def n_7_9 : e_Y := u_old (o_load e_okL 1 10) n_7_10
theorem t_7_9 : e_Sn 7 9 (e_un n_7_9) := u_oldT (s_lload (i := .lload_n 1) (len := 1) hq_7 (by decide +kernel) rfl (.inr ⟨1, rfl, rfl, rfl⟩) : e_Sn 7 9 (o_load e_okL 1 10)) t_7_10 e_congr_load
noncomputable def n_7_8 : e_Y := u_ld f_okA f_l0 n_7_9
theorem t_7_8 : e_Sn 7 8 (e_un n_7_8) := u_ldAT f_l0_eq (s_aload (i := .aload_n 0) (len := 1) hq_7 (by decide +kernel) rfl (.inr ⟨0, rfl, rfl, rfl⟩) : e_Sn 7 8 (o_load e_okR 0 9)) t_7_9
noncomputable def n_7_7 : e_Y := u_old (o_storeL 1 8) n_7_8
theorem t_7_7 : e_Sn 7 7 (e_un n_7_7) := u_oldT (s_lstore (i := .lstore_n 1) (len := 1) hq_7 (by decide +kernel) rfl (.inr ⟨1, rfl, rfl, rfl⟩) : e_Sn 7 7 (o_storeL 1 8)) t_7_8 (e_cg_storeL 1)
noncomputable def n_7_4 : e_Y := u_callV 0 10 6 25 2 n_10_0 n_7_7
theorem t_7_4 : e_Sn 7 4 (e_un n_7_4) := u_callVT rfl (s_callV (ci := 0) (C := er_0) (T := et_0) (N := 17) (index := 457) hq_7 ho_7 hy_10 hp_10 hc_10 hi_10 hd_10 (List.mem_of_getElem? (i := 1445) (by decide +kernel)) hs_10 (List.mem_of_getElem? (i := 65) (by decide +kernel)) rfl (by decide +kernel) rfl : e_Sn 7 4 (o_callV (e_s1 0 10 6) 2 7)) t_10_0 t_7_7
noncomputable def n_7_1 : e_Y := u_push (e_L 9223372036854782213) n_7_4
theorem t_7_1 : e_Sn 7 1 (e_un n_7_1) := u_pushT (s_ldc2 (index := 455) (v := (6405)) hq_7 ho_7 (List.mem_of_getElem? (i := 1444) (by decide +kernel)) (by decide +kernel) rfl ⟨by decide +kernel, by decide +kernel⟩ : e_Sn 7 1 (o_push (e_L 9223372036854782213) 4)) t_7_4
noncomputable def n_7_0 : e_Y := u_ld f_okA f_l0 n_7_1
theorem t_7_0 : e_Sn 7 0 (e_un n_7_0) := u_ldAT f_l0_eq (s_aload (i := .aload_n 0) (len := 1) hq_7 (by decide +kernel) rfl (.inr ⟨0, rfl, rfl, rfl⟩) : e_Sn 7 0 (o_load e_okR 0 1)) t_7_1
noncomputable def e_tb_7 : e_X := (e_lf 0 (e_un n_7_0))
theorem e_tk_7 : e_Tb 7 e_tb_7 := (e_lfT t_7_0)
theorem hq_13 : (e_ml[13]?).map (·.2.1) = some prog_1_method_41_code := rfl
theorem ho_13 : (e_ml[13]?).map (·.1.cls) = some "Plateroomprinter" := rfl
theorem hr_13 : (e_ml[13]?).map (·.2.2.2) = some (some .int) := rfl
noncomputable def n_13_31 : e_Y := u_retI
theorem t_13_31 : e_Sn 13 31 (e_un n_13_31) := u_retIT (s_iret hq_13 hr_13 (by decide +kernel) : e_Sn 13 31 (o_ret e_okI))
noncomputable def n_13_28 : e_Y := u_callV 9 93 5 24 3 n_93_0 n_13_31
theorem t_13_28 : e_Sn 13 28 (e_un n_13_28) := u_callVT rfl (s_callV (ci := 9) (C := er_9) (T := et_9) (N := 1) (index := 409) hq_13 ho_13 hy_93 hp_93 hc_93 hi_93 hd_93 (List.mem_of_getElem? (i := 1419) (by decide +kernel)) hs_93 (List.mem_of_getElem? (i := 1421) (by decide +kernel)) rfl (by decide +kernel) rfl : e_Sn 13 28 (o_callV (e_s1 9 93 5) 3 31)) t_93_0 t_13_31
noncomputable def n_13_27 : e_Y := u_ld f_okI f_l2 n_13_28
theorem t_13_27 : e_Sn 13 27 (e_un n_13_27) := u_ldIT f_l2_eq (s_iload (i := .iload_n 2) (len := 1) hq_13 (by decide +kernel) rfl (.inr ⟨2, rfl, rfl, rfl⟩) : e_Sn 13 27 (o_load e_okI 2 28)) t_13_28
noncomputable def n_13_26 : e_Y := u_ld f_okI f_l1 n_13_27
theorem t_13_26 : e_Sn 13 26 (e_un n_13_26) := u_ldIT f_l1_eq (s_iload (i := .iload_n 1) (len := 1) hq_13 (by decide +kernel) rfl (.inr ⟨1, rfl, rfl, rfl⟩) : e_Sn 13 26 (o_load e_okI 1 27)) t_13_27
noncomputable def n_13_23 : e_Y := u_getf 11 7 (u_old (o_getf (e_f1 11 7) 26) n_13_26) n_13_26
theorem t_13_23 : e_Sn 13 23 (e_un n_13_23) := u_getfT (s_getf (C := er_11) (T := et_11) (N := 15) (ref := "Plateroomprinter$World") (index := 406) (ci := 11) (k := 7) hq_13 ho_13 ⟨rfl, by decide, ei_11, (List.mem_of_getElem? (i := 481) (by decide +kernel)), .inl rfl⟩ (by decide +kernel) rfl : e_Sn 13 23 (o_getf (e_f1 11 7) 26)) t_13_26
noncomputable def n_13_20 : e_Y := u_getf 0 1 (u_old (o_getf (e_f1 0 1) 23) n_13_23) n_13_23
theorem t_13_20 : e_Sn 13 20 (e_un n_13_20) := u_getfT (s_getf (C := er_0) (T := et_0) (N := 17) (ref := "Plateroomprinter") (index := 19) (ci := 0) (k := 1) hq_13 ho_13 ⟨rfl, by decide, ei_0, (List.mem_of_getElem? (i := 681) (by decide +kernel)), .inl rfl⟩ (by decide +kernel) rfl : e_Sn 13 20 (o_getf (e_f1 0 1) 23)) t_13_23
noncomputable def n_13_19 : e_Y := u_ld f_okA f_l0 n_13_20
theorem t_13_19 : e_Sn 13 19 (e_un n_13_19) := u_ldAT f_l0_eq (s_aload (i := .aload_n 0) (len := 1) hq_13 (by decide +kernel) rfl (.inr ⟨0, rfl, rfl, rfl⟩) : e_Sn 13 19 (o_load e_okR 0 20)) t_13_20
noncomputable def n_13_8 : e_Y := u_tab (o_throw 2)
theorem t_13_8 : e_Sn 13 8 (e_un n_13_8) := u_tabT (s_throw (ik := 175) (is := 322) (ic := 179) (X := "java/lang/IndexOutOfBoundsException") (text := "no such dot") hq_13 ho_13 hy_13 hc_13 rfl (by decide +kernel) e_wok2 (by simp [e_sr]) (by decide +kernel) (by decide +kernel) (.inr ⟨(by decide +kernel), (by decide +kernel), (by decide +kernel)⟩) : e_Sn 13 8 (o_throw 2))
noncomputable def n_13_5 : e_Y := u_if y_ne0 (u_old2 (o_ifeq 8 19) 8 n_13_8 n_13_19) n_13_8 n_13_19
theorem t_13_5 : e_Sn 13 5 (e_un n_13_5) := u_ifeqT rfl (s_ifne (off := (14)) hq_13 (by decide +kernel) rfl rfl : e_Sn 13 5 (o_ifeq 8 19)) t_13_8 t_13_19
noncomputable def n_13_2 : e_Y := u_callS 26 2 21 2 n_26_0 n_13_5
theorem t_13_2 : e_Sn 13 2 (e_un n_13_2) := u_callST rfl (s_callS (index := 319) hq_13 ho_13 hy_26 hp_26 hc_26 hi_26 hd_26 (List.mem_of_getElem? (i := 1371) (by decide +kernel)) hs_26 (by decide +kernel) rfl : e_Sn 13 2 (o_callS 26 2 2 5)) t_26_0 t_13_5
noncomputable def n_13_1 : e_Y := u_ld f_okI f_l2 n_13_2
theorem t_13_1 : e_Sn 13 1 (e_un n_13_1) := u_ldIT f_l2_eq (s_iload (i := .iload_n 2) (len := 1) hq_13 (by decide +kernel) rfl (.inr ⟨2, rfl, rfl, rfl⟩) : e_Sn 13 1 (o_load e_okI 2 2)) t_13_2
noncomputable def n_13_0 : e_Y := u_ld f_okI f_l1 n_13_1
theorem t_13_0 : e_Sn 13 0 (e_un n_13_0) := u_ldIT f_l1_eq (s_iload (i := .iload_n 1) (len := 1) hq_13 (by decide +kernel) rfl (.inr ⟨1, rfl, rfl, rfl⟩) : e_Sn 13 0 (o_load e_okI 1 1)) t_13_1
noncomputable def e_tb_13 : e_X := (e_lf 0 (e_un n_13_0))
theorem e_tk_13 : e_Tb 13 e_tb_13 := (e_lfT t_13_0)
theorem hq_15 : (e_ml[15]?).map (·.2.1) = some prog_1_method_4_code := rfl
theorem ho_15 : (e_ml[15]?).map (·.1.cls) = some "Plateroomprinter" := rfl
theorem hr_15 : (e_ml[15]?).map (·.2.2.2) = some (some .int) := rfl
noncomputable def n_15_10 : e_Y := u_tab (o_throw 1)
theorem t_15_10 : e_Sn 15 10 (e_un n_15_10) := u_tabT (s_throw (ik := 104) (is := 113) (ic := 108) (X := "java/lang/IllegalStateException") (text := "the program is empty") hq_15 ho_15 hy_15 hc_15 rfl (by decide +kernel) e_wok1 (by simp [e_sr]) (by decide +kernel) (by decide +kernel) (.inl ⟨(by decide +kernel), (by decide +kernel), (by decide +kernel)⟩) : e_Sn 15 10 (o_throw 1))
noncomputable def n_15_7 : e_Y := u_if y_le0 (u_old2 (o_ifgt 20 10) 20 (u_at 20) n_15_10) (u_at 20) n_15_10
theorem t_15_7 : e_Sn 15 7 (e_un n_15_7) := u_ifgtT rfl (s_ifgt (off := (13)) hq_15 (by decide +kernel) rfl rfl : e_Sn 15 7 (o_ifgt 20 10)) u_atT t_15_10
noncomputable def n_15_4 : e_Y := u_getf 1 3 (u_old (o_getf (e_f1 1 3) 7) n_15_7) n_15_7
theorem t_15_4 : e_Sn 15 4 (e_un n_15_4) := u_getfT (s_getf (C := er_1) (T := et_1) (N := 4) (ref := "Plateroomprinter$Code") (index := 101) (ci := 1) (k := 3) hq_15 ho_15 ⟨rfl, by decide, ei_1, (List.mem_of_getElem? (i := 204) (by decide +kernel)), .inl rfl⟩ (by decide +kernel) rfl : e_Sn 15 4 (o_getf (e_f1 1 3) 7)) t_15_7
noncomputable def n_15_1 : e_Y := u_getf 0 0 (u_old (o_getf (e_f1 0 0) 4) n_15_4) n_15_4
theorem t_15_1 : e_Sn 15 1 (e_un n_15_1) := u_getfT (s_getf (C := er_0) (T := et_0) (N := 17) (ref := "Plateroomprinter") (index := 10) (ci := 0) (k := 0) hq_15 ho_15 ⟨rfl, by decide, ei_0, (List.mem_of_getElem? (i := 680) (by decide +kernel)), .inl rfl⟩ (by decide +kernel) rfl : e_Sn 15 1 (o_getf (e_f1 0 0) 4)) t_15_4
noncomputable def n_15_0 : e_Y := u_ld f_okA f_l0 n_15_1
theorem t_15_0 : e_Sn 15 0 (e_un n_15_0) := u_ldAT f_l0_eq (s_aload (i := .aload_n 0) (len := 1) hq_15 (by decide +kernel) rfl (.inr ⟨0, rfl, rfl, rfl⟩) : e_Sn 15 0 (o_load e_okR 0 1)) t_15_1
noncomputable def e_tb_15 : e_X := (e_lf 0 (e_un n_15_0))
theorem e_tk_15 : e_Tb 15 e_tb_15 := (e_lfT t_15_0)
theorem hq_17 : (e_ml[17]?).map (·.2.1) = some prog_1_method_39_code := rfl
theorem ho_17 : (e_ml[17]?).map (·.1.cls) = some "Plateroomprinter" := rfl
theorem hr_17 : (e_ml[17]?).map (·.2.2.2) = some (some .int) := rfl
noncomputable def n_17_18 : e_Y := u_tab (o_throw 2)
theorem t_17_18 : e_Sn 17 18 (e_un n_17_18) := u_tabT (s_throw (ik := 175) (is := 393) (ic := 179) (X := "java/lang/IndexOutOfBoundsException") (text := "no such figure") hq_17 ho_17 hy_17 hc_17 rfl (by decide +kernel) e_wok2 (by simp [e_sr]) (by decide +kernel) (by decide +kernel) (.inr ⟨(by decide +kernel), (by decide +kernel), (by decide +kernel)⟩) : e_Sn 17 18 (o_throw 2))
noncomputable def n_17_15 : e_Y := u_jmp y_ge (u_old2 (o_clt 29 18) 29 (u_at 29) n_17_18) (u_at 29) n_17_18
theorem t_17_15 : e_Sn 17 15 (e_un n_17_15) := u_cltT rfl (s_clt (off := (14)) hq_17 (by decide +kernel) rfl rfl : e_Sn 17 15 (o_clt 29 18)) u_atT t_17_18
noncomputable def n_17_12 : e_Y := u_getf 3 4 (u_old (o_getf (e_f1 3 4) 15) n_17_15) n_17_15
theorem t_17_12 : e_Sn 17 12 (e_un n_17_12) := u_getfT (s_getf (C := er_3) (T := et_3) (N := 5) (ref := "Plateroomprinter$Figures") (index := 390) (ci := 3) (k := 4) hq_17 ho_17 ⟨rfl, by decide, ei_3, (List.mem_of_getElem? (i := 403) (by decide +kernel)), .inl rfl⟩ (by decide +kernel) rfl : e_Sn 17 12 (o_getf (e_f1 3 4) 15)) t_17_15
noncomputable def n_17_9 : e_Y := u_getf 11 9 (u_old (o_getf (e_f1 11 9) 12) n_17_12) n_17_12
theorem t_17_9 : e_Sn 17 9 (e_un n_17_9) := u_getfT (s_getf (C := er_11) (T := et_11) (N := 15) (ref := "Plateroomprinter$World") (index := 386) (ci := 11) (k := 9) hq_17 ho_17 ⟨rfl, by decide, ei_11, (List.mem_of_getElem? (i := 487) (by decide +kernel)), .inl rfl⟩ (by decide +kernel) rfl : e_Sn 17 9 (o_getf (e_f1 11 9) 12)) t_17_12
noncomputable def n_17_6 : e_Y := u_getf 0 1 (u_old (o_getf (e_f1 0 1) 9) n_17_9) n_17_9
theorem t_17_6 : e_Sn 17 6 (e_un n_17_6) := u_getfT (s_getf (C := er_0) (T := et_0) (N := 17) (ref := "Plateroomprinter") (index := 19) (ci := 0) (k := 1) hq_17 ho_17 ⟨rfl, by decide, ei_0, (List.mem_of_getElem? (i := 681) (by decide +kernel)), .inl rfl⟩ (by decide +kernel) rfl : e_Sn 17 6 (o_getf (e_f1 0 1) 9)) t_17_9
noncomputable def n_17_5 : e_Y := u_ld f_okA f_l0 n_17_6
theorem t_17_5 : e_Sn 17 5 (e_un n_17_5) := u_ldAT f_l0_eq (s_aload (i := .aload_n 0) (len := 1) hq_17 (by decide +kernel) rfl (.inr ⟨0, rfl, rfl, rfl⟩) : e_Sn 17 5 (o_load e_okR 0 6)) t_17_6
noncomputable def n_17_4 : e_Y := u_ld f_okI f_l1 n_17_5
theorem t_17_4 : e_Sn 17 4 (e_un n_17_4) := u_ldIT f_l1_eq (s_iload (i := .iload_n 1) (len := 1) hq_17 (by decide +kernel) rfl (.inr ⟨1, rfl, rfl, rfl⟩) : e_Sn 17 4 (o_load e_okI 1 5)) t_17_5
noncomputable def n_17_1 : e_Y := u_if y_ge0 (u_old2 (o_iflt 18 4) 18 n_17_18 n_17_4) n_17_18 n_17_4
theorem t_17_1 : e_Sn 17 1 (e_un n_17_1) := u_ifltT rfl (s_iflt (off := (17)) hq_17 (by decide +kernel) rfl rfl : e_Sn 17 1 (o_iflt 18 4)) t_17_18 t_17_4
noncomputable def n_17_0 : e_Y := u_ld f_okI f_l1 n_17_1
theorem t_17_0 : e_Sn 17 0 (e_un n_17_0) := u_ldIT f_l1_eq (s_iload (i := .iload_n 1) (len := 1) hq_17 (by decide +kernel) rfl (.inr ⟨1, rfl, rfl, rfl⟩) : e_Sn 17 0 (o_load e_okI 1 1)) t_17_1
noncomputable def e_tb_17 : e_X := (e_lf 0 (e_un n_17_0))
theorem e_tk_17 : e_Tb 17 e_tb_17 := (e_lfT t_17_0)
theorem hq_50 : (e_ml[50]?).map (·.2.1) = some prog_1_method_9_code := rfl
theorem ho_50 : (e_ml[50]?).map (·.1.cls) = some "Plateroomprinter" := rfl
theorem hr_50 : (e_ml[50]?).map (·.2.2.2) = some none := rfl
noncomputable def n_50_15 : e_Y := u_tab (o_retv)
theorem t_50_15 : e_Sn 50 15 (e_un n_50_15) := u_tabT (s_vret hq_50 hr_50 (by decide +kernel) : e_Sn 50 15 (o_retv))
noncomputable def n_50_12 : e_Y := u_old (o_putf (e_f1 0 16) e_okI 15) n_50_15
theorem t_50_12 : e_Sn 50 12 (e_un n_50_12) := u_oldT (s_putf (ty0 := ey_0) (ok := e_okI) (C := er_0) (T := et_0) (N := 17) (ref := "Plateroomprinter") (index := 87) (ci := 0) (k := 16) hq_50 ho_50 ⟨rfl, by decide, ei_0, (List.mem_of_getElem? (i := 696) (by decide +kernel)), .inl rfl⟩ eo_0 en_0 e_oksI (.inl rfl) (by decide +kernel) rfl : e_Sn 50 12 (o_putf (e_f1 0 16) e_okI 15)) t_50_15 (e_cg_putf (e_f1 0 16) e_okI)
noncomputable def n_50_11 : e_Y := u_ld f_okI f_l3 n_50_12
theorem t_50_11 : e_Sn 50 11 (e_un n_50_11) := u_ldIT f_l3_eq (s_iload (i := .iload_n 3) (len := 1) hq_50 (by decide +kernel) rfl (.inr ⟨3, rfl, rfl, rfl⟩) : e_Sn 50 11 (o_load e_okI 3 12)) t_50_12
noncomputable def n_50_10 : e_Y := u_ld f_okA f_l0 n_50_11
theorem t_50_10 : e_Sn 50 10 (e_un n_50_10) := u_ldAT f_l0_eq (s_aload (i := .aload_n 0) (len := 1) hq_50 (by decide +kernel) rfl (.inr ⟨0, rfl, rfl, rfl⟩) : e_Sn 50 10 (o_load e_okR 0 11)) t_50_11
noncomputable def n_50_7 : e_Y := u_old (o_putf (e_f1 0 15) e_okI 10) n_50_10
theorem t_50_7 : e_Sn 50 7 (e_un n_50_7) := u_oldT (s_putf (ty0 := ey_0) (ok := e_okI) (C := er_0) (T := et_0) (N := 17) (ref := "Plateroomprinter") (index := 84) (ci := 0) (k := 15) hq_50 ho_50 ⟨rfl, by decide, ei_0, (List.mem_of_getElem? (i := 695) (by decide +kernel)), .inl rfl⟩ eo_0 en_0 e_oksI (.inl rfl) (by decide +kernel) rfl : e_Sn 50 7 (o_putf (e_f1 0 15) e_okI 10)) t_50_10 (e_cg_putf (e_f1 0 15) e_okI)
noncomputable def n_50_6 : e_Y := u_ld f_okI f_l2 n_50_7
theorem t_50_6 : e_Sn 50 6 (e_un n_50_6) := u_ldIT f_l2_eq (s_iload (i := .iload_n 2) (len := 1) hq_50 (by decide +kernel) rfl (.inr ⟨2, rfl, rfl, rfl⟩) : e_Sn 50 6 (o_load e_okI 2 7)) t_50_7
noncomputable def n_50_5 : e_Y := u_ld f_okA f_l0 n_50_6
theorem t_50_5 : e_Sn 50 5 (e_un n_50_5) := u_ldAT f_l0_eq (s_aload (i := .aload_n 0) (len := 1) hq_50 (by decide +kernel) rfl (.inr ⟨0, rfl, rfl, rfl⟩) : e_Sn 50 5 (o_load e_okR 0 6)) t_50_6
noncomputable def n_50_2 : e_Y := u_old (o_putf (e_f1 0 14) e_okI 5) n_50_5
theorem t_50_2 : e_Sn 50 2 (e_un n_50_2) := u_oldT (s_putf (ty0 := ey_0) (ok := e_okI) (C := er_0) (T := et_0) (N := 17) (ref := "Plateroomprinter") (index := 81) (ci := 0) (k := 14) hq_50 ho_50 ⟨rfl, by decide, ei_0, (List.mem_of_getElem? (i := 694) (by decide +kernel)), .inl rfl⟩ eo_0 en_0 e_oksI (.inl rfl) (by decide +kernel) rfl : e_Sn 50 2 (o_putf (e_f1 0 14) e_okI 5)) t_50_5 (e_cg_putf (e_f1 0 14) e_okI)
noncomputable def n_50_1 : e_Y := u_ld f_okI f_l1 n_50_2
theorem t_50_1 : e_Sn 50 1 (e_un n_50_1) := u_ldIT f_l1_eq (s_iload (i := .iload_n 1) (len := 1) hq_50 (by decide +kernel) rfl (.inr ⟨1, rfl, rfl, rfl⟩) : e_Sn 50 1 (o_load e_okI 1 2)) t_50_2
noncomputable def n_50_0 : e_Y := u_ld f_okA f_l0 n_50_1
theorem t_50_0 : e_Sn 50 0 (e_un n_50_0) := u_ldAT f_l0_eq (s_aload (i := .aload_n 0) (len := 1) hq_50 (by decide +kernel) rfl (.inr ⟨0, rfl, rfl, rfl⟩) : e_Sn 50 0 (o_load e_okR 0 1)) t_50_1
noncomputable def e_tb_50 : e_X := (e_lf 0 (e_un n_50_0))
theorem e_tk_50 : e_Tb 50 e_tb_50 := (e_lfT t_50_0)
theorem hq_21 : (e_ml[21]?).map (·.2.1) = some prog_1_method_7_code := rfl
theorem ho_21 : (e_ml[21]?).map (·.1.cls) = some "Plateroomprinter" := rfl
theorem hr_21 : (e_ml[21]?).map (·.2.2.2) = some (some .int) := rfl
noncomputable def n_21_23 : e_Y := u_retI
theorem t_21_23 : e_Sn 21 23 (e_un n_21_23) := u_retIT (s_iret hq_21 hr_21 (by decide +kernel) : e_Sn 21 23 (o_ret e_okI))
noncomputable def n_21_22 : e_Y := u_ld f_okI f_l1 n_21_23
theorem t_21_22 : e_Sn 21 22 (e_un n_21_22) := u_ldIT f_l1_eq (s_iload (i := .iload_n 1) (len := 1) hq_21 (by decide +kernel) rfl (.inr ⟨1, rfl, rfl, rfl⟩) : e_Sn 21 22 (o_load e_okI 1 23)) t_21_23
noncomputable def n_21_19 : e_Y := u_callV 0 50 4 23 4 n_50_0 n_21_22
theorem t_21_19 : e_Sn 21 19 (e_un n_21_19) := u_callVT rfl (s_callV (ci := 0) (C := er_0) (T := et_0) (N := 17) (index := 159) hq_21 ho_21 hy_50 hp_50 hc_50 hi_50 hd_50 (List.mem_of_getElem? (i := 1225) (by decide +kernel)) hs_50 (List.mem_of_getElem? (i := 52) (by decide +kernel)) rfl (by decide +kernel) rfl : e_Sn 21 19 (o_callV (e_s1 0 50 4) 4 22)) t_50_0 t_21_22
noncomputable def n_21_18 : e_Y := u_push (.inl 2147483647) n_21_19
theorem t_21_18 : e_Sn 21 18 (e_un n_21_18) := u_pushT (s_iconst (n := (-1)) hq_21 (by decide +kernel) rfl ⟨by decide +kernel, by decide +kernel⟩ : e_Sn 21 18 (o_push (.inl 2147483647) 19)) t_21_19
noncomputable def n_21_17 : e_Y := u_push (.inl 2147483647) n_21_18
theorem t_21_17 : e_Sn 21 17 (e_un n_21_17) := u_pushT (s_iconst (n := (-1)) hq_21 (by decide +kernel) rfl ⟨by decide +kernel, by decide +kernel⟩ : e_Sn 21 17 (o_push (.inl 2147483647) 18)) t_21_18
noncomputable def n_21_16 : e_Y := u_push (.inl 2147483648) n_21_17
theorem t_21_16 : e_Sn 21 16 (e_un n_21_16) := u_pushT (s_iconst (n := (0)) hq_21 (by decide +kernel) rfl ⟨by decide +kernel, by decide +kernel⟩ : e_Sn 21 16 (o_push (.inl 2147483648) 17)) t_21_17
noncomputable def n_21_15 : e_Y := u_ld f_okA f_l0 n_21_16
theorem t_21_15 : e_Sn 21 15 (e_un n_21_15) := u_ldAT f_l0_eq (s_aload (i := .aload_n 0) (len := 1) hq_21 (by decide +kernel) rfl (.inr ⟨0, rfl, rfl, rfl⟩) : e_Sn 21 15 (o_load e_okR 0 16)) t_21_16
noncomputable def n_21_12 : e_Y := u_callV 11 102 2 21 1 n_102_0 n_21_15
theorem t_21_12 : e_Sn 21 12 (e_un n_21_12) := u_callVT rfl (s_callV (ci := 11) (C := er_11) (T := et_11) (N := 15) (index := 172) hq_21 ho_21 hy_102 hp_102 hc_102 hi_102 hd_102 (List.mem_of_getElem? (i := 1241) (by decide +kernel)) hs_102 (List.mem_of_getElem? (i := 418) (by decide +kernel)) rfl (by decide +kernel) rfl : e_Sn 21 12 (o_callV (e_s1 11 102 2) 1 15)) t_102_0 t_21_15
noncomputable def n_21_9 : e_Y := u_getf 0 1 (u_old (o_getf (e_f1 0 1) 12) n_21_12) n_21_12
theorem t_21_9 : e_Sn 21 9 (e_un n_21_9) := u_getfT (s_getf (C := er_0) (T := et_0) (N := 17) (ref := "Plateroomprinter") (index := 19) (ci := 0) (k := 1) hq_21 ho_21 ⟨rfl, by decide, ei_0, (List.mem_of_getElem? (i := 681) (by decide +kernel)), .inl rfl⟩ (by decide +kernel) rfl : e_Sn 21 9 (o_getf (e_f1 0 1) 12)) t_21_12
noncomputable def n_21_8 : e_Y := u_ld f_okA f_l0 n_21_9
theorem t_21_8 : e_Sn 21 8 (e_un n_21_8) := u_ldAT f_l0_eq (s_aload (i := .aload_n 0) (len := 1) hq_21 (by decide +kernel) rfl (.inr ⟨0, rfl, rfl, rfl⟩) : e_Sn 21 8 (o_load e_okR 0 9)) t_21_9
noncomputable def n_21_7 : e_Y := u_st f_okI f_s1 n_21_8
theorem t_21_7 : e_Sn 21 7 (e_un n_21_7) := u_stIT (fun _ _ _ => f_s1_eq) (s_istore (i := .istore_n 1) (len := 1) hq_21 (by decide +kernel) rfl (.inr ⟨1, rfl, rfl, rfl⟩) : e_Sn 21 7 (o_store e_okI 1 8)) t_21_8
noncomputable def n_21_4 : e_Y := u_getf 11 10 (u_old (o_getf (e_f1 11 10) 7) n_21_7) n_21_7
theorem t_21_4 : e_Sn 21 4 (e_un n_21_4) := u_getfT (s_getf (C := er_11) (T := et_11) (N := 15) (ref := "Plateroomprinter$World") (index := 169) (ci := 11) (k := 10) hq_21 ho_21 ⟨rfl, by decide, ei_11, (List.mem_of_getElem? (i := 489) (by decide +kernel)), .inl rfl⟩ (by decide +kernel) rfl : e_Sn 21 4 (o_getf (e_f1 11 10) 7)) t_21_7
noncomputable def n_21_1 : e_Y := u_getf 0 1 (u_old (o_getf (e_f1 0 1) 4) n_21_4) n_21_4
theorem t_21_1 : e_Sn 21 1 (e_un n_21_1) := u_getfT (s_getf (C := er_0) (T := et_0) (N := 17) (ref := "Plateroomprinter") (index := 19) (ci := 0) (k := 1) hq_21 ho_21 ⟨rfl, by decide, ei_0, (List.mem_of_getElem? (i := 681) (by decide +kernel)), .inl rfl⟩ (by decide +kernel) rfl : e_Sn 21 1 (o_getf (e_f1 0 1) 4)) t_21_4
noncomputable def n_21_0 : e_Y := u_ld f_okA f_l0 n_21_1
theorem t_21_0 : e_Sn 21 0 (e_un n_21_0) := u_ldAT f_l0_eq (s_aload (i := .aload_n 0) (len := 1) hq_21 (by decide +kernel) rfl (.inr ⟨0, rfl, rfl, rfl⟩) : e_Sn 21 0 (o_load e_okR 0 1)) t_21_1
noncomputable def e_tb_21 : e_X := (e_lf 0 (e_un n_21_0))
theorem e_tk_21 : e_Tb 21 e_tb_21 := (e_lfT t_21_0)
theorem hq_22 : (e_ml[22]?).map (·.2.1) = some prog_1_method_28_code := rfl
theorem ho_22 : (e_ml[22]?).map (·.1.cls) = some "Plateroomprinter" := rfl
theorem hr_22 : (e_ml[22]?).map (·.2.2.2) = some (some .int) := rfl
noncomputable def n_22_25 : e_Y := u_tab (o_throw 2)
theorem t_22_25 : e_Sn 22 25 (e_un n_22_25) := u_tabT (s_throw (ik := 175) (is := 291) (ic := 179) (X := "java/lang/IndexOutOfBoundsException") (text := "no such ring") hq_22 ho_22 hy_22 hc_22 rfl (by decide +kernel) e_wok2 (by simp [e_sr]) (by decide +kernel) (by decide +kernel) (.inr ⟨(by decide +kernel), (by decide +kernel), (by decide +kernel)⟩) : e_Sn 22 25 (o_throw 2))
noncomputable def n_22_22 : e_Y := u_jmp y_ge (u_old2 (o_clt 36 25) 36 (u_at 36) n_22_25) (u_at 36) n_22_25
theorem t_22_22 : e_Sn 22 22 (e_un n_22_22) := u_cltT rfl (s_clt (off := (14)) hq_22 (by decide +kernel) rfl rfl : e_Sn 22 22 (o_clt 36 25)) u_atT t_22_25
noncomputable def n_22_19 : e_Y := u_getf 7 4 (u_old (o_getf (e_f1 7 4) 22) n_22_22) n_22_22
theorem t_22_19 : e_Sn 22 19 (e_un n_22_19) := u_getfT (s_getf (C := er_7) (T := et_7) (N := 6) (ref := "Plateroomprinter$Path") (index := 254) (ci := 7) (k := 4) hq_22 ho_22 ⟨rfl, by decide, ei_7, (List.mem_of_getElem? (i := 298) (by decide +kernel)), .inl rfl⟩ (by decide +kernel) rfl : e_Sn 22 19 (o_getf (e_f1 7 4) 22)) t_22_22
noncomputable def n_22_17 : e_Y := u_ld f_okA f_l5 n_22_19
theorem t_22_17 : e_Sn 22 17 (e_un n_22_17) := u_ldAT f_l5_eq (s_aload (i := .aload 5) (len := 2) hq_22 (by decide +kernel) rfl (.inl ⟨rfl, rfl⟩) : e_Sn 22 17 (o_load e_okR 5 19)) t_22_19
noncomputable def n_22_16 : e_Y := u_ld f_okI f_l1 n_22_17
theorem t_22_16 : e_Sn 22 16 (e_un n_22_16) := u_ldIT f_l1_eq (s_iload (i := .iload_n 1) (len := 1) hq_22 (by decide +kernel) rfl (.inr ⟨1, rfl, rfl, rfl⟩) : e_Sn 22 16 (o_load e_okI 1 17)) t_22_17
noncomputable def n_22_13 : e_Y := u_if y_ge0 (u_old2 (o_iflt 25 16) 25 n_22_25 n_22_16) n_22_25 n_22_16
theorem t_22_13 : e_Sn 22 13 (e_un n_22_13) := u_ifltT rfl (s_iflt (off := (12)) hq_22 (by decide +kernel) rfl rfl : e_Sn 22 13 (o_iflt 25 16)) t_22_25 t_22_16
noncomputable def n_22_12 : e_Y := u_ld f_okI f_l1 n_22_13
theorem t_22_12 : e_Sn 22 12 (e_un n_22_12) := u_ldIT f_l1_eq (s_iload (i := .iload_n 1) (len := 1) hq_22 (by decide +kernel) rfl (.inr ⟨1, rfl, rfl, rfl⟩) : e_Sn 22 12 (o_load e_okI 1 13)) t_22_13
noncomputable def n_22_10 : e_Y := u_st f_okA f_s5 n_22_12
theorem t_22_10 : e_Sn 22 10 (e_un n_22_10) := u_stAT (fun _ _ _ => f_s5_eq) (s_astore (i := .astore 5) (len := 2) hq_22 (by decide +kernel) rfl (.inl ⟨rfl, rfl⟩) : e_Sn 22 10 (o_store e_okR 5 12)) t_22_12
noncomputable def n_22_7 : e_Y := u_getf 10 1 (u_old (o_getf (e_f1 10 1) 10) n_22_10) n_22_10
theorem t_22_7 : e_Sn 22 7 (e_un n_22_7) := u_getfT (s_getf (C := er_10) (T := et_10) (N := 11) (ref := "Plateroomprinter$State") (index := 250) (ci := 10) (k := 1) hq_22 ho_22 ⟨rfl, by decide, ei_10, (List.mem_of_getElem? (i := 321) (by decide +kernel)), .inl rfl⟩ (by decide +kernel) rfl : e_Sn 22 7 (o_getf (e_f1 10 1) 10)) t_22_10
noncomputable def n_22_4 : e_Y := u_getf 11 2 (u_old (o_getf (e_f1 11 2) 7) n_22_7) n_22_7
theorem t_22_4 : e_Sn 22 4 (e_un n_22_4) := u_getfT (s_getf (C := er_11) (T := et_11) (N := 15) (ref := "Plateroomprinter$World") (index := 221) (ci := 11) (k := 2) hq_22 ho_22 ⟨rfl, by decide, ei_11, (List.mem_of_getElem? (i := 467) (by decide +kernel)), .inl rfl⟩ (by decide +kernel) rfl : e_Sn 22 4 (o_getf (e_f1 11 2) 7)) t_22_7
noncomputable def n_22_1 : e_Y := u_getf 0 1 (u_old (o_getf (e_f1 0 1) 4) n_22_4) n_22_4
theorem t_22_1 : e_Sn 22 1 (e_un n_22_1) := u_getfT (s_getf (C := er_0) (T := et_0) (N := 17) (ref := "Plateroomprinter") (index := 19) (ci := 0) (k := 1) hq_22 ho_22 ⟨rfl, by decide, ei_0, (List.mem_of_getElem? (i := 681) (by decide +kernel)), .inl rfl⟩ (by decide +kernel) rfl : e_Sn 22 1 (o_getf (e_f1 0 1) 4)) t_22_4
noncomputable def n_22_0 : e_Y := u_ld f_okA f_l0 n_22_1
theorem t_22_0 : e_Sn 22 0 (e_un n_22_0) := u_ldAT f_l0_eq (s_aload (i := .aload_n 0) (len := 1) hq_22 (by decide +kernel) rfl (.inr ⟨0, rfl, rfl, rfl⟩) : e_Sn 22 0 (o_load e_okR 0 1)) t_22_1
noncomputable def e_tb_22 : e_X := (e_lf 0 (e_un n_22_0))
theorem e_tk_22 : e_Tb 22 e_tb_22 := (e_lfT t_22_0)
theorem hq_24 : (e_ml[24]?).map (·.2.1) = some prog_1_method_24_code := rfl
theorem ho_24 : (e_ml[24]?).map (·.1.cls) = some "Plateroomprinter" := rfl
theorem hr_24 : (e_ml[24]?).map (·.2.2.2) = some (some .boolean) := rfl
noncomputable def n_24_57 : e_Y := u_tab (o_ret e_okZ)
theorem t_24_57 : e_Sn 24 57 (e_un n_24_57) := u_tabT (s_zret hq_24 hr_24 (by decide +kernel) : e_Sn 24 57 (o_ret e_okZ))
noncomputable def n_24_54 : e_Y := u_callS 28 3 22 3 n_28_0 n_24_57
theorem t_24_54 : e_Sn 24 54 (e_un n_24_54) := u_callST rfl (s_callS (index := 334) hq_24 ho_24 hy_28 hp_28 hc_28 hi_28 hd_28 (List.mem_of_getElem? (i := 1374) (by decide +kernel)) hs_28 (by decide +kernel) rfl : e_Sn 24 54 (o_callS 28 3 3 57)) t_28_0 t_24_57
noncomputable def n_24_53 : e_Y := u_ld f_okI f_l2 n_24_54
theorem t_24_53 : e_Sn 24 53 (e_un n_24_53) := u_ldIT f_l2_eq (s_iload (i := .iload_n 2) (len := 1) hq_24 (by decide +kernel) rfl (.inr ⟨2, rfl, rfl, rfl⟩) : e_Sn 24 53 (o_load e_okI 2 54)) t_24_54
noncomputable def n_24_52 : e_Y := u_ld f_okI f_l1 n_24_53
theorem t_24_52 : e_Sn 24 52 (e_un n_24_52) := u_ldIT f_l1_eq (s_iload (i := .iload_n 1) (len := 1) hq_24 (by decide +kernel) rfl (.inr ⟨1, rfl, rfl, rfl⟩) : e_Sn 24 52 (o_load e_okI 1 53)) t_24_53
noncomputable def n_24_49 : e_Y := u_getf 0 7 (u_old (o_getf (e_f1 0 7) 52) n_24_52) n_24_52
theorem t_24_49 : e_Sn 24 49 (e_un n_24_49) := u_getfT (s_getf (C := er_0) (T := et_0) (N := 17) (ref := "Plateroomprinter") (index := 58) (ci := 0) (k := 7) hq_24 ho_24 ⟨rfl, by decide, ei_0, (List.mem_of_getElem? (i := 687) (by decide +kernel)), .inl rfl⟩ (by decide +kernel) rfl : e_Sn 24 49 (o_getf (e_f1 0 7) 52)) t_24_52
noncomputable def n_24_48 : e_Y := u_ld f_okA f_l0 n_24_49
theorem t_24_48 : e_Sn 24 48 (e_un n_24_48) := u_ldAT f_l0_eq (s_aload (i := .aload_n 0) (len := 1) hq_24 (by decide +kernel) rfl (.inr ⟨0, rfl, rfl, rfl⟩) : e_Sn 24 48 (o_load e_okR 0 49)) t_24_49
noncomputable def n_24_45 : e_Y := u_callV 0 19 5 24 5 n_19_0 n_24_48
theorem t_24_45 : e_Sn 24 45 (e_un n_24_45) := u_callVT rfl (s_callV (ci := 0) (C := er_0) (T := et_0) (N := 17) (index := 330) hq_24 ho_24 hy_19 hp_19 hc_19 hi_19 hd_19 (List.mem_of_getElem? (i := 1363) (by decide +kernel)) hs_19 (List.mem_of_getElem? (i := 55) (by decide +kernel)) rfl (by decide +kernel) rfl : e_Sn 24 45 (o_callV (e_s1 0 19 5) 5 48)) t_19_0 t_24_48
noncomputable def n_24_42 : e_Y := u_getf 0 7 (u_old (o_getf (e_f1 0 7) 45) n_24_45) n_24_45
theorem t_24_42 : e_Sn 24 42 (e_un n_24_42) := u_getfT (s_getf (C := er_0) (T := et_0) (N := 17) (ref := "Plateroomprinter") (index := 58) (ci := 0) (k := 7) hq_24 ho_24 ⟨rfl, by decide, ei_0, (List.mem_of_getElem? (i := 687) (by decide +kernel)), .inl rfl⟩ (by decide +kernel) rfl : e_Sn 24 42 (o_getf (e_f1 0 7) 45)) t_24_45
noncomputable def n_24_41 : e_Y := u_ld f_okA f_l0 n_24_42
theorem t_24_41 : e_Sn 24 41 (e_un n_24_41) := u_ldAT f_l0_eq (s_aload (i := .aload_n 0) (len := 1) hq_24 (by decide +kernel) rfl (.inr ⟨0, rfl, rfl, rfl⟩) : e_Sn 24 41 (o_load e_okR 0 42)) t_24_42
noncomputable def n_24_40 : e_Y := u_ld f_okI f_l3 n_24_41
theorem t_24_40 : e_Sn 24 40 (e_un n_24_40) := u_ldIT f_l3_eq (s_iload (i := .iload_n 3) (len := 1) hq_24 (by decide +kernel) rfl (.inr ⟨3, rfl, rfl, rfl⟩) : e_Sn 24 40 (o_load e_okI 3 41)) t_24_41
noncomputable def n_24_39 : e_Y := u_push (.inl 2147483648) n_24_40
theorem t_24_39 : e_Sn 24 39 (e_un n_24_39) := u_pushT (s_iconst (n := (0)) hq_24 (by decide +kernel) rfl ⟨by decide +kernel, by decide +kernel⟩ : e_Sn 24 39 (o_push (.inl 2147483648) 40)) t_24_40
noncomputable def n_24_38 : e_Y := u_push (.inl 2147483648) n_24_39
theorem t_24_38 : e_Sn 24 38 (e_un n_24_38) := u_pushT (s_iconst (n := (0)) hq_24 (by decide +kernel) rfl ⟨by decide +kernel, by decide +kernel⟩ : e_Sn 24 38 (o_push (.inl 2147483648) 39)) t_24_39
noncomputable def n_24_37 : e_Y := u_ld f_okA f_l0 n_24_38
theorem t_24_37 : e_Sn 24 37 (e_un n_24_37) := u_ldAT f_l0_eq (s_aload (i := .aload_n 0) (len := 1) hq_24 (by decide +kernel) rfl (.inr ⟨0, rfl, rfl, rfl⟩) : e_Sn 24 37 (o_load e_okR 0 38)) t_24_38
noncomputable def n_24_26 : e_Y := u_tab (o_throw 0)
theorem t_24_26 : e_Sn 24 26 (e_un n_24_26) := u_tabT (s_throw (ik := 94) (is := 328) (ic := 98) (X := "java/lang/IllegalArgumentException") (text := "rule is 0 or 1") hq_24 ho_24 hy_24 hc_24 rfl (by decide +kernel) e_wok0 (by simp [e_sr]) (by decide +kernel) (by decide +kernel) (.inr ⟨(by decide +kernel), (by decide +kernel), (by decide +kernel)⟩) : e_Sn 24 26 (o_throw 0))
noncomputable def n_24_23 : e_Y := u_if y_ne0 (u_old2 (o_ifeq 26 37) 26 n_24_26 n_24_37) n_24_26 n_24_37
theorem t_24_23 : e_Sn 24 23 (e_un n_24_23) := u_ifeqT rfl (s_ifne (off := (14)) hq_24 (by decide +kernel) rfl rfl : e_Sn 24 23 (o_ifeq 26 37)) t_24_26 t_24_37
noncomputable def n_24_20 : e_Y := u_callS 27 1 20 1 n_27_0 n_24_23
theorem t_24_20 : e_Sn 24 20 (e_un n_24_20) := u_callST rfl (s_callS (index := 324) hq_24 ho_24 hy_27 hp_27 hc_27 hi_27 hd_27 (List.mem_of_getElem? (i := 1291) (by decide +kernel)) hs_27 (by decide +kernel) rfl : e_Sn 24 20 (o_callS 27 1 1 23)) t_27_0 t_24_23
noncomputable def n_24_19 : e_Y := u_ld f_okI f_l3 n_24_20
theorem t_24_19 : e_Sn 24 19 (e_un n_24_19) := u_ldIT f_l3_eq (s_iload (i := .iload_n 3) (len := 1) hq_24 (by decide +kernel) rfl (.inr ⟨3, rfl, rfl, rfl⟩) : e_Sn 24 19 (o_load e_okI 3 20)) t_24_20
noncomputable def n_24_8 : e_Y := u_tab (o_throw 2)
theorem t_24_8 : e_Sn 24 8 (e_un n_24_8) := u_tabT (s_throw (ik := 175) (is := 322) (ic := 179) (X := "java/lang/IndexOutOfBoundsException") (text := "no such dot") hq_24 ho_24 hy_24 hc_24 rfl (by decide +kernel) e_wok2 (by simp [e_sr]) (by decide +kernel) (by decide +kernel) (.inr ⟨(by decide +kernel), (by decide +kernel), (by decide +kernel)⟩) : e_Sn 24 8 (o_throw 2))
noncomputable def n_24_5 : e_Y := u_if y_ne0 (u_old2 (o_ifeq 8 19) 8 n_24_8 n_24_19) n_24_8 n_24_19
theorem t_24_5 : e_Sn 24 5 (e_un n_24_5) := u_ifeqT rfl (s_ifne (off := (14)) hq_24 (by decide +kernel) rfl rfl : e_Sn 24 5 (o_ifeq 8 19)) t_24_8 t_24_19
noncomputable def n_24_2 : e_Y := u_callS 26 2 21 2 n_26_0 n_24_5
theorem t_24_2 : e_Sn 24 2 (e_un n_24_2) := u_callST rfl (s_callS (index := 319) hq_24 ho_24 hy_26 hp_26 hc_26 hi_26 hd_26 (List.mem_of_getElem? (i := 1371) (by decide +kernel)) hs_26 (by decide +kernel) rfl : e_Sn 24 2 (o_callS 26 2 2 5)) t_26_0 t_24_5
noncomputable def n_24_1 : e_Y := u_ld f_okI f_l2 n_24_2
theorem t_24_1 : e_Sn 24 1 (e_un n_24_1) := u_ldIT f_l2_eq (s_iload (i := .iload_n 2) (len := 1) hq_24 (by decide +kernel) rfl (.inr ⟨2, rfl, rfl, rfl⟩) : e_Sn 24 1 (o_load e_okI 2 2)) t_24_2
noncomputable def n_24_0 : e_Y := u_ld f_okI f_l1 n_24_1
theorem t_24_0 : e_Sn 24 0 (e_un n_24_0) := u_ldIT f_l1_eq (s_iload (i := .iload_n 1) (len := 1) hq_24 (by decide +kernel) rfl (.inr ⟨1, rfl, rfl, rfl⟩) : e_Sn 24 0 (o_load e_okI 1 1)) t_24_1
noncomputable def e_tb_24 : e_X := (e_lf 0 (e_un n_24_0))
theorem e_tk_24 : e_Tb 24 e_tb_24 := (e_lfT t_24_0)
theorem hq_30 : (e_ml[30]?).map (·.2.1) = some prog_1_method_10_code := rfl
theorem ho_30 : (e_ml[30]?).map (·.1.cls) = some "Plateroomprinter" := rfl
theorem hr_30 : (e_ml[30]?).map (·.2.2.2) = some (some .boolean) := rfl
noncomputable def n_30_103 : e_Y := u_tab (o_ret e_okZ)
theorem t_30_103 : e_Sn 30 103 (e_un n_30_103) := u_tabT (s_zret hq_30 hr_30 (by decide +kernel) : e_Sn 30 103 (o_ret e_okZ))
noncomputable def n_30_102 : e_Y := u_push (.inl 2147483648) n_30_103
theorem t_30_102 : e_Sn 30 102 (e_un n_30_102) := u_pushT (s_iconst (n := (0)) hq_30 (by decide +kernel) rfl ⟨by decide +kernel, by decide +kernel⟩ : e_Sn 30 102 (o_push (.inl 2147483648) 103)) t_30_103
noncomputable def n_30_101 : e_Y := u_tab (o_ret e_okZ)
theorem t_30_101 : e_Sn 30 101 (e_un n_30_101) := u_tabT (s_zret hq_30 hr_30 (by decide +kernel) : e_Sn 30 101 (o_ret e_okZ))
noncomputable def n_30_100 : e_Y := u_push (.inl 2147483648) n_30_101
theorem t_30_100 : e_Sn 30 100 (e_un n_30_100) := u_pushT (s_iconst (n := (0)) hq_30 (by decide +kernel) rfl ⟨by decide +kernel, by decide +kernel⟩ : e_Sn 30 100 (o_push (.inl 2147483648) 101)) t_30_101
noncomputable def n_30_97 : e_Y := n_30_101
theorem t_30_97 : e_Sn 30 97 (e_un n_30_97) := u_gotoT (s_goto (off := (4)) hq_30 (by decide +kernel) rfl : e_Sn 30 97 (o_goto 101)) t_30_101
noncomputable def n_30_96 : e_Y := u_push (.inl 2147483649) n_30_97
theorem t_30_96 : e_Sn 30 96 (e_un n_30_96) := u_pushT (s_iconst (n := (1)) hq_30 (by decide +kernel) rfl ⟨by decide +kernel, by decide +kernel⟩ : e_Sn 30 96 (o_push (.inl 2147483649) 97)) t_30_97
noncomputable def n_30_93 : e_Y := u_if y_ne0 (u_old2 (o_ifeq 96 100) 96 n_30_96 n_30_100) n_30_96 n_30_100
theorem t_30_93 : e_Sn 30 93 (e_un n_30_93) := u_ifeqT rfl (s_ifne (off := (7)) hq_30 (by decide +kernel) rfl rfl : e_Sn 30 93 (o_ifeq 96 100)) t_30_96 t_30_100
noncomputable def n_30_92 : e_Y := u_ld f_okI f_l1 n_30_93
theorem t_30_92 : e_Sn 30 92 (e_un n_30_92) := u_ldIT f_l1_eq (s_iload (i := .iload_n 1) (len := 1) hq_30 (by decide +kernel) rfl (.inr ⟨1, rfl, rfl, rfl⟩) : e_Sn 30 92 (o_load e_okI 1 93)) t_30_93
noncomputable def n_30_91 : e_Y := u_tab (o_ret e_okZ)
theorem t_30_91 : e_Sn 30 91 (e_un n_30_91) := u_tabT (s_zret hq_30 hr_30 (by decide +kernel) : e_Sn 30 91 (o_ret e_okZ))
noncomputable def n_30_90 : e_Y := u_push (.inl 2147483648) n_30_91
theorem t_30_90 : e_Sn 30 90 (e_un n_30_90) := u_pushT (s_iconst (n := (0)) hq_30 (by decide +kernel) rfl ⟨by decide +kernel, by decide +kernel⟩ : e_Sn 30 90 (o_push (.inl 2147483648) 91)) t_30_91
noncomputable def n_30_87 : e_Y := n_30_91
theorem t_30_87 : e_Sn 30 87 (e_un n_30_87) := u_gotoT (s_goto (off := (4)) hq_30 (by decide +kernel) rfl : e_Sn 30 87 (o_goto 91)) t_30_91
noncomputable def n_30_86 : e_Y := u_push (.inl 2147483649) n_30_87
theorem t_30_86 : e_Sn 30 86 (e_un n_30_86) := u_pushT (s_iconst (n := (1)) hq_30 (by decide +kernel) rfl ⟨by decide +kernel, by decide +kernel⟩ : e_Sn 30 86 (o_push (.inl 2147483649) 87)) t_30_87
noncomputable def n_30_83 : e_Y := u_jmp y_ge (u_old2 (o_clt 86 90) 86 n_30_86 n_30_90) n_30_86 n_30_90
theorem t_30_83 : e_Sn 30 83 (e_un n_30_83) := u_cltT rfl (s_cge (off := (7)) hq_30 (by decide +kernel) rfl rfl : e_Sn 30 83 (o_clt 86 90)) t_30_86 t_30_90
noncomputable def n_30_81 : e_Y := u_push (.inl 2147483658) n_30_83
theorem t_30_81 : e_Sn 30 81 (e_un n_30_81) := u_pushT (s_bipush (n := (10)) hq_30 (by decide +kernel) rfl ⟨by decide +kernel, by decide +kernel⟩ : e_Sn 30 81 (o_push (.inl 2147483658) 83)) t_30_83
noncomputable def n_30_80 : e_Y := u_ld f_okI f_l1 n_30_81
theorem t_30_80 : e_Sn 30 80 (e_un n_30_80) := u_ldIT f_l1_eq (s_iload (i := .iload_n 1) (len := 1) hq_30 (by decide +kernel) rfl (.inr ⟨1, rfl, rfl, rfl⟩) : e_Sn 30 80 (o_load e_okI 1 81)) t_30_81
noncomputable def n_30_77 : e_Y := u_if y_ge0 (u_old2 (o_iflt 90 80) 90 n_30_90 n_30_80) n_30_90 n_30_80
theorem t_30_77 : e_Sn 30 77 (e_un n_30_77) := u_ifltT rfl (s_iflt (off := (13)) hq_30 (by decide +kernel) rfl rfl : e_Sn 30 77 (o_iflt 90 80)) t_30_90 t_30_80
noncomputable def n_30_76 : e_Y := u_ld f_okI f_l1 n_30_77
theorem t_30_76 : e_Sn 30 76 (e_un n_30_76) := u_ldIT f_l1_eq (s_iload (i := .iload_n 1) (len := 1) hq_30 (by decide +kernel) rfl (.inr ⟨1, rfl, rfl, rfl⟩) : e_Sn 30 76 (o_load e_okI 1 77)) t_30_77
noncomputable def n_30_75 : e_Y := u_tab (o_ret e_okZ)
theorem t_30_75 : e_Sn 30 75 (e_un n_30_75) := u_tabT (s_zret hq_30 hr_30 (by decide +kernel) : e_Sn 30 75 (o_ret e_okZ))
noncomputable def n_30_74 : e_Y := u_push (.inl 2147483648) n_30_75
theorem t_30_74 : e_Sn 30 74 (e_un n_30_74) := u_pushT (s_iconst (n := (0)) hq_30 (by decide +kernel) rfl ⟨by decide +kernel, by decide +kernel⟩ : e_Sn 30 74 (o_push (.inl 2147483648) 75)) t_30_75
noncomputable def n_30_71 : e_Y := n_30_75
theorem t_30_71 : e_Sn 30 71 (e_un n_30_71) := u_gotoT (s_goto (off := (4)) hq_30 (by decide +kernel) rfl : e_Sn 30 71 (o_goto 75)) t_30_75
noncomputable def n_30_70 : e_Y := u_push (.inl 2147483649) n_30_71
theorem t_30_70 : e_Sn 30 70 (e_un n_30_70) := u_pushT (s_iconst (n := (1)) hq_30 (by decide +kernel) rfl ⟨by decide +kernel, by decide +kernel⟩ : e_Sn 30 70 (o_push (.inl 2147483649) 71)) t_30_71
noncomputable def n_30_67 : e_Y := u_jmp y_ge (u_old2 (o_clt 70 74) 70 n_30_70 n_30_74) n_30_70 n_30_74
theorem t_30_67 : e_Sn 30 67 (e_un n_30_67) := u_cltT rfl (s_cge (off := (7)) hq_30 (by decide +kernel) rfl rfl : e_Sn 30 67 (o_clt 70 74)) t_30_70 t_30_74
noncomputable def n_30_65 : e_Y := u_push (.inl 2147483701) n_30_67
theorem t_30_65 : e_Sn 30 65 (e_un n_30_65) := u_pushT (s_bipush (n := (53)) hq_30 (by decide +kernel) rfl ⟨by decide +kernel, by decide +kernel⟩ : e_Sn 30 65 (o_push (.inl 2147483701) 67)) t_30_67
noncomputable def n_30_64 : e_Y := u_ld f_okI f_l1 n_30_65
theorem t_30_64 : e_Sn 30 64 (e_un n_30_64) := u_ldIT f_l1_eq (s_iload (i := .iload_n 1) (len := 1) hq_30 (by decide +kernel) rfl (.inr ⟨1, rfl, rfl, rfl⟩) : e_Sn 30 64 (o_load e_okI 1 65)) t_30_65
noncomputable def n_30_61 : e_Y := u_if y_ge0 (u_old2 (o_iflt 74 64) 74 n_30_74 n_30_64) n_30_74 n_30_64
theorem t_30_61 : e_Sn 30 61 (e_un n_30_61) := u_ifltT rfl (s_iflt (off := (13)) hq_30 (by decide +kernel) rfl rfl : e_Sn 30 61 (o_iflt 74 64)) t_30_74 t_30_64
noncomputable def n_30_60 : e_Y := u_ld f_okI f_l1 n_30_61
theorem t_30_60 : e_Sn 30 60 (e_un n_30_60) := u_ldIT f_l1_eq (s_iload (i := .iload_n 1) (len := 1) hq_30 (by decide +kernel) rfl (.inr ⟨1, rfl, rfl, rfl⟩) : e_Sn 30 60 (o_load e_okI 1 61)) t_30_61
noncomputable def n_30_59 : e_Y := u_tab (o_ret e_okZ)
theorem t_30_59 : e_Sn 30 59 (e_un n_30_59) := u_tabT (s_zret hq_30 hr_30 (by decide +kernel) : e_Sn 30 59 (o_ret e_okZ))
noncomputable def n_30_58 : e_Y := u_push (.inl 2147483648) n_30_59
theorem t_30_58 : e_Sn 30 58 (e_un n_30_58) := u_pushT (s_iconst (n := (0)) hq_30 (by decide +kernel) rfl ⟨by decide +kernel, by decide +kernel⟩ : e_Sn 30 58 (o_push (.inl 2147483648) 59)) t_30_59
noncomputable def n_30_55 : e_Y := n_30_59
theorem t_30_55 : e_Sn 30 55 (e_un n_30_55) := u_gotoT (s_goto (off := (4)) hq_30 (by decide +kernel) rfl : e_Sn 30 55 (o_goto 59)) t_30_59
noncomputable def n_30_54 : e_Y := u_push (.inl 2147483649) n_30_55
theorem t_30_54 : e_Sn 30 54 (e_un n_30_54) := u_pushT (s_iconst (n := (1)) hq_30 (by decide +kernel) rfl ⟨by decide +kernel, by decide +kernel⟩ : e_Sn 30 54 (o_push (.inl 2147483649) 55)) t_30_55
noncomputable def n_30_51 : e_Y := u_jmp y_le (u_old2 (o_cgt 58 54) 58 n_30_58 n_30_54) n_30_58 n_30_54
theorem t_30_51 : e_Sn 30 51 (e_un n_30_51) := u_cgtT rfl (s_cgt (off := (7)) hq_30 (by decide +kernel) rfl rfl : e_Sn 30 51 (o_cgt 58 54)) t_30_58 t_30_54
noncomputable def n_30_48 : e_Y := u_push (.inl 2147493647) n_30_51
theorem t_30_48 : e_Sn 30 48 (e_un n_30_48) := u_pushT (s_sipush (n := (9999)) hq_30 (by decide +kernel) rfl ⟨by decide +kernel, by decide +kernel⟩ : e_Sn 30 48 (o_push (.inl 2147493647) 51)) t_30_51
noncomputable def n_30_47 : e_Y := u_ld f_okI f_l1 n_30_48
theorem t_30_47 : e_Sn 30 47 (e_un n_30_47) := u_ldIT f_l1_eq (s_iload (i := .iload_n 1) (len := 1) hq_30 (by decide +kernel) rfl (.inr ⟨1, rfl, rfl, rfl⟩) : e_Sn 30 47 (o_load e_okI 1 48)) t_30_48
noncomputable def n_30_44 : e_Y := u_jmp y_ge (u_old2 (o_clt 58 47) 58 n_30_58 n_30_47) n_30_58 n_30_47
theorem t_30_44 : e_Sn 30 44 (e_un n_30_44) := u_cltT rfl (s_clt (off := (14)) hq_30 (by decide +kernel) rfl rfl : e_Sn 30 44 (o_clt 58 47)) t_30_58 t_30_47
noncomputable def n_30_41 : e_Y := u_push (.inl 2147473649) n_30_44
theorem t_30_41 : e_Sn 30 41 (e_un n_30_41) := u_pushT (s_sipush (n := (-9999)) hq_30 (by decide +kernel) rfl ⟨by decide +kernel, by decide +kernel⟩ : e_Sn 30 41 (o_push (.inl 2147473649) 44)) t_30_44
noncomputable def n_30_40 : e_Y := u_ld f_okI f_l1 n_30_41
theorem t_30_40 : e_Sn 30 40 (e_un n_30_40) := u_ldIT f_l1_eq (s_iload (i := .iload_n 1) (len := 1) hq_30 (by decide +kernel) rfl (.inr ⟨1, rfl, rfl, rfl⟩) : e_Sn 30 40 (o_load e_okI 1 41)) t_30_41
noncomputable def n_30_1 : e_Y := u_tab (o_switch 2147483648 [40, 60, 76, 76, 92, 92] 102)
theorem t_30_1 : e_Sn 30 1 (e_un n_30_1) := u_tabT (s_switch (dflt := (101)) (low := (0)) (hi := (5)) (offs := #[(39), (59), (75), (75), (91), (91)]) (len := 39) hq_30 (by decide +kernel) rfl rfl rfl rfl : e_Sn 30 1 (o_switch 2147483648 [40, 60, 76, 76, 92, 92] 102))
noncomputable def n_30_0 : e_Y := u_ld f_okI f_l0 n_30_1
theorem t_30_0 : e_Sn 30 0 (e_un n_30_0) := u_ldIT f_l0_eq (s_iload (i := .iload_n 0) (len := 1) hq_30 (by decide +kernel) rfl (.inr ⟨0, rfl, rfl, rfl⟩) : e_Sn 30 0 (o_load e_okI 0 1)) t_30_1
noncomputable def e_tb_30 : e_X := (e_br 76 (e_br 40 (e_lf 0 (e_un n_30_0)) (e_br 60 (e_lf 40 (e_un n_30_40)) (e_lf 60 (e_un n_30_60)))) (e_br 92 (e_lf 76 (e_un n_30_76)) (e_br 102 (e_lf 92 (e_un n_30_92)) (e_lf 102 (e_un n_30_102)))))
theorem e_tk_30 : e_Tb 30 e_tb_30 := (e_brT (e_brT (e_lfT t_30_0) (e_brT (e_lfT t_30_40) (e_lfT t_30_60))) (e_brT (e_lfT t_30_76) (e_brT (e_lfT t_30_92) (e_lfT t_30_102))))
theorem hq_31 : (e_ml[31]?).map (·.2.1) = some prog_1_method_15_code := rfl
theorem ho_31 : (e_ml[31]?).map (·.1.cls) = some "Plateroomprinter" := rfl
theorem hr_31 : (e_ml[31]?).map (·.2.2.2) = some (some .int) := rfl
noncomputable def n_31_18 : e_Y := u_tab (o_throw 2)
theorem t_31_18 : e_Sn 31 18 (e_un n_31_18) := u_tabT (s_throw (ik := 175) (is := 177) (ic := 179) (X := "java/lang/IndexOutOfBoundsException") (text := "no such place") hq_31 ho_31 hy_31 hc_31 rfl (by decide +kernel) e_wok2 (by simp [e_sr]) (by decide +kernel) (by decide +kernel) (.inl ⟨(by decide +kernel), (by decide +kernel), (by decide +kernel)⟩) : e_Sn 31 18 (o_throw 2))
noncomputable def n_31_15 : e_Y := u_jmp y_ge (u_old2 (o_clt 28 18) 28 (u_at 28) n_31_18) (u_at 28) n_31_18
theorem t_31_15 : e_Sn 31 15 (e_un n_31_15) := u_cltT rfl (s_clt (off := (13)) hq_31 (by decide +kernel) rfl rfl : e_Sn 31 15 (o_clt 28 18)) u_atT t_31_18
noncomputable def n_31_12 : e_Y := u_getf 4 4 (u_old (o_getf (e_f1 4 4) 15) n_31_15) n_31_15
theorem t_31_12 : e_Sn 31 12 (e_un n_31_12) := u_getfT (s_getf (C := er_4) (T := et_4) (N := 5) (ref := "Plateroomprinter$Items") (index := 191) (ci := 4) (k := 4) hq_31 ho_31 ⟨rfl, by decide, ei_4, (List.mem_of_getElem? (i := 237) (by decide +kernel)), .inl rfl⟩ (by decide +kernel) rfl : e_Sn 31 12 (o_getf (e_f1 4 4) 15)) t_31_15
noncomputable def n_31_9 : e_Y := u_getf 11 0 (u_old (o_getf (e_f1 11 0) 12) n_31_12) n_31_12
theorem t_31_9 : e_Sn 31 9 (e_un n_31_9) := u_getfT (s_getf (C := er_11) (T := et_11) (N := 15) (ref := "Plateroomprinter$World") (index := 187) (ci := 11) (k := 0) hq_31 ho_31 ⟨rfl, by decide, ei_11, (List.mem_of_getElem? (i := 461) (by decide +kernel)), .inl rfl⟩ (by decide +kernel) rfl : e_Sn 31 9 (o_getf (e_f1 11 0) 12)) t_31_12
noncomputable def n_31_6 : e_Y := u_getf 0 1 (u_old (o_getf (e_f1 0 1) 9) n_31_9) n_31_9
theorem t_31_6 : e_Sn 31 6 (e_un n_31_6) := u_getfT (s_getf (C := er_0) (T := et_0) (N := 17) (ref := "Plateroomprinter") (index := 19) (ci := 0) (k := 1) hq_31 ho_31 ⟨rfl, by decide, ei_0, (List.mem_of_getElem? (i := 681) (by decide +kernel)), .inl rfl⟩ (by decide +kernel) rfl : e_Sn 31 6 (o_getf (e_f1 0 1) 9)) t_31_9
noncomputable def n_31_5 : e_Y := u_ld f_okA f_l0 n_31_6
theorem t_31_5 : e_Sn 31 5 (e_un n_31_5) := u_ldAT f_l0_eq (s_aload (i := .aload_n 0) (len := 1) hq_31 (by decide +kernel) rfl (.inr ⟨0, rfl, rfl, rfl⟩) : e_Sn 31 5 (o_load e_okR 0 6)) t_31_6
noncomputable def n_31_4 : e_Y := u_ld f_okI f_l1 n_31_5
theorem t_31_4 : e_Sn 31 4 (e_un n_31_4) := u_ldIT f_l1_eq (s_iload (i := .iload_n 1) (len := 1) hq_31 (by decide +kernel) rfl (.inr ⟨1, rfl, rfl, rfl⟩) : e_Sn 31 4 (o_load e_okI 1 5)) t_31_5
noncomputable def n_31_1 : e_Y := u_if y_ge0 (u_old2 (o_iflt 18 4) 18 n_31_18 n_31_4) n_31_18 n_31_4
theorem t_31_1 : e_Sn 31 1 (e_un n_31_1) := u_ifltT rfl (s_iflt (off := (17)) hq_31 (by decide +kernel) rfl rfl : e_Sn 31 1 (o_iflt 18 4)) t_31_18 t_31_4
noncomputable def n_31_0 : e_Y := u_ld f_okI f_l1 n_31_1
theorem t_31_0 : e_Sn 31 0 (e_un n_31_0) := u_ldIT f_l1_eq (s_iload (i := .iload_n 1) (len := 1) hq_31 (by decide +kernel) rfl (.inr ⟨1, rfl, rfl, rfl⟩) : e_Sn 31 0 (o_load e_okI 1 1)) t_31_1
noncomputable def e_tb_31 : e_X := (e_lf 0 (e_un n_31_0))
theorem e_tk_31 : e_Tb 31 e_tb_31 := (e_lfT t_31_0)
theorem hq_33 : (e_ml[33]?).map (·.2.1) = some prog_1_method_8_code := rfl
theorem ho_33 : (e_ml[33]?).map (·.1.cls) = some "Plateroomprinter" := rfl
theorem hr_33 : (e_ml[33]?).map (·.2.2.2) = some (some .int) := rfl
noncomputable def n_33_14 : e_Y := u_retI
theorem t_33_14 : e_Sn 33 14 (e_un n_33_14) := u_retIT (s_iret hq_33 hr_33 (by decide +kernel) : e_Sn 33 14 (o_ret e_okI))
noncomputable def n_33_11 : e_Y := u_getf 0 13 (u_old (o_getf (e_f1 0 13) 14) n_33_14) n_33_14
theorem t_33_11 : e_Sn 33 11 (e_un n_33_11) := u_getfT (s_getf (C := er_0) (T := et_0) (N := 17) (ref := "Plateroomprinter") (index := 77) (ci := 0) (k := 13) hq_33 ho_33 ⟨rfl, by decide, ei_0, (List.mem_of_getElem? (i := 693) (by decide +kernel)), .inl rfl⟩ (by decide +kernel) rfl : e_Sn 33 11 (o_getf (e_f1 0 13) 14)) t_33_14
noncomputable def n_33_10 : e_Y := u_ld f_okA f_l0 n_33_11
theorem t_33_10 : e_Sn 33 10 (e_un n_33_10) := u_ldAT f_l0_eq (s_aload (i := .aload_n 0) (len := 1) hq_33 (by decide +kernel) rfl (.inr ⟨0, rfl, rfl, rfl⟩) : e_Sn 33 10 (o_load e_okR 0 11)) t_33_11
noncomputable def n_33_7 : e_Y := u_old (o_putf (e_f1 0 13) e_okI 10) n_33_10
theorem t_33_7 : e_Sn 33 7 (e_un n_33_7) := u_oldT (s_putf (ty0 := ey_0) (ok := e_okI) (C := er_0) (T := et_0) (N := 17) (ref := "Plateroomprinter") (index := 77) (ci := 0) (k := 13) hq_33 ho_33 ⟨rfl, by decide, ei_0, (List.mem_of_getElem? (i := 693) (by decide +kernel)), .inl rfl⟩ eo_0 en_0 e_oksI (.inl rfl) (by decide +kernel) rfl : e_Sn 33 7 (o_putf (e_f1 0 13) e_okI 10)) t_33_10 (e_cg_putf (e_f1 0 13) e_okI)
noncomputable def n_33_6 : e_Y := u_bin a_iadd (u_old (o_iadd 7) n_33_7) n_33_7
theorem t_33_6 : e_Sn 33 6 (e_un n_33_6) := u_iaddT (s_iadd hq_33 (by decide +kernel) rfl : e_Sn 33 6 (o_iadd 7)) t_33_7
noncomputable def n_33_5 : e_Y := u_push (.inl 2147483649) n_33_6
theorem t_33_5 : e_Sn 33 5 (e_un n_33_5) := u_pushT (s_iconst (n := (1)) hq_33 (by decide +kernel) rfl ⟨by decide +kernel, by decide +kernel⟩ : e_Sn 33 5 (o_push (.inl 2147483649) 6)) t_33_6
noncomputable def n_33_2 : e_Y := u_getf 0 13 (u_old (o_getf (e_f1 0 13) 5) n_33_5) n_33_5
theorem t_33_2 : e_Sn 33 2 (e_un n_33_2) := u_getfT (s_getf (C := er_0) (T := et_0) (N := 17) (ref := "Plateroomprinter") (index := 77) (ci := 0) (k := 13) hq_33 ho_33 ⟨rfl, by decide, ei_0, (List.mem_of_getElem? (i := 693) (by decide +kernel)), .inl rfl⟩ (by decide +kernel) rfl : e_Sn 33 2 (o_getf (e_f1 0 13) 5)) t_33_5
noncomputable def n_33_1 : e_Y := u_old (o_dup 2) n_33_2
theorem t_33_1 : e_Sn 33 1 (e_un n_33_1) := u_oldT (s_dup hq_33 (by decide +kernel) rfl : e_Sn 33 1 (o_dup 2)) t_33_2 e_cg_dup
noncomputable def n_33_0 : e_Y := u_ld f_okA f_l0 n_33_1
theorem t_33_0 : e_Sn 33 0 (e_un n_33_0) := u_ldAT f_l0_eq (s_aload (i := .aload_n 0) (len := 1) hq_33 (by decide +kernel) rfl (.inr ⟨0, rfl, rfl, rfl⟩) : e_Sn 33 0 (o_load e_okR 0 1)) t_33_1
noncomputable def e_tb_33 : e_X := (e_lf 0 (e_un n_33_0))
theorem e_tk_33 : e_Tb 33 e_tb_33 := (e_lfT t_33_0)
theorem hq_35 : (e_ml[35]?).map (·.2.1) = some prog_1_method_48_code := rfl
theorem ho_35 : (e_ml[35]?).map (·.1.cls) = some "Plateroomprinter" := rfl
theorem hr_35 : (e_ml[35]?).map (·.2.2.2) = some (some .int) := rfl
noncomputable def n_35_45 : e_Y := u_retI
theorem t_35_45 : e_Sn 35 45 (e_un n_35_45) := u_retIT (s_iret hq_35 hr_35 (by decide +kernel) : e_Sn 35 45 (o_ret e_okI))
noncomputable def n_35_44 : e_Y := u_push (.inl 2147483647) n_35_45
theorem t_35_44 : e_Sn 35 44 (e_un n_35_44) := u_pushT (s_iconst (n := (-1)) hq_35 (by decide +kernel) rfl ⟨by decide +kernel, by decide +kernel⟩ : e_Sn 35 44 (o_push (.inl 2147483647) 45)) t_35_45
noncomputable def n_35_26 : e_Y := u_if y_le0 (u_old2 (o_ifgt 29 44) 29 (u_at 29) n_35_44) (u_at 29) n_35_44
theorem t_35_26 : e_Sn 35 26 (e_un n_35_26) := u_ifgtT rfl (s_ifle (off := (18)) hq_35 (by decide +kernel) rfl rfl : e_Sn 35 26 (o_ifgt 29 44)) u_atT t_35_44
noncomputable def n_35_23 : e_Y := u_getf 11 10 (u_old (o_getf (e_f1 11 10) 26) n_35_26) n_35_26
theorem t_35_23 : e_Sn 35 23 (e_un n_35_23) := u_getfT (s_getf (C := er_11) (T := et_11) (N := 15) (ref := "Plateroomprinter$World") (index := 169) (ci := 11) (k := 10) hq_35 ho_35 ⟨rfl, by decide, ei_11, (List.mem_of_getElem? (i := 489) (by decide +kernel)), .inl rfl⟩ (by decide +kernel) rfl : e_Sn 35 23 (o_getf (e_f1 11 10) 26)) t_35_26
noncomputable def n_35_20 : e_Y := u_getf 0 1 (u_old (o_getf (e_f1 0 1) 23) n_35_23) n_35_23
theorem t_35_20 : e_Sn 35 20 (e_un n_35_20) := u_getfT (s_getf (C := er_0) (T := et_0) (N := 17) (ref := "Plateroomprinter") (index := 19) (ci := 0) (k := 1) hq_35 ho_35 ⟨rfl, by decide, ei_0, (List.mem_of_getElem? (i := 681) (by decide +kernel)), .inl rfl⟩ (by decide +kernel) rfl : e_Sn 35 20 (o_getf (e_f1 0 1) 23)) t_35_23
noncomputable def n_35_19 : e_Y := u_ld f_okA f_l0 n_35_20
theorem t_35_19 : e_Sn 35 19 (e_un n_35_19) := u_ldAT f_l0_eq (s_aload (i := .aload_n 0) (len := 1) hq_35 (by decide +kernel) rfl (.inr ⟨0, rfl, rfl, rfl⟩) : e_Sn 35 19 (o_load e_okR 0 20)) t_35_20
noncomputable def n_35_8 : e_Y := u_tab (o_throw 2)
theorem t_35_8 : e_Sn 35 8 (e_un n_35_8) := u_tabT (s_throw (ik := 175) (is := 322) (ic := 179) (X := "java/lang/IndexOutOfBoundsException") (text := "no such dot") hq_35 ho_35 hy_35 hc_35 rfl (by decide +kernel) e_wok2 (by simp [e_sr]) (by decide +kernel) (by decide +kernel) (.inr ⟨(by decide +kernel), (by decide +kernel), (by decide +kernel)⟩) : e_Sn 35 8 (o_throw 2))
noncomputable def n_35_5 : e_Y := u_if y_ne0 (u_old2 (o_ifeq 8 19) 8 n_35_8 n_35_19) n_35_8 n_35_19
theorem t_35_5 : e_Sn 35 5 (e_un n_35_5) := u_ifeqT rfl (s_ifne (off := (14)) hq_35 (by decide +kernel) rfl rfl : e_Sn 35 5 (o_ifeq 8 19)) t_35_8 t_35_19
noncomputable def n_35_2 : e_Y := u_callS 26 2 21 2 n_26_0 n_35_5
theorem t_35_2 : e_Sn 35 2 (e_un n_35_2) := u_callST rfl (s_callS (index := 319) hq_35 ho_35 hy_26 hp_26 hc_26 hi_26 hd_26 (List.mem_of_getElem? (i := 1371) (by decide +kernel)) hs_26 (by decide +kernel) rfl : e_Sn 35 2 (o_callS 26 2 2 5)) t_26_0 t_35_5
noncomputable def n_35_1 : e_Y := u_ld f_okI f_l2 n_35_2
theorem t_35_1 : e_Sn 35 1 (e_un n_35_1) := u_ldIT f_l2_eq (s_iload (i := .iload_n 2) (len := 1) hq_35 (by decide +kernel) rfl (.inr ⟨2, rfl, rfl, rfl⟩) : e_Sn 35 1 (o_load e_okI 2 2)) t_35_2
noncomputable def n_35_0 : e_Y := u_ld f_okI f_l1 n_35_1
theorem t_35_0 : e_Sn 35 0 (e_un n_35_0) := u_ldIT f_l1_eq (s_iload (i := .iload_n 1) (len := 1) hq_35 (by decide +kernel) rfl (.inr ⟨1, rfl, rfl, rfl⟩) : e_Sn 35 0 (o_load e_okI 1 1)) t_35_1
noncomputable def e_tb_35 : e_X := (e_lf 0 (e_un n_35_0))
theorem e_tk_35 : e_Tb 35 e_tb_35 := (e_lfT t_35_0)
theorem hq_38 : (e_ml[38]?).map (·.2.1) = some prog_1_method_26_code := rfl
theorem ho_38 : (e_ml[38]?).map (·.1.cls) = some "Plateroomprinter" := rfl
theorem hr_38 : (e_ml[38]?).map (·.2.2.2) = some (some .int) := rfl
noncomputable def n_38_72 : e_Y := u_retI
theorem t_38_72 : e_Sn 38 72 (e_un n_38_72) := u_retIT (s_iret hq_38 hr_38 (by decide +kernel) : e_Sn 38 72 (o_ret e_okI))
noncomputable def n_38_69 : e_Y := u_callS 3 4 23 2 n_3_0 n_38_72
theorem t_38_69 : e_Sn 38 69 (e_un n_38_69) := u_callST rfl (s_callS (index := 265) hq_38 ho_38 hy_3 hp_3 hc_3 hi_3 hd_3 (List.mem_of_getElem? (i := 1266) (by decide +kernel)) hs_3 (by decide +kernel) rfl : e_Sn 38 69 (o_callS 3 4 2 72)) t_3_0 t_38_72
noncomputable def n_38_68 : e_Y := u_push (.inl 2147483648) n_38_69
theorem t_38_68 : e_Sn 38 68 (e_un n_38_68) := u_pushT (s_iconst (n := (0)) hq_38 (by decide +kernel) rfl ⟨by decide +kernel, by decide +kernel⟩ : e_Sn 38 68 (o_push (.inl 2147483648) 69)) t_38_69
noncomputable def n_38_65 : e_Y := u_getf 0 7 (u_old (o_getf (e_f1 0 7) 68) n_38_68) n_38_68
theorem t_38_65 : e_Sn 38 65 (e_un n_38_65) := u_getfT (s_getf (C := er_0) (T := et_0) (N := 17) (ref := "Plateroomprinter") (index := 58) (ci := 0) (k := 7) hq_38 ho_38 ⟨rfl, by decide, ei_0, (List.mem_of_getElem? (i := 687) (by decide +kernel)), .inl rfl⟩ (by decide +kernel) rfl : e_Sn 38 65 (o_getf (e_f1 0 7) 68)) t_38_68
noncomputable def n_38_64 : e_Y := u_ld f_okA f_l0 n_38_65
theorem t_38_64 : e_Sn 38 64 (e_un n_38_64) := u_ldAT f_l0_eq (s_aload (i := .aload_n 0) (len := 1) hq_38 (by decide +kernel) rfl (.inr ⟨0, rfl, rfl, rfl⟩) : e_Sn 38 64 (o_load e_okR 0 65)) t_38_65
noncomputable def n_38_61 : e_Y := u_callV 0 19 5 24 5 n_19_0 n_38_64
theorem t_38_61 : e_Sn 38 61 (e_un n_38_61) := u_callVT rfl (s_callV (ci := 0) (C := er_0) (T := et_0) (N := 17) (index := 330) hq_38 ho_38 hy_19 hp_19 hc_19 hi_19 hd_19 (List.mem_of_getElem? (i := 1363) (by decide +kernel)) hs_19 (List.mem_of_getElem? (i := 55) (by decide +kernel)) rfl (by decide +kernel) rfl : e_Sn 38 61 (o_callV (e_s1 0 19 5) 5 64)) t_19_0 t_38_64
noncomputable def n_38_58 : e_Y := u_getf 0 7 (u_old (o_getf (e_f1 0 7) 61) n_38_61) n_38_61
theorem t_38_58 : e_Sn 38 58 (e_un n_38_58) := u_getfT (s_getf (C := er_0) (T := et_0) (N := 17) (ref := "Plateroomprinter") (index := 58) (ci := 0) (k := 7) hq_38 ho_38 ⟨rfl, by decide, ei_0, (List.mem_of_getElem? (i := 687) (by decide +kernel)), .inl rfl⟩ (by decide +kernel) rfl : e_Sn 38 58 (o_getf (e_f1 0 7) 61)) t_38_61
noncomputable def n_38_57 : e_Y := u_ld f_okA f_l0 n_38_58
theorem t_38_57 : e_Sn 38 57 (e_un n_38_57) := u_ldAT f_l0_eq (s_aload (i := .aload_n 0) (len := 1) hq_38 (by decide +kernel) rfl (.inr ⟨0, rfl, rfl, rfl⟩) : e_Sn 38 57 (o_load e_okR 0 58)) t_38_58
noncomputable def n_38_56 : e_Y := u_ld f_okI f_l3 n_38_57
theorem t_38_56 : e_Sn 38 56 (e_un n_38_56) := u_ldIT f_l3_eq (s_iload (i := .iload_n 3) (len := 1) hq_38 (by decide +kernel) rfl (.inr ⟨3, rfl, rfl, rfl⟩) : e_Sn 38 56 (o_load e_okI 3 57)) t_38_57
noncomputable def n_38_55 : e_Y := u_ld f_okI f_l2 n_38_56
theorem t_38_55 : e_Sn 38 55 (e_un n_38_55) := u_ldIT f_l2_eq (s_iload (i := .iload_n 2) (len := 1) hq_38 (by decide +kernel) rfl (.inr ⟨2, rfl, rfl, rfl⟩) : e_Sn 38 55 (o_load e_okI 2 56)) t_38_56
noncomputable def n_38_54 : e_Y := u_ld f_okI f_l1 n_38_55
theorem t_38_54 : e_Sn 38 54 (e_un n_38_54) := u_ldIT f_l1_eq (s_iload (i := .iload_n 1) (len := 1) hq_38 (by decide +kernel) rfl (.inr ⟨1, rfl, rfl, rfl⟩) : e_Sn 38 54 (o_load e_okI 1 55)) t_38_55
noncomputable def n_38_53 : e_Y := u_ld f_okA f_l0 n_38_54
theorem t_38_53 : e_Sn 38 53 (e_un n_38_53) := u_ldAT f_l0_eq (s_aload (i := .aload_n 0) (len := 1) hq_38 (by decide +kernel) rfl (.inr ⟨0, rfl, rfl, rfl⟩) : e_Sn 38 53 (o_load e_okR 0 54)) t_38_54
noncomputable def n_38_42 : e_Y := u_tab (o_throw 0)
theorem t_38_42 : e_Sn 38 42 (e_un n_38_42) := u_tabT (s_throw (ik := 94) (is := 328) (ic := 98) (X := "java/lang/IllegalArgumentException") (text := "rule is 0 or 1") hq_38 ho_38 hy_38 hc_38 rfl (by decide +kernel) e_wok0 (by simp [e_sr]) (by decide +kernel) (by decide +kernel) (.inr ⟨(by decide +kernel), (by decide +kernel), (by decide +kernel)⟩) : e_Sn 38 42 (o_throw 0))
noncomputable def n_38_39 : e_Y := u_if y_ne0 (u_old2 (o_ifeq 42 53) 42 n_38_42 n_38_53) n_38_42 n_38_53
theorem t_38_39 : e_Sn 38 39 (e_un n_38_39) := u_ifeqT rfl (s_ifne (off := (14)) hq_38 (by decide +kernel) rfl rfl : e_Sn 38 39 (o_ifeq 42 53)) t_38_42 t_38_53
noncomputable def n_38_36 : e_Y := u_callS 27 1 20 1 n_27_0 n_38_39
theorem t_38_36 : e_Sn 38 36 (e_un n_38_36) := u_callST rfl (s_callS (index := 324) hq_38 ho_38 hy_27 hp_27 hc_27 hi_27 hd_27 (List.mem_of_getElem? (i := 1291) (by decide +kernel)) hs_27 (by decide +kernel) rfl : e_Sn 38 36 (o_callS 27 1 1 39)) t_27_0 t_38_39
noncomputable def n_38_35 : e_Y := u_ld f_okI f_l3 n_38_36
theorem t_38_35 : e_Sn 38 35 (e_un n_38_35) := u_ldIT f_l3_eq (s_iload (i := .iload_n 3) (len := 1) hq_38 (by decide +kernel) rfl (.inr ⟨3, rfl, rfl, rfl⟩) : e_Sn 38 35 (o_load e_okI 3 36)) t_38_36
noncomputable def n_38_24 : e_Y := u_tab (o_throw 0)
theorem t_38_24 : e_Sn 38 24 (e_un n_38_24) := u_tabT (s_throw (ik := 94) (is := 338) (ic := 98) (X := "java/lang/IllegalArgumentException") (text := "moved by -40 to 40") hq_38 ho_38 hy_38 hc_38 rfl (by decide +kernel) e_wok0 (by simp [e_sr]) (by decide +kernel) (by decide +kernel) (.inr ⟨(by decide +kernel), (by decide +kernel), (by decide +kernel)⟩) : e_Sn 38 24 (o_throw 0))
noncomputable def n_38_21 : e_Y := u_jmp y_le (u_old2 (o_cgt 24 35) 24 n_38_24 n_38_35) n_38_24 n_38_35
theorem t_38_21 : e_Sn 38 21 (e_un n_38_21) := u_cgtT rfl (s_cle (off := (14)) hq_38 (by decide +kernel) rfl rfl : e_Sn 38 21 (o_cgt 24 35)) t_38_24 t_38_35
noncomputable def n_38_19 : e_Y := u_push (.inl 2147483688) n_38_21
theorem t_38_19 : e_Sn 38 19 (e_un n_38_19) := u_pushT (s_bipush (n := (40)) hq_38 (by decide +kernel) rfl ⟨by decide +kernel, by decide +kernel⟩ : e_Sn 38 19 (o_push (.inl 2147483688) 21)) t_38_21
noncomputable def n_38_18 : e_Y := u_ld f_okI f_l2 n_38_19
theorem t_38_18 : e_Sn 38 18 (e_un n_38_18) := u_ldIT f_l2_eq (s_iload (i := .iload_n 2) (len := 1) hq_38 (by decide +kernel) rfl (.inr ⟨2, rfl, rfl, rfl⟩) : e_Sn 38 18 (o_load e_okI 2 19)) t_38_19
noncomputable def n_38_15 : e_Y := u_jmp y_ge (u_old2 (o_clt 24 18) 24 n_38_24 n_38_18) n_38_24 n_38_18
theorem t_38_15 : e_Sn 38 15 (e_un n_38_15) := u_cltT rfl (s_clt (off := (9)) hq_38 (by decide +kernel) rfl rfl : e_Sn 38 15 (o_clt 24 18)) t_38_24 t_38_18
noncomputable def n_38_13 : e_Y := u_push (.inl 2147483608) n_38_15
theorem t_38_13 : e_Sn 38 13 (e_un n_38_13) := u_pushT (s_bipush (n := (-40)) hq_38 (by decide +kernel) rfl ⟨by decide +kernel, by decide +kernel⟩ : e_Sn 38 13 (o_push (.inl 2147483608) 15)) t_38_15
noncomputable def n_38_12 : e_Y := u_ld f_okI f_l2 n_38_13
theorem t_38_12 : e_Sn 38 12 (e_un n_38_12) := u_ldIT f_l2_eq (s_iload (i := .iload_n 2) (len := 1) hq_38 (by decide +kernel) rfl (.inr ⟨2, rfl, rfl, rfl⟩) : e_Sn 38 12 (o_load e_okI 2 13)) t_38_13
noncomputable def n_38_9 : e_Y := u_jmp y_le (u_old2 (o_cgt 24 12) 24 n_38_24 n_38_12) n_38_24 n_38_12
theorem t_38_9 : e_Sn 38 9 (e_un n_38_9) := u_cgtT rfl (s_cgt (off := (15)) hq_38 (by decide +kernel) rfl rfl : e_Sn 38 9 (o_cgt 24 12)) t_38_24 t_38_12
noncomputable def n_38_7 : e_Y := u_push (.inl 2147483688) n_38_9
theorem t_38_7 : e_Sn 38 7 (e_un n_38_7) := u_pushT (s_bipush (n := (40)) hq_38 (by decide +kernel) rfl ⟨by decide +kernel, by decide +kernel⟩ : e_Sn 38 7 (o_push (.inl 2147483688) 9)) t_38_9
noncomputable def n_38_6 : e_Y := u_ld f_okI f_l1 n_38_7
theorem t_38_6 : e_Sn 38 6 (e_un n_38_6) := u_ldIT f_l1_eq (s_iload (i := .iload_n 1) (len := 1) hq_38 (by decide +kernel) rfl (.inr ⟨1, rfl, rfl, rfl⟩) : e_Sn 38 6 (o_load e_okI 1 7)) t_38_7
noncomputable def n_38_3 : e_Y := u_jmp y_ge (u_old2 (o_clt 24 6) 24 n_38_24 n_38_6) n_38_24 n_38_6
theorem t_38_3 : e_Sn 38 3 (e_un n_38_3) := u_cltT rfl (s_clt (off := (21)) hq_38 (by decide +kernel) rfl rfl : e_Sn 38 3 (o_clt 24 6)) t_38_24 t_38_6
noncomputable def n_38_1 : e_Y := u_push (.inl 2147483608) n_38_3
theorem t_38_1 : e_Sn 38 1 (e_un n_38_1) := u_pushT (s_bipush (n := (-40)) hq_38 (by decide +kernel) rfl ⟨by decide +kernel, by decide +kernel⟩ : e_Sn 38 1 (o_push (.inl 2147483608) 3)) t_38_3
noncomputable def n_38_0 : e_Y := u_ld f_okI f_l1 n_38_1
theorem t_38_0 : e_Sn 38 0 (e_un n_38_0) := u_ldIT f_l1_eq (s_iload (i := .iload_n 1) (len := 1) hq_38 (by decide +kernel) rfl (.inr ⟨1, rfl, rfl, rfl⟩) : e_Sn 38 0 (o_load e_okI 1 1)) t_38_1
noncomputable def e_tb_38 : e_X := (e_lf 0 (e_un n_38_0))
theorem e_tk_38 : e_Tb 38 e_tb_38 := (e_lfT t_38_0)
theorem hq_44 : (e_ml[44]?).map (·.2.1) = some prog_1_method_22_code := rfl
theorem ho_44 : (e_ml[44]?).map (·.1.cls) = some "Plateroomprinter" := rfl
theorem hr_44 : (e_ml[44]?).map (·.2.2.2) = some (some .int) := rfl
noncomputable def n_44_25 : e_Y := u_tab (o_throw 2)
theorem t_44_25 : e_Sn 44 25 (e_un n_44_25) := u_tabT (s_throw (ik := 175) (is := 291) (ic := 179) (X := "java/lang/IndexOutOfBoundsException") (text := "no such ring") hq_44 ho_44 hy_44 hc_44 rfl (by decide +kernel) e_wok2 (by simp [e_sr]) (by decide +kernel) (by decide +kernel) (.inr ⟨(by decide +kernel), (by decide +kernel), (by decide +kernel)⟩) : e_Sn 44 25 (o_throw 2))
noncomputable def n_44_22 : e_Y := u_jmp y_ge (u_old2 (o_clt 36 25) 36 (u_at 36) n_44_25) (u_at 36) n_44_25
theorem t_44_22 : e_Sn 44 22 (e_un n_44_22) := u_cltT rfl (s_clt (off := (14)) hq_44 (by decide +kernel) rfl rfl : e_Sn 44 22 (o_clt 36 25)) u_atT t_44_25
noncomputable def n_44_19 : e_Y := u_getf 7 4 (u_old (o_getf (e_f1 7 4) 22) n_44_22) n_44_22
theorem t_44_19 : e_Sn 44 19 (e_un n_44_19) := u_getfT (s_getf (C := er_7) (T := et_7) (N := 6) (ref := "Plateroomprinter$Path") (index := 254) (ci := 7) (k := 4) hq_44 ho_44 ⟨rfl, by decide, ei_7, (List.mem_of_getElem? (i := 298) (by decide +kernel)), .inl rfl⟩ (by decide +kernel) rfl : e_Sn 44 19 (o_getf (e_f1 7 4) 22)) t_44_22
noncomputable def n_44_17 : e_Y := u_ld f_okA f_l4 n_44_19
theorem t_44_17 : e_Sn 44 17 (e_un n_44_17) := u_ldAT f_l4_eq (s_aload (i := .aload 4) (len := 2) hq_44 (by decide +kernel) rfl (.inl ⟨rfl, rfl⟩) : e_Sn 44 17 (o_load e_okR 4 19)) t_44_19
noncomputable def n_44_16 : e_Y := u_ld f_okI f_l1 n_44_17
theorem t_44_16 : e_Sn 44 16 (e_un n_44_16) := u_ldIT f_l1_eq (s_iload (i := .iload_n 1) (len := 1) hq_44 (by decide +kernel) rfl (.inr ⟨1, rfl, rfl, rfl⟩) : e_Sn 44 16 (o_load e_okI 1 17)) t_44_17
noncomputable def n_44_13 : e_Y := u_if y_ge0 (u_old2 (o_iflt 25 16) 25 n_44_25 n_44_16) n_44_25 n_44_16
theorem t_44_13 : e_Sn 44 13 (e_un n_44_13) := u_ifltT rfl (s_iflt (off := (12)) hq_44 (by decide +kernel) rfl rfl : e_Sn 44 13 (o_iflt 25 16)) t_44_25 t_44_16
noncomputable def n_44_12 : e_Y := u_ld f_okI f_l1 n_44_13
theorem t_44_12 : e_Sn 44 12 (e_un n_44_12) := u_ldIT f_l1_eq (s_iload (i := .iload_n 1) (len := 1) hq_44 (by decide +kernel) rfl (.inr ⟨1, rfl, rfl, rfl⟩) : e_Sn 44 12 (o_load e_okI 1 13)) t_44_13
noncomputable def n_44_10 : e_Y := u_st f_okA f_s4 n_44_12
theorem t_44_10 : e_Sn 44 10 (e_un n_44_10) := u_stAT (fun _ _ _ => f_s4_eq) (s_astore (i := .astore 4) (len := 2) hq_44 (by decide +kernel) rfl (.inl ⟨rfl, rfl⟩) : e_Sn 44 10 (o_store e_okR 4 12)) t_44_12
noncomputable def n_44_7 : e_Y := u_getf 10 1 (u_old (o_getf (e_f1 10 1) 10) n_44_10) n_44_10
theorem t_44_7 : e_Sn 44 7 (e_un n_44_7) := u_getfT (s_getf (C := er_10) (T := et_10) (N := 11) (ref := "Plateroomprinter$State") (index := 250) (ci := 10) (k := 1) hq_44 ho_44 ⟨rfl, by decide, ei_10, (List.mem_of_getElem? (i := 321) (by decide +kernel)), .inl rfl⟩ (by decide +kernel) rfl : e_Sn 44 7 (o_getf (e_f1 10 1) 10)) t_44_10
noncomputable def n_44_4 : e_Y := u_getf 11 2 (u_old (o_getf (e_f1 11 2) 7) n_44_7) n_44_7
theorem t_44_4 : e_Sn 44 4 (e_un n_44_4) := u_getfT (s_getf (C := er_11) (T := et_11) (N := 15) (ref := "Plateroomprinter$World") (index := 221) (ci := 11) (k := 2) hq_44 ho_44 ⟨rfl, by decide, ei_11, (List.mem_of_getElem? (i := 467) (by decide +kernel)), .inl rfl⟩ (by decide +kernel) rfl : e_Sn 44 4 (o_getf (e_f1 11 2) 7)) t_44_7
noncomputable def n_44_1 : e_Y := u_getf 0 1 (u_old (o_getf (e_f1 0 1) 4) n_44_4) n_44_4
theorem t_44_1 : e_Sn 44 1 (e_un n_44_1) := u_getfT (s_getf (C := er_0) (T := et_0) (N := 17) (ref := "Plateroomprinter") (index := 19) (ci := 0) (k := 1) hq_44 ho_44 ⟨rfl, by decide, ei_0, (List.mem_of_getElem? (i := 681) (by decide +kernel)), .inl rfl⟩ (by decide +kernel) rfl : e_Sn 44 1 (o_getf (e_f1 0 1) 4)) t_44_4
noncomputable def n_44_0 : e_Y := u_ld f_okA f_l0 n_44_1
theorem t_44_0 : e_Sn 44 0 (e_un n_44_0) := u_ldAT f_l0_eq (s_aload (i := .aload_n 0) (len := 1) hq_44 (by decide +kernel) rfl (.inr ⟨0, rfl, rfl, rfl⟩) : e_Sn 44 0 (o_load e_okR 0 1)) t_44_1
noncomputable def e_tb_44 : e_X := (e_lf 0 (e_un n_44_0))
theorem e_tk_44 : e_Tb 44 e_tb_44 := (e_lfT t_44_0)
theorem hq_45 : (e_ml[45]?).map (·.2.1) = some prog_1_method_21_code := rfl
theorem ho_45 : (e_ml[45]?).map (·.1.cls) = some "Plateroomprinter" := rfl
theorem hr_45 : (e_ml[45]?).map (·.2.2.2) = some (some .int) := rfl
noncomputable def n_45_23 : e_Y := u_tab (o_throw 2)
theorem t_45_23 : e_Sn 45 23 (e_un n_45_23) := u_tabT (s_throw (ik := 175) (is := 291) (ic := 179) (X := "java/lang/IndexOutOfBoundsException") (text := "no such ring") hq_45 ho_45 hy_45 hc_45 rfl (by decide +kernel) e_wok2 (by simp [e_sr]) (by decide +kernel) (by decide +kernel) (.inr ⟨(by decide +kernel), (by decide +kernel), (by decide +kernel)⟩) : e_Sn 45 23 (o_throw 2))
noncomputable def n_45_20 : e_Y := u_jmp y_ge (u_old2 (o_clt 34 23) 34 (u_at 34) n_45_23) (u_at 34) n_45_23
theorem t_45_20 : e_Sn 45 20 (e_un n_45_20) := u_cltT rfl (s_clt (off := (14)) hq_45 (by decide +kernel) rfl rfl : e_Sn 45 20 (o_clt 34 23)) u_atT t_45_23
noncomputable def n_45_17 : e_Y := u_getf 7 4 (u_old (o_getf (e_f1 7 4) 20) n_45_20) n_45_20
theorem t_45_17 : e_Sn 45 17 (e_un n_45_17) := u_getfT (s_getf (C := er_7) (T := et_7) (N := 6) (ref := "Plateroomprinter$Path") (index := 254) (ci := 7) (k := 4) hq_45 ho_45 ⟨rfl, by decide, ei_7, (List.mem_of_getElem? (i := 298) (by decide +kernel)), .inl rfl⟩ (by decide +kernel) rfl : e_Sn 45 17 (o_getf (e_f1 7 4) 20)) t_45_20
noncomputable def n_45_16 : e_Y := u_ld f_okA f_l3 n_45_17
theorem t_45_16 : e_Sn 45 16 (e_un n_45_16) := u_ldAT f_l3_eq (s_aload (i := .aload_n 3) (len := 1) hq_45 (by decide +kernel) rfl (.inr ⟨3, rfl, rfl, rfl⟩) : e_Sn 45 16 (o_load e_okR 3 17)) t_45_17
noncomputable def n_45_15 : e_Y := u_ld f_okI f_l1 n_45_16
theorem t_45_15 : e_Sn 45 15 (e_un n_45_15) := u_ldIT f_l1_eq (s_iload (i := .iload_n 1) (len := 1) hq_45 (by decide +kernel) rfl (.inr ⟨1, rfl, rfl, rfl⟩) : e_Sn 45 15 (o_load e_okI 1 16)) t_45_16
noncomputable def n_45_12 : e_Y := u_if y_ge0 (u_old2 (o_iflt 23 15) 23 n_45_23 n_45_15) n_45_23 n_45_15
theorem t_45_12 : e_Sn 45 12 (e_un n_45_12) := u_ifltT rfl (s_iflt (off := (11)) hq_45 (by decide +kernel) rfl rfl : e_Sn 45 12 (o_iflt 23 15)) t_45_23 t_45_15
noncomputable def n_45_11 : e_Y := u_ld f_okI f_l1 n_45_12
theorem t_45_11 : e_Sn 45 11 (e_un n_45_11) := u_ldIT f_l1_eq (s_iload (i := .iload_n 1) (len := 1) hq_45 (by decide +kernel) rfl (.inr ⟨1, rfl, rfl, rfl⟩) : e_Sn 45 11 (o_load e_okI 1 12)) t_45_12
noncomputable def n_45_10 : e_Y := u_st f_okA f_s3 n_45_11
theorem t_45_10 : e_Sn 45 10 (e_un n_45_10) := u_stAT (fun _ _ _ => f_s3_eq) (s_astore (i := .astore_n 3) (len := 1) hq_45 (by decide +kernel) rfl (.inr ⟨3, rfl, rfl, rfl⟩) : e_Sn 45 10 (o_store e_okR 3 11)) t_45_11
noncomputable def n_45_7 : e_Y := u_getf 10 1 (u_old (o_getf (e_f1 10 1) 10) n_45_10) n_45_10
theorem t_45_7 : e_Sn 45 7 (e_un n_45_7) := u_getfT (s_getf (C := er_10) (T := et_10) (N := 11) (ref := "Plateroomprinter$State") (index := 250) (ci := 10) (k := 1) hq_45 ho_45 ⟨rfl, by decide, ei_10, (List.mem_of_getElem? (i := 321) (by decide +kernel)), .inl rfl⟩ (by decide +kernel) rfl : e_Sn 45 7 (o_getf (e_f1 10 1) 10)) t_45_10
noncomputable def n_45_4 : e_Y := u_getf 11 2 (u_old (o_getf (e_f1 11 2) 7) n_45_7) n_45_7
theorem t_45_4 : e_Sn 45 4 (e_un n_45_4) := u_getfT (s_getf (C := er_11) (T := et_11) (N := 15) (ref := "Plateroomprinter$World") (index := 221) (ci := 11) (k := 2) hq_45 ho_45 ⟨rfl, by decide, ei_11, (List.mem_of_getElem? (i := 467) (by decide +kernel)), .inl rfl⟩ (by decide +kernel) rfl : e_Sn 45 4 (o_getf (e_f1 11 2) 7)) t_45_7
noncomputable def n_45_1 : e_Y := u_getf 0 1 (u_old (o_getf (e_f1 0 1) 4) n_45_4) n_45_4
theorem t_45_1 : e_Sn 45 1 (e_un n_45_1) := u_getfT (s_getf (C := er_0) (T := et_0) (N := 17) (ref := "Plateroomprinter") (index := 19) (ci := 0) (k := 1) hq_45 ho_45 ⟨rfl, by decide, ei_0, (List.mem_of_getElem? (i := 681) (by decide +kernel)), .inl rfl⟩ (by decide +kernel) rfl : e_Sn 45 1 (o_getf (e_f1 0 1) 4)) t_45_4
noncomputable def n_45_0 : e_Y := u_ld f_okA f_l0 n_45_1
theorem t_45_0 : e_Sn 45 0 (e_un n_45_0) := u_ldAT f_l0_eq (s_aload (i := .aload_n 0) (len := 1) hq_45 (by decide +kernel) rfl (.inr ⟨0, rfl, rfl, rfl⟩) : e_Sn 45 0 (o_load e_okR 0 1)) t_45_1
noncomputable def e_tb_45 : e_X := (e_lf 0 (e_un n_45_0))
theorem e_tk_45 : e_Tb 45 e_tb_45 := (e_lfT t_45_0)
theorem hq_61 : (e_ml[61]?).map (·.2.1) = some prog_2_method_6_code := rfl
theorem ho_61 : (e_ml[61]?).map (·.1.cls) = some "Plateroomprinter$Code" := rfl
theorem hr_61 : (e_ml[61]?).map (·.2.2.2) = some none := rfl
noncomputable def n_61_33 : e_Y := u_tab (o_retv)
theorem t_61_33 : e_Sn 61 33 (e_un n_61_33) := u_tabT (s_vret hq_61 hr_61 (by decide +kernel) : e_Sn 61 33 (o_retv))
noncomputable def n_61_25 : e_Y := u_jmp y_le (u_old2 (o_cgt 28 33) 28 (u_at 28) n_61_33) (u_at 28) n_61_33
theorem t_61_25 : e_Sn 61 25 (e_un n_61_25) := u_cgtT rfl (s_cle (off := (8)) hq_61 (by decide +kernel) rfl rfl : e_Sn 61 25 (o_cgt 28 33)) u_atT t_61_33
noncomputable def n_61_22 : e_Y := u_push (.inl 2147485248) n_61_25
theorem t_61_22 : e_Sn 61 22 (e_un n_61_22) := u_pushT (s_sipush (n := (1600)) hq_61 (by decide +kernel) rfl ⟨by decide +kernel, by decide +kernel⟩ : e_Sn 61 22 (o_push (.inl 2147485248) 25)) t_61_25
noncomputable def n_61_19 : e_Y := u_getf 1 2 (u_old (o_getf (e_f1 1 2) 22) n_61_22) n_61_22
theorem t_61_19 : e_Sn 61 19 (e_un n_61_19) := u_getfT (s_getf (C := er_1) (T := et_1) (N := 4) (ref := "Plateroomprinter$Code") (index := 18) (ci := 1) (k := 2) hq_61 ho_61 ⟨rfl, by decide, ei_1, (List.mem_of_getElem? (i := 200) (by decide +kernel)), .inl rfl⟩ (by decide +kernel) rfl : e_Sn 61 19 (o_getf (e_f1 1 2) 22)) t_61_22
noncomputable def n_61_18 : e_Y := u_ld f_okA f_l0 n_61_19
theorem t_61_18 : e_Sn 61 18 (e_un n_61_18) := u_ldAT f_l0_eq (s_aload (i := .aload_n 0) (len := 1) hq_61 (by decide +kernel) rfl (.inr ⟨0, rfl, rfl, rfl⟩) : e_Sn 61 18 (o_load e_okR 0 19)) t_61_19
noncomputable def n_61_15 : e_Y := u_old (o_putf (e_f1 1 3) e_okI 18) n_61_18
theorem t_61_15 : e_Sn 61 15 (e_un n_61_15) := u_oldT (s_putf (ty0 := ey_1) (ok := e_okI) (C := er_1) (T := et_1) (N := 4) (ref := "Plateroomprinter$Code") (index := 22) (ci := 1) (k := 3) hq_61 ho_61 ⟨rfl, by decide, ei_1, (List.mem_of_getElem? (i := 203) (by decide +kernel)), .inl rfl⟩ eo_1 en_1 e_oksI (.inl rfl) (by decide +kernel) rfl : e_Sn 61 15 (o_putf (e_f1 1 3) e_okI 18)) t_61_18 (e_cg_putf (e_f1 1 3) e_okI)
noncomputable def n_61_14 : e_Y := u_push (.inl 2147483648) n_61_15
theorem t_61_14 : e_Sn 61 14 (e_un n_61_14) := u_pushT (s_iconst (n := (0)) hq_61 (by decide +kernel) rfl ⟨by decide +kernel, by decide +kernel⟩ : e_Sn 61 14 (o_push (.inl 2147483648) 15)) t_61_15
noncomputable def n_61_13 : e_Y := u_ld f_okA f_l0 n_61_14
theorem t_61_13 : e_Sn 61 13 (e_un n_61_13) := u_ldAT f_l0_eq (s_aload (i := .aload_n 0) (len := 1) hq_61 (by decide +kernel) rfl (.inr ⟨0, rfl, rfl, rfl⟩) : e_Sn 61 13 (o_load e_okR 0 14)) t_61_14
noncomputable def n_61_10 : e_Y := u_old (o_putf (e_f1 1 2) e_okI 13) n_61_13
theorem t_61_10 : e_Sn 61 10 (e_un n_61_10) := u_oldT (s_putf (ty0 := ey_1) (ok := e_okI) (C := er_1) (T := et_1) (N := 4) (ref := "Plateroomprinter$Code") (index := 18) (ci := 1) (k := 2) hq_61 ho_61 ⟨rfl, by decide, ei_1, (List.mem_of_getElem? (i := 200) (by decide +kernel)), .inl rfl⟩ eo_1 en_1 e_oksI (.inl rfl) (by decide +kernel) rfl : e_Sn 61 10 (o_putf (e_f1 1 2) e_okI 13)) t_61_13 (e_cg_putf (e_f1 1 2) e_okI)
noncomputable def n_61_9 : e_Y := u_bin a_iadd (u_old (o_iadd 10) n_61_10) n_61_10
theorem t_61_9 : e_Sn 61 9 (e_un n_61_9) := u_iaddT (s_iadd hq_61 (by decide +kernel) rfl : e_Sn 61 9 (o_iadd 10)) t_61_10
noncomputable def n_61_6 : e_Y := u_getf 1 3 (u_old (o_getf (e_f1 1 3) 9) n_61_9) n_61_9
theorem t_61_6 : e_Sn 61 6 (e_un n_61_6) := u_getfT (s_getf (C := er_1) (T := et_1) (N := 4) (ref := "Plateroomprinter$Code") (index := 22) (ci := 1) (k := 3) hq_61 ho_61 ⟨rfl, by decide, ei_1, (List.mem_of_getElem? (i := 203) (by decide +kernel)), .inl rfl⟩ (by decide +kernel) rfl : e_Sn 61 6 (o_getf (e_f1 1 3) 9)) t_61_9
noncomputable def n_61_5 : e_Y := u_ld f_okA f_l0 n_61_6
theorem t_61_5 : e_Sn 61 5 (e_un n_61_5) := u_ldAT f_l0_eq (s_aload (i := .aload_n 0) (len := 1) hq_61 (by decide +kernel) rfl (.inr ⟨0, rfl, rfl, rfl⟩) : e_Sn 61 5 (o_load e_okR 0 6)) t_61_6
noncomputable def n_61_2 : e_Y := u_getf 1 2 (u_old (o_getf (e_f1 1 2) 5) n_61_5) n_61_5
theorem t_61_2 : e_Sn 61 2 (e_un n_61_2) := u_getfT (s_getf (C := er_1) (T := et_1) (N := 4) (ref := "Plateroomprinter$Code") (index := 18) (ci := 1) (k := 2) hq_61 ho_61 ⟨rfl, by decide, ei_1, (List.mem_of_getElem? (i := 200) (by decide +kernel)), .inl rfl⟩ (by decide +kernel) rfl : e_Sn 61 2 (o_getf (e_f1 1 2) 5)) t_61_5
noncomputable def n_61_1 : e_Y := u_old (o_dup 2) n_61_2
theorem t_61_1 : e_Sn 61 1 (e_un n_61_1) := u_oldT (s_dup hq_61 (by decide +kernel) rfl : e_Sn 61 1 (o_dup 2)) t_61_2 e_cg_dup
noncomputable def n_61_0 : e_Y := u_ld f_okA f_l0 n_61_1
theorem t_61_0 : e_Sn 61 0 (e_un n_61_0) := u_ldAT f_l0_eq (s_aload (i := .aload_n 0) (len := 1) hq_61 (by decide +kernel) rfl (.inr ⟨0, rfl, rfl, rfl⟩) : e_Sn 61 0 (o_load e_okR 0 1)) t_61_1
noncomputable def e_tb_61 : e_X := (e_lf 0 (e_un n_61_0))
theorem e_tk_61 : e_Tb 61 e_tb_61 := (e_lfT t_61_0)
theorem hq_64 : (e_ml[64]?).map (·.2.1) = some prog_3_method_11_code := rfl
theorem ho_64 : (e_ml[64]?).map (·.1.cls) = some "Plateroomprinter$Engine" := rfl
theorem hr_64 : (e_ml[64]?).map (·.2.2.2) = some (some .int) := rfl
noncomputable def n_64_82 : e_Y := u_retI
theorem t_64_82 : e_Sn 64 82 (e_un n_64_82) := u_retIT (s_iret hq_64 hr_64 (by decide +kernel) : e_Sn 64 82 (o_ret e_okI))
noncomputable def n_64_81 : e_Y := u_push (.inl 2147483648) n_64_82
theorem t_64_81 : e_Sn 64 81 (e_un n_64_81) := u_pushT (s_iconst (n := (0)) hq_64 (by decide +kernel) rfl ⟨by decide +kernel, by decide +kernel⟩ : e_Sn 64 81 (o_push (.inl 2147483648) 82)) t_64_82
noncomputable def n_64_78 : e_Y := u_old (o_putf (e_f1 2 13) e_okI 81) n_64_81
theorem t_64_78 : e_Sn 64 78 (e_un n_64_78) := u_oldT (s_putf (ty0 := ey_2) (ok := e_okI) (C := er_2) (T := et_2) (N := 19) (ref := "Plateroomprinter$Engine") (index := 53) (ci := 2) (k := 13) hq_64 ho_64 ⟨rfl, by decide, ei_2, (List.mem_of_getElem? (i := 630) (by decide +kernel)), .inl rfl⟩ eo_2 en_2 e_oksI (.inl rfl) (by decide +kernel) rfl : e_Sn 64 78 (o_putf (e_f1 2 13) e_okI 81)) t_64_81 (e_cg_putf (e_f1 2 13) e_okI)
noncomputable def n_64_77 : e_Y := u_bin a_iadd (u_old (o_iadd 78) n_64_78) n_64_78
theorem t_64_77 : e_Sn 64 77 (e_un n_64_77) := u_iaddT (s_iadd hq_64 (by decide +kernel) rfl : e_Sn 64 77 (o_iadd 78)) t_64_78
noncomputable def n_64_76 : e_Y := u_push (.inl 2147483649) n_64_77
theorem t_64_76 : e_Sn 64 76 (e_un n_64_76) := u_pushT (s_iconst (n := (1)) hq_64 (by decide +kernel) rfl ⟨by decide +kernel, by decide +kernel⟩ : e_Sn 64 76 (o_push (.inl 2147483649) 77)) t_64_77
noncomputable def n_64_73 : e_Y := u_getf 2 13 (u_old (o_getf (e_f1 2 13) 76) n_64_76) n_64_76
theorem t_64_73 : e_Sn 64 73 (e_un n_64_73) := u_getfT (s_getf (C := er_2) (T := et_2) (N := 19) (ref := "Plateroomprinter$Engine") (index := 53) (ci := 2) (k := 13) hq_64 ho_64 ⟨rfl, by decide, ei_2, (List.mem_of_getElem? (i := 630) (by decide +kernel)), .inl rfl⟩ (by decide +kernel) rfl : e_Sn 64 73 (o_getf (e_f1 2 13) 76)) t_64_76
noncomputable def n_64_72 : e_Y := u_old (o_dup 73) n_64_73
theorem t_64_72 : e_Sn 64 72 (e_un n_64_72) := u_oldT (s_dup hq_64 (by decide +kernel) rfl : e_Sn 64 72 (o_dup 73)) t_64_73 e_cg_dup
noncomputable def n_64_71 : e_Y := u_ld f_okA f_l0 n_64_72
theorem t_64_71 : e_Sn 64 71 (e_un n_64_71) := u_ldAT f_l0_eq (s_aload (i := .aload_n 0) (len := 1) hq_64 (by decide +kernel) rfl (.inr ⟨0, rfl, rfl, rfl⟩) : e_Sn 64 71 (o_load e_okR 0 72)) t_64_72
noncomputable def n_64_70 : e_Y := u_old (o_ast 0 e_okI 71) n_64_71
theorem t_64_70 : e_Sn 64 70 (e_un n_64_70) := u_oldT (s_iast hq_64 (by decide +kernel) rfl : e_Sn 64 70 (o_ast 0 e_okI 71)) t_64_71 (e_cg_ast 0 e_okI)
noncomputable def n_64_69 : e_Y := u_push (.inl 2147483648) n_64_70
theorem t_64_69 : e_Sn 64 69 (e_un n_64_69) := u_pushT (s_iconst (n := (0)) hq_64 (by decide +kernel) rfl ⟨by decide +kernel, by decide +kernel⟩ : e_Sn 64 69 (o_push (.inl 2147483648) 70)) t_64_70
noncomputable def n_64_66 : e_Y := u_getf 2 13 (u_old (o_getf (e_f1 2 13) 69) n_64_69) n_64_69
theorem t_64_66 : e_Sn 64 66 (e_un n_64_66) := u_getfT (s_getf (C := er_2) (T := et_2) (N := 19) (ref := "Plateroomprinter$Engine") (index := 53) (ci := 2) (k := 13) hq_64 ho_64 ⟨rfl, by decide, ei_2, (List.mem_of_getElem? (i := 630) (by decide +kernel)), .inl rfl⟩ (by decide +kernel) rfl : e_Sn 64 66 (o_getf (e_f1 2 13) 69)) t_64_69
noncomputable def n_64_65 : e_Y := u_ld f_okA f_l0 n_64_66
theorem t_64_65 : e_Sn 64 65 (e_un n_64_65) := u_ldAT f_l0_eq (s_aload (i := .aload_n 0) (len := 1) hq_64 (by decide +kernel) rfl (.inr ⟨0, rfl, rfl, rfl⟩) : e_Sn 64 65 (o_load e_okR 0 66)) t_64_66
noncomputable def n_64_62 : e_Y := u_getf 2 9 (u_old (o_getf (e_f1 2 9) 65) n_64_65) n_64_65
theorem t_64_62 : e_Sn 64 62 (e_un n_64_62) := u_getfT (s_getf (C := er_2) (T := et_2) (N := 19) (ref := "Plateroomprinter$Engine") (index := 33) (ci := 2) (k := 9) hq_64 ho_64 ⟨rfl, by decide, ei_2, (List.mem_of_getElem? (i := 626) (by decide +kernel)), .inl rfl⟩ (by decide +kernel) rfl : e_Sn 64 62 (o_getf (e_f1 2 9) 65)) t_64_65
noncomputable def n_64_61 : e_Y := u_ld f_okA f_l0 n_64_62
theorem t_64_61 : e_Sn 64 61 (e_un n_64_61) := u_ldAT f_l0_eq (s_aload (i := .aload_n 0) (len := 1) hq_64 (by decide +kernel) rfl (.inr ⟨0, rfl, rfl, rfl⟩) : e_Sn 64 61 (o_load e_okR 0 62)) t_64_62
noncomputable def n_64_60 : e_Y := u_old (o_ast 0 e_okI 61) n_64_61
theorem t_64_60 : e_Sn 64 60 (e_un n_64_60) := u_oldT (s_iast hq_64 (by decide +kernel) rfl : e_Sn 64 60 (o_ast 0 e_okI 61)) t_64_61 (e_cg_ast 0 e_okI)
noncomputable def n_64_59 : e_Y := u_ld f_okI f_l1 n_64_60
theorem t_64_59 : e_Sn 64 59 (e_un n_64_59) := u_ldIT f_l1_eq (s_iload (i := .iload_n 1) (len := 1) hq_64 (by decide +kernel) rfl (.inr ⟨1, rfl, rfl, rfl⟩) : e_Sn 64 59 (o_load e_okI 1 60)) t_64_60
noncomputable def n_64_56 : e_Y := u_getf 2 13 (u_old (o_getf (e_f1 2 13) 59) n_64_59) n_64_59
theorem t_64_56 : e_Sn 64 56 (e_un n_64_56) := u_getfT (s_getf (C := er_2) (T := et_2) (N := 19) (ref := "Plateroomprinter$Engine") (index := 53) (ci := 2) (k := 13) hq_64 ho_64 ⟨rfl, by decide, ei_2, (List.mem_of_getElem? (i := 630) (by decide +kernel)), .inl rfl⟩ (by decide +kernel) rfl : e_Sn 64 56 (o_getf (e_f1 2 13) 59)) t_64_59
noncomputable def n_64_55 : e_Y := u_ld f_okA f_l0 n_64_56
theorem t_64_55 : e_Sn 64 55 (e_un n_64_55) := u_ldAT f_l0_eq (s_aload (i := .aload_n 0) (len := 1) hq_64 (by decide +kernel) rfl (.inr ⟨0, rfl, rfl, rfl⟩) : e_Sn 64 55 (o_load e_okR 0 56)) t_64_56
noncomputable def n_64_52 : e_Y := u_getf 2 8 (u_old (o_getf (e_f1 2 8) 55) n_64_55) n_64_55
theorem t_64_52 : e_Sn 64 52 (e_un n_64_52) := u_getfT (s_getf (C := er_2) (T := et_2) (N := 19) (ref := "Plateroomprinter$Engine") (index := 30) (ci := 2) (k := 8) hq_64 ho_64 ⟨rfl, by decide, ei_2, (List.mem_of_getElem? (i := 625) (by decide +kernel)), .inl rfl⟩ (by decide +kernel) rfl : e_Sn 64 52 (o_getf (e_f1 2 8) 55)) t_64_55
noncomputable def n_64_51 : e_Y := u_ld f_okA f_l0 n_64_52
theorem t_64_51 : e_Sn 64 51 (e_un n_64_51) := u_ldAT f_l0_eq (s_aload (i := .aload_n 0) (len := 1) hq_64 (by decide +kernel) rfl (.inr ⟨0, rfl, rfl, rfl⟩) : e_Sn 64 51 (o_load e_okR 0 52)) t_64_52
noncomputable def n_64_50 : e_Y := u_old (o_ast 0 e_okI 51) n_64_51
theorem t_64_50 : e_Sn 64 50 (e_un n_64_50) := u_oldT (s_iast hq_64 (by decide +kernel) rfl : e_Sn 64 50 (o_ast 0 e_okI 51)) t_64_51 (e_cg_ast 0 e_okI)
noncomputable def n_64_49 : e_Y := u_ld f_okI f_l1 n_64_50
theorem t_64_49 : e_Sn 64 49 (e_un n_64_49) := u_ldIT f_l1_eq (s_iload (i := .iload_n 1) (len := 1) hq_64 (by decide +kernel) rfl (.inr ⟨1, rfl, rfl, rfl⟩) : e_Sn 64 49 (o_load e_okI 1 50)) t_64_50
noncomputable def n_64_46 : e_Y := u_getf 2 13 (u_old (o_getf (e_f1 2 13) 49) n_64_49) n_64_49
theorem t_64_46 : e_Sn 64 46 (e_un n_64_46) := u_getfT (s_getf (C := er_2) (T := et_2) (N := 19) (ref := "Plateroomprinter$Engine") (index := 53) (ci := 2) (k := 13) hq_64 ho_64 ⟨rfl, by decide, ei_2, (List.mem_of_getElem? (i := 630) (by decide +kernel)), .inl rfl⟩ (by decide +kernel) rfl : e_Sn 64 46 (o_getf (e_f1 2 13) 49)) t_64_49
noncomputable def n_64_45 : e_Y := u_ld f_okA f_l0 n_64_46
theorem t_64_45 : e_Sn 64 45 (e_un n_64_45) := u_ldAT f_l0_eq (s_aload (i := .aload_n 0) (len := 1) hq_64 (by decide +kernel) rfl (.inr ⟨0, rfl, rfl, rfl⟩) : e_Sn 64 45 (o_load e_okR 0 46)) t_64_46
noncomputable def n_64_42 : e_Y := u_getf 2 7 (u_old (o_getf (e_f1 2 7) 45) n_64_45) n_64_45
theorem t_64_42 : e_Sn 64 42 (e_un n_64_42) := u_getfT (s_getf (C := er_2) (T := et_2) (N := 19) (ref := "Plateroomprinter$Engine") (index := 27) (ci := 2) (k := 7) hq_64 ho_64 ⟨rfl, by decide, ei_2, (List.mem_of_getElem? (i := 624) (by decide +kernel)), .inl rfl⟩ (by decide +kernel) rfl : e_Sn 64 42 (o_getf (e_f1 2 7) 45)) t_64_45
noncomputable def n_64_41 : e_Y := u_ld f_okA f_l0 n_64_42
theorem t_64_41 : e_Sn 64 41 (e_un n_64_41) := u_ldAT f_l0_eq (s_aload (i := .aload_n 0) (len := 1) hq_64 (by decide +kernel) rfl (.inr ⟨0, rfl, rfl, rfl⟩) : e_Sn 64 41 (o_load e_okR 0 42)) t_64_42
noncomputable def n_64_40 : e_Y := u_old (o_ast 0 e_okI 41) n_64_41
theorem t_64_40 : e_Sn 64 40 (e_un n_64_40) := u_oldT (s_iast hq_64 (by decide +kernel) rfl : e_Sn 64 40 (o_ast 0 e_okI 41)) t_64_41 (e_cg_ast 0 e_okI)
noncomputable def n_64_39 : e_Y := u_bin a_iadd (u_old (o_iadd 40) n_64_40) n_64_40
theorem t_64_39 : e_Sn 64 39 (e_un n_64_39) := u_iaddT (s_iadd hq_64 (by decide +kernel) rfl : e_Sn 64 39 (o_iadd 40)) t_64_40
noncomputable def n_64_38 : e_Y := u_ld f_okI f_l2 n_64_39
theorem t_64_38 : e_Sn 64 38 (e_un n_64_38) := u_ldIT f_l2_eq (s_iload (i := .iload_n 2) (len := 1) hq_64 (by decide +kernel) rfl (.inr ⟨2, rfl, rfl, rfl⟩) : e_Sn 64 38 (o_load e_okI 2 39)) t_64_39
noncomputable def n_64_37 : e_Y := u_ld f_okI f_l1 n_64_38
theorem t_64_37 : e_Sn 64 37 (e_un n_64_37) := u_ldIT f_l1_eq (s_iload (i := .iload_n 1) (len := 1) hq_64 (by decide +kernel) rfl (.inr ⟨1, rfl, rfl, rfl⟩) : e_Sn 64 37 (o_load e_okI 1 38)) t_64_38
noncomputable def n_64_34 : e_Y := u_getf 2 13 (u_old (o_getf (e_f1 2 13) 37) n_64_37) n_64_37
theorem t_64_34 : e_Sn 64 34 (e_un n_64_34) := u_getfT (s_getf (C := er_2) (T := et_2) (N := 19) (ref := "Plateroomprinter$Engine") (index := 53) (ci := 2) (k := 13) hq_64 ho_64 ⟨rfl, by decide, ei_2, (List.mem_of_getElem? (i := 630) (by decide +kernel)), .inl rfl⟩ (by decide +kernel) rfl : e_Sn 64 34 (o_getf (e_f1 2 13) 37)) t_64_37
noncomputable def n_64_33 : e_Y := u_ld f_okA f_l0 n_64_34
theorem t_64_33 : e_Sn 64 33 (e_un n_64_33) := u_ldAT f_l0_eq (s_aload (i := .aload_n 0) (len := 1) hq_64 (by decide +kernel) rfl (.inr ⟨0, rfl, rfl, rfl⟩) : e_Sn 64 33 (o_load e_okR 0 34)) t_64_34
noncomputable def n_64_30 : e_Y := u_getf 2 6 (u_old (o_getf (e_f1 2 6) 33) n_64_33) n_64_33
theorem t_64_30 : e_Sn 64 30 (e_un n_64_30) := u_getfT (s_getf (C := er_2) (T := et_2) (N := 19) (ref := "Plateroomprinter$Engine") (index := 24) (ci := 2) (k := 6) hq_64 ho_64 ⟨rfl, by decide, ei_2, (List.mem_of_getElem? (i := 623) (by decide +kernel)), .inl rfl⟩ (by decide +kernel) rfl : e_Sn 64 30 (o_getf (e_f1 2 6) 33)) t_64_33
noncomputable def n_64_29 : e_Y := u_ld f_okA f_l0 n_64_30
theorem t_64_29 : e_Sn 64 29 (e_un n_64_29) := u_ldAT f_l0_eq (s_aload (i := .aload_n 0) (len := 1) hq_64 (by decide +kernel) rfl (.inr ⟨0, rfl, rfl, rfl⟩) : e_Sn 64 29 (o_load e_okR 0 30)) t_64_30
noncomputable def n_64_28 : e_Y := u_old (o_ast 0 e_okI 29) n_64_29
theorem t_64_28 : e_Sn 64 28 (e_un n_64_28) := u_oldT (s_iast hq_64 (by decide +kernel) rfl : e_Sn 64 28 (o_ast 0 e_okI 29)) t_64_29 (e_cg_ast 0 e_okI)
noncomputable def n_64_27 : e_Y := u_ld f_okI f_l1 n_64_28
theorem t_64_27 : e_Sn 64 27 (e_un n_64_27) := u_ldIT f_l1_eq (s_iload (i := .iload_n 1) (len := 1) hq_64 (by decide +kernel) rfl (.inr ⟨1, rfl, rfl, rfl⟩) : e_Sn 64 27 (o_load e_okI 1 28)) t_64_28
noncomputable def n_64_24 : e_Y := u_getf 2 13 (u_old (o_getf (e_f1 2 13) 27) n_64_27) n_64_27
theorem t_64_24 : e_Sn 64 24 (e_un n_64_24) := u_getfT (s_getf (C := er_2) (T := et_2) (N := 19) (ref := "Plateroomprinter$Engine") (index := 53) (ci := 2) (k := 13) hq_64 ho_64 ⟨rfl, by decide, ei_2, (List.mem_of_getElem? (i := 630) (by decide +kernel)), .inl rfl⟩ (by decide +kernel) rfl : e_Sn 64 24 (o_getf (e_f1 2 13) 27)) t_64_27
noncomputable def n_64_23 : e_Y := u_ld f_okA f_l0 n_64_24
theorem t_64_23 : e_Sn 64 23 (e_un n_64_23) := u_ldAT f_l0_eq (s_aload (i := .aload_n 0) (len := 1) hq_64 (by decide +kernel) rfl (.inr ⟨0, rfl, rfl, rfl⟩) : e_Sn 64 23 (o_load e_okR 0 24)) t_64_24
noncomputable def n_64_20 : e_Y := u_getf 2 5 (u_old (o_getf (e_f1 2 5) 23) n_64_23) n_64_23
theorem t_64_20 : e_Sn 64 20 (e_un n_64_20) := u_getfT (s_getf (C := er_2) (T := et_2) (N := 19) (ref := "Plateroomprinter$Engine") (index := 21) (ci := 2) (k := 5) hq_64 ho_64 ⟨rfl, by decide, ei_2, (List.mem_of_getElem? (i := 622) (by decide +kernel)), .inl rfl⟩ (by decide +kernel) rfl : e_Sn 64 20 (o_getf (e_f1 2 5) 23)) t_64_23
noncomputable def n_64_19 : e_Y := u_ld f_okA f_l0 n_64_20
theorem t_64_19 : e_Sn 64 19 (e_un n_64_19) := u_ldAT f_l0_eq (s_aload (i := .aload_n 0) (len := 1) hq_64 (by decide +kernel) rfl (.inr ⟨0, rfl, rfl, rfl⟩) : e_Sn 64 19 (o_load e_okR 0 20)) t_64_20
noncomputable def n_64_13 : e_Y := u_jmp y_ge (u_old2 (o_clt 19 16) 19 n_64_19 (u_at 16)) n_64_19 (u_at 16)
theorem t_64_13 : e_Sn 64 13 (e_un n_64_13) := u_cltT rfl (s_clt (off := (6)) hq_64 (by decide +kernel) rfl rfl : e_Sn 64 13 (o_clt 19 16)) t_64_19 u_atT
noncomputable def n_64_11 : e_Y := u_push (.inl 2147483660) n_64_13
theorem t_64_11 : e_Sn 64 11 (e_un n_64_11) := u_pushT (s_bipush (n := (12)) hq_64 (by decide +kernel) rfl ⟨by decide +kernel, by decide +kernel⟩ : e_Sn 64 11 (o_push (.inl 2147483660) 13)) t_64_13
noncomputable def n_64_8 : e_Y := u_getf 2 13 (u_old (o_getf (e_f1 2 13) 11) n_64_11) n_64_11
theorem t_64_8 : e_Sn 64 8 (e_un n_64_8) := u_getfT (s_getf (C := er_2) (T := et_2) (N := 19) (ref := "Plateroomprinter$Engine") (index := 53) (ci := 2) (k := 13) hq_64 ho_64 ⟨rfl, by decide, ei_2, (List.mem_of_getElem? (i := 630) (by decide +kernel)), .inl rfl⟩ (by decide +kernel) rfl : e_Sn 64 8 (o_getf (e_f1 2 13) 11)) t_64_11
noncomputable def n_64_7 : e_Y := u_ld f_okA f_l0 n_64_8
theorem t_64_7 : e_Sn 64 7 (e_un n_64_7) := u_ldAT f_l0_eq (s_aload (i := .aload_n 0) (len := 1) hq_64 (by decide +kernel) rfl (.inr ⟨0, rfl, rfl, rfl⟩) : e_Sn 64 7 (o_load e_okR 0 8)) t_64_8
noncomputable def n_64_4 : e_Y := u_if y_ge0 (u_old2 (o_iflt 16 7) 16 (u_at 16) n_64_7) (u_at 16) n_64_7
theorem t_64_4 : e_Sn 64 4 (e_un n_64_4) := u_ifltT rfl (s_iflt (off := (12)) hq_64 (by decide +kernel) rfl rfl : e_Sn 64 4 (o_iflt 16 7)) u_atT t_64_7
noncomputable def n_64_1 : e_Y := u_getf 2 13 (u_old (o_getf (e_f1 2 13) 4) n_64_4) n_64_4
theorem t_64_1 : e_Sn 64 1 (e_un n_64_1) := u_getfT (s_getf (C := er_2) (T := et_2) (N := 19) (ref := "Plateroomprinter$Engine") (index := 53) (ci := 2) (k := 13) hq_64 ho_64 ⟨rfl, by decide, ei_2, (List.mem_of_getElem? (i := 630) (by decide +kernel)), .inl rfl⟩ (by decide +kernel) rfl : e_Sn 64 1 (o_getf (e_f1 2 13) 4)) t_64_4
noncomputable def n_64_0 : e_Y := u_ld f_okA f_l0 n_64_1
theorem t_64_0 : e_Sn 64 0 (e_un n_64_0) := u_ldAT f_l0_eq (s_aload (i := .aload_n 0) (len := 1) hq_64 (by decide +kernel) rfl (.inr ⟨0, rfl, rfl, rfl⟩) : e_Sn 64 0 (o_load e_okR 0 1)) t_64_1
noncomputable def e_tb_64 : e_X := (e_lf 0 (e_un n_64_0))
theorem e_tk_64 : e_Tb 64 e_tb_64 := (e_lfT t_64_0)
theorem hq_63 : (e_ml[63]?).map (·.2.1) = some prog_3_method_2_code := rfl
theorem ho_63 : (e_ml[63]?).map (·.1.cls) = some "Plateroomprinter$Engine" := rfl
theorem hr_63 : (e_ml[63]?).map (·.2.2.2) = some none := rfl
noncomputable def n_63_34 : e_Y := u_tab (o_retv)
theorem t_63_34 : e_Sn 63 34 (e_un n_63_34) := u_tabT (s_vret hq_63 hr_63 (by decide +kernel) : e_Sn 63 34 (o_retv))
noncomputable def n_63_33 : e_Y := u_pop n_63_34
theorem t_63_33 : e_Sn 63 33 (e_un n_63_33) := u_popT (s_pop hq_63 (by decide +kernel) rfl : e_Sn 63 33 (o_pop 34)) t_63_34
noncomputable def n_63_30 : e_Y := u_callV 2 64 3 22 3 n_64_0 n_63_33
theorem t_63_30 : e_Sn 63 30 (e_un n_63_30) := u_callVT rfl (s_callV (ci := 2) (C := er_2) (T := et_2) (N := 19) (index := 71) hq_63 ho_63 hy_64 hp_64 hc_64 hi_64 hd_64 (List.mem_of_getElem? (i := 784) (by decide +kernel)) hs_64 (List.mem_of_getElem? (i := 0) (by decide +kernel)) rfl (by decide +kernel) rfl : e_Sn 63 30 (o_callV (e_s1 2 64 3) 3 33)) t_64_0 t_63_33
noncomputable def n_63_27 : e_Y := u_getf 1 3 (u_old (o_getf (e_f1 1 3) 30) n_63_30) n_63_30
theorem t_63_27 : e_Sn 63 27 (e_un n_63_27) := u_getfT (s_getf (C := er_1) (T := et_1) (N := 4) (ref := "Plateroomprinter$Code") (index := 68) (ci := 1) (k := 3) hq_63 ho_63 ⟨rfl, by decide, ei_1, (List.mem_of_getElem? (i := 205) (by decide +kernel)), .inl rfl⟩ (by decide +kernel) rfl : e_Sn 63 27 (o_getf (e_f1 1 3) 30)) t_63_30
noncomputable def n_63_24 : e_Y := u_getf 2 1 (u_old (o_getf (e_f1 2 1) 27) n_63_27) n_63_27
theorem t_63_24 : e_Sn 63 24 (e_un n_63_24) := u_getfT (s_getf (C := er_2) (T := et_2) (N := 19) (ref := "Plateroomprinter$Engine") (index := 49) (ci := 2) (k := 1) hq_63 ho_63 ⟨rfl, by decide, ei_2, (List.mem_of_getElem? (i := 617) (by decide +kernel)), .inl rfl⟩ (by decide +kernel) rfl : e_Sn 63 24 (o_getf (e_f1 2 1) 27)) t_63_27
noncomputable def n_63_23 : e_Y := u_ld f_okA f_l0 n_63_24
theorem t_63_23 : e_Sn 63 23 (e_un n_63_23) := u_ldAT f_l0_eq (s_aload (i := .aload_n 0) (len := 1) hq_63 (by decide +kernel) rfl (.inr ⟨0, rfl, rfl, rfl⟩) : e_Sn 63 23 (o_load e_okR 0 24)) t_63_24
noncomputable def n_63_20 : e_Y := u_getf 1 2 (u_old (o_getf (e_f1 1 2) 23) n_63_23) n_63_23
theorem t_63_20 : e_Sn 63 20 (e_un n_63_20) := u_getfT (s_getf (C := er_1) (T := et_1) (N := 4) (ref := "Plateroomprinter$Code") (index := 63) (ci := 1) (k := 2) hq_63 ho_63 ⟨rfl, by decide, ei_1, (List.mem_of_getElem? (i := 201) (by decide +kernel)), .inl rfl⟩ (by decide +kernel) rfl : e_Sn 63 20 (o_getf (e_f1 1 2) 23)) t_63_23
noncomputable def n_63_17 : e_Y := u_getf 2 1 (u_old (o_getf (e_f1 2 1) 20) n_63_20) n_63_20
theorem t_63_17 : e_Sn 63 17 (e_un n_63_17) := u_getfT (s_getf (C := er_2) (T := et_2) (N := 19) (ref := "Plateroomprinter$Engine") (index := 49) (ci := 2) (k := 1) hq_63 ho_63 ⟨rfl, by decide, ei_2, (List.mem_of_getElem? (i := 617) (by decide +kernel)), .inl rfl⟩ (by decide +kernel) rfl : e_Sn 63 17 (o_getf (e_f1 2 1) 20)) t_63_20
noncomputable def n_63_16 : e_Y := u_ld f_okA f_l0 n_63_17
theorem t_63_16 : e_Sn 63 16 (e_un n_63_16) := u_ldAT f_l0_eq (s_aload (i := .aload_n 0) (len := 1) hq_63 (by decide +kernel) rfl (.inr ⟨0, rfl, rfl, rfl⟩) : e_Sn 63 16 (o_load e_okR 0 17)) t_63_17
noncomputable def n_63_15 : e_Y := u_ld f_okA f_l0 n_63_16
theorem t_63_15 : e_Sn 63 15 (e_un n_63_15) := u_ldAT f_l0_eq (s_aload (i := .aload_n 0) (len := 1) hq_63 (by decide +kernel) rfl (.inr ⟨0, rfl, rfl, rfl⟩) : e_Sn 63 15 (o_load e_okR 0 16)) t_63_16
noncomputable def n_63_12 : e_Y := u_old (o_putf (e_f1 2 15) e_okI 15) n_63_15
theorem t_63_12 : e_Sn 63 12 (e_un n_63_12) := u_oldT (s_putf (ty0 := ey_2) (ok := e_okI) (C := er_2) (T := et_2) (N := 19) (ref := "Plateroomprinter$Engine") (index := 60) (ci := 2) (k := 15) hq_63 ho_63 ⟨rfl, by decide, ei_2, (List.mem_of_getElem? (i := 632) (by decide +kernel)), .inl rfl⟩ eo_2 en_2 e_oksI (.inl rfl) (by decide +kernel) rfl : e_Sn 63 12 (o_putf (e_f1 2 15) e_okI 15)) t_63_15 (e_cg_putf (e_f1 2 15) e_okI)
noncomputable def n_63_11 : e_Y := u_push (.inl 2147483648) n_63_12
theorem t_63_11 : e_Sn 63 11 (e_un n_63_11) := u_pushT (s_iconst (n := (0)) hq_63 (by decide +kernel) rfl ⟨by decide +kernel, by decide +kernel⟩ : e_Sn 63 11 (o_push (.inl 2147483648) 12)) t_63_12
noncomputable def n_63_10 : e_Y := u_ld f_okA f_l0 n_63_11
theorem t_63_10 : e_Sn 63 10 (e_un n_63_10) := u_ldAT f_l0_eq (s_aload (i := .aload_n 0) (len := 1) hq_63 (by decide +kernel) rfl (.inr ⟨0, rfl, rfl, rfl⟩) : e_Sn 63 10 (o_load e_okR 0 11)) t_63_11
noncomputable def n_63_7 : e_Y := u_old (o_putf (e_f1 2 14) e_okI 10) n_63_10
theorem t_63_7 : e_Sn 63 7 (e_un n_63_7) := u_oldT (s_putf (ty0 := ey_2) (ok := e_okI) (C := er_2) (T := et_2) (N := 19) (ref := "Plateroomprinter$Engine") (index := 57) (ci := 2) (k := 14) hq_63 ho_63 ⟨rfl, by decide, ei_2, (List.mem_of_getElem? (i := 631) (by decide +kernel)), .inl rfl⟩ eo_2 en_2 e_oksI (.inl rfl) (by decide +kernel) rfl : e_Sn 63 7 (o_putf (e_f1 2 14) e_okI 10)) t_63_10 (e_cg_putf (e_f1 2 14) e_okI)
noncomputable def n_63_6 : e_Y := u_push (.inl 2147483648) n_63_7
theorem t_63_6 : e_Sn 63 6 (e_un n_63_6) := u_pushT (s_iconst (n := (0)) hq_63 (by decide +kernel) rfl ⟨by decide +kernel, by decide +kernel⟩ : e_Sn 63 6 (o_push (.inl 2147483648) 7)) t_63_7
noncomputable def n_63_5 : e_Y := u_ld f_okA f_l0 n_63_6
theorem t_63_5 : e_Sn 63 5 (e_un n_63_5) := u_ldAT f_l0_eq (s_aload (i := .aload_n 0) (len := 1) hq_63 (by decide +kernel) rfl (.inr ⟨0, rfl, rfl, rfl⟩) : e_Sn 63 5 (o_load e_okR 0 6)) t_63_6
noncomputable def n_63_2 : e_Y := u_old (o_putf (e_f1 2 13) e_okI 5) n_63_5
theorem t_63_2 : e_Sn 63 2 (e_un n_63_2) := u_oldT (s_putf (ty0 := ey_2) (ok := e_okI) (C := er_2) (T := et_2) (N := 19) (ref := "Plateroomprinter$Engine") (index := 53) (ci := 2) (k := 13) hq_63 ho_63 ⟨rfl, by decide, ei_2, (List.mem_of_getElem? (i := 630) (by decide +kernel)), .inl rfl⟩ eo_2 en_2 e_oksI (.inl rfl) (by decide +kernel) rfl : e_Sn 63 2 (o_putf (e_f1 2 13) e_okI 5)) t_63_5 (e_cg_putf (e_f1 2 13) e_okI)
noncomputable def n_63_1 : e_Y := u_push (.inl 2147483648) n_63_2
theorem t_63_1 : e_Sn 63 1 (e_un n_63_1) := u_pushT (s_iconst (n := (0)) hq_63 (by decide +kernel) rfl ⟨by decide +kernel, by decide +kernel⟩ : e_Sn 63 1 (o_push (.inl 2147483648) 2)) t_63_2
noncomputable def n_63_0 : e_Y := u_ld f_okA f_l0 n_63_1
theorem t_63_0 : e_Sn 63 0 (e_un n_63_0) := u_ldAT f_l0_eq (s_aload (i := .aload_n 0) (len := 1) hq_63 (by decide +kernel) rfl (.inr ⟨0, rfl, rfl, rfl⟩) : e_Sn 63 0 (o_load e_okR 0 1)) t_63_1
noncomputable def e_tb_63 : e_X := (e_lf 0 (e_un n_63_0))
theorem e_tk_63 : e_Tb 63 e_tb_63 := (e_lfT t_63_0)
theorem hq_65 : (e_ml[65]?).map (·.2.1) = some prog_3_method_6_code := rfl
theorem ho_65 : (e_ml[65]?).map (·.1.cls) = some "Plateroomprinter$Engine" := rfl
theorem hr_65 : (e_ml[65]?).map (·.2.2.2) = some (some .boolean) := rfl
noncomputable def n_65_20 : e_Y := u_tab (o_ret e_okZ)
theorem t_65_20 : e_Sn 65 20 (e_un n_65_20) := u_tabT (s_zret hq_65 hr_65 (by decide +kernel) : e_Sn 65 20 (o_ret e_okZ))
noncomputable def n_65_19 : e_Y := u_push (.inl 2147483648) n_65_20
theorem t_65_19 : e_Sn 65 19 (e_un n_65_19) := u_pushT (s_iconst (n := (0)) hq_65 (by decide +kernel) rfl ⟨by decide +kernel, by decide +kernel⟩ : e_Sn 65 19 (o_push (.inl 2147483648) 20)) t_65_20
noncomputable def n_65_16 : e_Y := u_if y_ne0 (u_old2 (o_ifeq 19 21) 19 n_65_19 (u_at 21)) n_65_19 (u_at 21)
theorem t_65_16 : e_Sn 65 16 (e_un n_65_16) := u_ifeqT rfl (s_ifne (off := (5)) hq_65 (by decide +kernel) rfl rfl : e_Sn 65 16 (o_ifeq 19 21)) t_65_19 u_atT
noncomputable def n_65_15 : e_Y := u_ald 0 (u_old (o_ald e_fcs 16) n_65_16) n_65_16
theorem t_65_15 : e_Sn 65 15 (e_un n_65_15) := u_aldT (s_iald hq_65 (by decide +kernel) rfl : e_Sn 65 15 (o_ald e_fcs 16)) t_65_16
noncomputable def n_65_14 : e_Y := u_ld f_okI f_l1 n_65_15
theorem t_65_14 : e_Sn 65 14 (e_un n_65_14) := u_ldIT f_l1_eq (s_iload (i := .iload_n 1) (len := 1) hq_65 (by decide +kernel) rfl (.inr ⟨1, rfl, rfl, rfl⟩) : e_Sn 65 14 (o_load e_okI 1 15)) t_65_15
noncomputable def n_65_11 : e_Y := u_getf 2 9 (u_old (o_getf (e_f1 2 9) 14) n_65_14) n_65_14
theorem t_65_11 : e_Sn 65 11 (e_un n_65_11) := u_getfT (s_getf (C := er_2) (T := et_2) (N := 19) (ref := "Plateroomprinter$Engine") (index := 33) (ci := 2) (k := 9) hq_65 ho_65 ⟨rfl, by decide, ei_2, (List.mem_of_getElem? (i := 626) (by decide +kernel)), .inl rfl⟩ (by decide +kernel) rfl : e_Sn 65 11 (o_getf (e_f1 2 9) 14)) t_65_14
noncomputable def n_65_10 : e_Y := u_ld f_okA f_l0 n_65_11
theorem t_65_10 : e_Sn 65 10 (e_un n_65_10) := u_ldAT f_l0_eq (s_aload (i := .aload_n 0) (len := 1) hq_65 (by decide +kernel) rfl (.inr ⟨0, rfl, rfl, rfl⟩) : e_Sn 65 10 (o_load e_okR 0 11)) t_65_11
noncomputable def n_65_7 : e_Y := u_jmp y_ge (u_old2 (o_clt 10 19) 10 n_65_10 n_65_19) n_65_10 n_65_19
theorem t_65_7 : e_Sn 65 7 (e_un n_65_7) := u_cltT rfl (s_cge (off := (12)) hq_65 (by decide +kernel) rfl rfl : e_Sn 65 7 (o_clt 10 19)) t_65_10 t_65_19
noncomputable def n_65_5 : e_Y := u_push (.inl 2147483660) n_65_7
theorem t_65_5 : e_Sn 65 5 (e_un n_65_5) := u_pushT (s_bipush (n := (12)) hq_65 (by decide +kernel) rfl ⟨by decide +kernel, by decide +kernel⟩ : e_Sn 65 5 (o_push (.inl 2147483660) 7)) t_65_7
noncomputable def n_65_4 : e_Y := u_ld f_okI f_l1 n_65_5
theorem t_65_4 : e_Sn 65 4 (e_un n_65_4) := u_ldIT f_l1_eq (s_iload (i := .iload_n 1) (len := 1) hq_65 (by decide +kernel) rfl (.inr ⟨1, rfl, rfl, rfl⟩) : e_Sn 65 4 (o_load e_okI 1 5)) t_65_5
noncomputable def n_65_1 : e_Y := u_if y_ge0 (u_old2 (o_iflt 19 4) 19 n_65_19 n_65_4) n_65_19 n_65_4
theorem t_65_1 : e_Sn 65 1 (e_un n_65_1) := u_ifltT rfl (s_iflt (off := (18)) hq_65 (by decide +kernel) rfl rfl : e_Sn 65 1 (o_iflt 19 4)) t_65_19 t_65_4
noncomputable def n_65_0 : e_Y := u_ld f_okI f_l1 n_65_1
theorem t_65_0 : e_Sn 65 0 (e_un n_65_0) := u_ldIT f_l1_eq (s_iload (i := .iload_n 1) (len := 1) hq_65 (by decide +kernel) rfl (.inr ⟨1, rfl, rfl, rfl⟩) : e_Sn 65 0 (o_load e_okI 1 1)) t_65_1
noncomputable def e_tb_65 : e_X := (e_lf 0 (e_un n_65_0))
theorem e_tk_65 : e_Tb 65 e_tb_65 := (e_lfT t_65_0)
theorem hq_66 : (e_ml[66]?).map (·.2.1) = some prog_3_method_4_code := rfl
theorem ho_66 : (e_ml[66]?).map (·.1.cls) = some "Plateroomprinter$Engine" := rfl
theorem hr_66 : (e_ml[66]?).map (·.2.2.2) = some (some .int) := rfl
noncomputable def n_66_158 : e_Y := u_retI
theorem t_66_158 : e_Sn 66 158 (e_un n_66_158) := u_retIT (s_iret hq_66 hr_66 (by decide +kernel) : e_Sn 66 158 (o_ret e_okI))
noncomputable def n_66_157 : e_Y := u_push (.inl 2147483647) n_66_158
theorem t_66_157 : e_Sn 66 157 (e_un n_66_157) := u_pushT (s_iconst (n := (-1)) hq_66 (by decide +kernel) rfl ⟨by decide +kernel, by decide +kernel⟩ : e_Sn 66 157 (o_push (.inl 2147483647) 158)) t_66_158
noncomputable def n_66_154 : e_Y := (u_at 2)
theorem t_66_154 : e_Sn 66 154 (e_un n_66_154) := u_gotoT (s_goto (off := (-152)) hq_66 (by decide +kernel) rfl : e_Sn 66 154 (o_goto 2)) u_atT
noncomputable def n_66_151 : e_Y := u_inc f_l1 f_s1 1 n_66_154
theorem t_66_151 : e_Sn 66 151 (e_un n_66_151) := u_incT f_l1_eq (fun _ _ _ => f_s1_eq) (s_iinc (zz := (1)) hq_66 (by decide +kernel) rfl (by decide +kernel) ⟨by decide, by decide⟩ : e_Sn 66 151 (o_iinc 1 1 154)) t_66_154
noncomputable def n_66_66 : e_Y := n_66_151
theorem t_66_66 : e_Sn 66 66 (e_un n_66_66) := u_gotoT (s_goto (off := (85)) hq_66 (by decide +kernel) rfl : e_Sn 66 66 (o_goto 151)) t_66_151
noncomputable def n_66_63 : e_Y := u_old (o_putf (e_f1 2 13) e_okI 66) n_66_66
theorem t_66_63 : e_Sn 66 63 (e_un n_66_63) := u_oldT (s_putf (ty0 := ey_2) (ok := e_okI) (C := er_2) (T := et_2) (N := 19) (ref := "Plateroomprinter$Engine") (index := 53) (ci := 2) (k := 13) hq_66 ho_66 ⟨rfl, by decide, ei_2, (List.mem_of_getElem? (i := 630) (by decide +kernel)), .inl rfl⟩ eo_2 en_2 e_oksI (.inl rfl) (by decide +kernel) rfl : e_Sn 66 63 (o_putf (e_f1 2 13) e_okI 66)) t_66_66 (e_cg_putf (e_f1 2 13) e_okI)
noncomputable def n_66_62 : e_Y := u_bin a_isub (u_old (o_isub 63) n_66_63) n_66_63
theorem t_66_62 : e_Sn 66 62 (e_un n_66_62) := u_isubT (s_isub hq_66 (by decide +kernel) rfl : e_Sn 66 62 (o_isub 63)) t_66_63
noncomputable def n_66_61 : e_Y := u_push (.inl 2147483649) n_66_62
theorem t_66_61 : e_Sn 66 61 (e_un n_66_61) := u_pushT (s_iconst (n := (1)) hq_66 (by decide +kernel) rfl ⟨by decide +kernel, by decide +kernel⟩ : e_Sn 66 61 (o_push (.inl 2147483649) 62)) t_66_62
noncomputable def n_66_58 : e_Y := u_getf 2 13 (u_old (o_getf (e_f1 2 13) 61) n_66_61) n_66_61
theorem t_66_58 : e_Sn 66 58 (e_un n_66_58) := u_getfT (s_getf (C := er_2) (T := et_2) (N := 19) (ref := "Plateroomprinter$Engine") (index := 53) (ci := 2) (k := 13) hq_66 ho_66 ⟨rfl, by decide, ei_2, (List.mem_of_getElem? (i := 630) (by decide +kernel)), .inl rfl⟩ (by decide +kernel) rfl : e_Sn 66 58 (o_getf (e_f1 2 13) 61)) t_66_61
noncomputable def n_66_57 : e_Y := u_old (o_dup 58) n_66_58
theorem t_66_57 : e_Sn 66 57 (e_un n_66_57) := u_oldT (s_dup hq_66 (by decide +kernel) rfl : e_Sn 66 57 (o_dup 58)) t_66_58 e_cg_dup
noncomputable def n_66_56 : e_Y := u_ld f_okA f_l0 n_66_57
theorem t_66_56 : e_Sn 66 56 (e_un n_66_56) := u_ldAT f_l0_eq (s_aload (i := .aload_n 0) (len := 1) hq_66 (by decide +kernel) rfl (.inr ⟨0, rfl, rfl, rfl⟩) : e_Sn 66 56 (o_load e_okR 0 57)) t_66_57
noncomputable def n_66_53 : e_Y := u_if y_ne0 (u_old2 (o_ifeq 56 69) 56 n_66_56 (u_at 69)) n_66_56 (u_at 69)
theorem t_66_53 : e_Sn 66 53 (e_un n_66_53) := u_ifeqT rfl (s_ifne (off := (16)) hq_66 (by decide +kernel) rfl rfl : e_Sn 66 53 (o_ifeq 56 69)) t_66_56 u_atT
noncomputable def n_66_50 : e_Y := u_callV 2 65 3 22 2 n_65_0 n_66_53
theorem t_66_50 : e_Sn 66 50 (e_un n_66_50) := u_callVT rfl (s_callV (ci := 2) (C := er_2) (T := et_2) (N := 19) (index := 85) hq_66 ho_66 hy_65 hp_65 hc_65 hi_65 hd_65 (List.mem_of_getElem? (i := 793) (by decide +kernel)) hs_65 (List.mem_of_getElem? (i := 1) (by decide +kernel)) rfl (by decide +kernel) rfl : e_Sn 66 50 (o_callV (e_s1 2 65 3) 2 53)) t_65_0 t_66_53
noncomputable def n_66_49 : e_Y := u_ld f_okI f_l2 n_66_50
theorem t_66_49 : e_Sn 66 49 (e_un n_66_49) := u_ldIT f_l2_eq (s_iload (i := .iload_n 2) (len := 1) hq_66 (by decide +kernel) rfl (.inr ⟨2, rfl, rfl, rfl⟩) : e_Sn 66 49 (o_load e_okI 2 50)) t_66_50
noncomputable def n_66_48 : e_Y := u_ld f_okA f_l0 n_66_49
theorem t_66_48 : e_Sn 66 48 (e_un n_66_48) := u_ldAT f_l0_eq (s_aload (i := .aload_n 0) (len := 1) hq_66 (by decide +kernel) rfl (.inr ⟨0, rfl, rfl, rfl⟩) : e_Sn 66 48 (o_load e_okR 0 49)) t_66_49
noncomputable def n_66_43 : e_Y := u_jmp y_ge (u_old2 (o_clt 46 48) 46 (u_at 46) n_66_48) (u_at 46) n_66_48
theorem t_66_43 : e_Sn 66 43 (e_un n_66_43) := u_cltT rfl (s_cge (off := (5)) hq_66 (by decide +kernel) rfl rfl : e_Sn 66 43 (o_clt 46 48)) u_atT t_66_48
noncomputable def n_66_42 : e_Y := u_ald 0 (u_old (o_ald e_fcs 43) n_66_43) n_66_43
theorem t_66_42 : e_Sn 66 42 (e_un n_66_42) := u_aldT (s_iald hq_66 (by decide +kernel) rfl : e_Sn 66 42 (o_ald e_fcs 43)) t_66_43
noncomputable def n_66_41 : e_Y := u_ld f_okI f_l2 n_66_42
theorem t_66_41 : e_Sn 66 41 (e_un n_66_41) := u_ldIT f_l2_eq (s_iload (i := .iload_n 2) (len := 1) hq_66 (by decide +kernel) rfl (.inr ⟨2, rfl, rfl, rfl⟩) : e_Sn 66 41 (o_load e_okI 2 42)) t_66_42
noncomputable def n_66_38 : e_Y := u_getf 2 6 (u_old (o_getf (e_f1 2 6) 41) n_66_41) n_66_41
theorem t_66_38 : e_Sn 66 38 (e_un n_66_38) := u_getfT (s_getf (C := er_2) (T := et_2) (N := 19) (ref := "Plateroomprinter$Engine") (index := 24) (ci := 2) (k := 6) hq_66 ho_66 ⟨rfl, by decide, ei_2, (List.mem_of_getElem? (i := 623) (by decide +kernel)), .inl rfl⟩ (by decide +kernel) rfl : e_Sn 66 38 (o_getf (e_f1 2 6) 41)) t_66_41
noncomputable def n_66_37 : e_Y := u_ld f_okA f_l0 n_66_38
theorem t_66_37 : e_Sn 66 37 (e_un n_66_37) := u_ldAT f_l0_eq (s_aload (i := .aload_n 0) (len := 1) hq_66 (by decide +kernel) rfl (.inr ⟨0, rfl, rfl, rfl⟩) : e_Sn 66 37 (o_load e_okR 0 38)) t_66_38
noncomputable def n_66_36 : e_Y := u_ald 0 (u_old (o_ald e_fcs 37) n_66_37) n_66_37
theorem t_66_36 : e_Sn 66 36 (e_un n_66_36) := u_aldT (s_iald hq_66 (by decide +kernel) rfl : e_Sn 66 36 (o_ald e_fcs 37)) t_66_37
noncomputable def n_66_35 : e_Y := u_ld f_okI f_l2 n_66_36
theorem t_66_35 : e_Sn 66 35 (e_un n_66_35) := u_ldIT f_l2_eq (s_iload (i := .iload_n 2) (len := 1) hq_66 (by decide +kernel) rfl (.inr ⟨2, rfl, rfl, rfl⟩) : e_Sn 66 35 (o_load e_okI 2 36)) t_66_36
noncomputable def n_66_32 : e_Y := u_getf 2 7 (u_old (o_getf (e_f1 2 7) 35) n_66_35) n_66_35
theorem t_66_32 : e_Sn 66 32 (e_un n_66_32) := u_getfT (s_getf (C := er_2) (T := et_2) (N := 19) (ref := "Plateroomprinter$Engine") (index := 27) (ci := 2) (k := 7) hq_66 ho_66 ⟨rfl, by decide, ei_2, (List.mem_of_getElem? (i := 624) (by decide +kernel)), .inl rfl⟩ (by decide +kernel) rfl : e_Sn 66 32 (o_getf (e_f1 2 7) 35)) t_66_35
noncomputable def n_66_31 : e_Y := u_ld f_okA f_l0 n_66_32
theorem t_66_31 : e_Sn 66 31 (e_un n_66_31) := u_ldAT f_l0_eq (s_aload (i := .aload_n 0) (len := 1) hq_66 (by decide +kernel) rfl (.inr ⟨0, rfl, rfl, rfl⟩) : e_Sn 66 31 (o_load e_okR 0 32)) t_66_32
noncomputable def n_66_30 : e_Y := u_st f_okI f_s2 n_66_31
theorem t_66_30 : e_Sn 66 30 (e_un n_66_30) := u_stIT (fun _ _ _ => f_s2_eq) (s_istore (i := .istore_n 2) (len := 1) hq_66 (by decide +kernel) rfl (.inr ⟨2, rfl, rfl, rfl⟩) : e_Sn 66 30 (o_store e_okI 2 31)) t_66_31
noncomputable def n_66_29 : e_Y := u_bin a_isub (u_old (o_isub 30) n_66_30) n_66_30
theorem t_66_29 : e_Sn 66 29 (e_un n_66_29) := u_isubT (s_isub hq_66 (by decide +kernel) rfl : e_Sn 66 29 (o_isub 30)) t_66_30
noncomputable def n_66_28 : e_Y := u_push (.inl 2147483649) n_66_29
theorem t_66_28 : e_Sn 66 28 (e_un n_66_28) := u_pushT (s_iconst (n := (1)) hq_66 (by decide +kernel) rfl ⟨by decide +kernel, by decide +kernel⟩ : e_Sn 66 28 (o_push (.inl 2147483649) 29)) t_66_29
noncomputable def n_66_25 : e_Y := u_getf 2 13 (u_old (o_getf (e_f1 2 13) 28) n_66_28) n_66_28
theorem t_66_25 : e_Sn 66 25 (e_un n_66_25) := u_getfT (s_getf (C := er_2) (T := et_2) (N := 19) (ref := "Plateroomprinter$Engine") (index := 53) (ci := 2) (k := 13) hq_66 ho_66 ⟨rfl, by decide, ei_2, (List.mem_of_getElem? (i := 630) (by decide +kernel)), .inl rfl⟩ (by decide +kernel) rfl : e_Sn 66 25 (o_getf (e_f1 2 13) 28)) t_66_28
noncomputable def n_66_24 : e_Y := u_ld f_okA f_l0 n_66_25
theorem t_66_24 : e_Sn 66 24 (e_un n_66_24) := u_ldAT f_l0_eq (s_aload (i := .aload_n 0) (len := 1) hq_66 (by decide +kernel) rfl (.inr ⟨0, rfl, rfl, rfl⟩) : e_Sn 66 24 (o_load e_okR 0 25)) t_66_25
noncomputable def n_66_21 : e_Y := u_jmp y_le (u_old2 (o_cgt 157 24) 157 n_66_157 n_66_24) n_66_157 n_66_24
theorem t_66_21 : e_Sn 66 21 (e_un n_66_21) := u_cgtT rfl (s_cgt (off := (136)) hq_66 (by decide +kernel) rfl rfl : e_Sn 66 21 (o_cgt 157 24)) t_66_157 t_66_24
noncomputable def n_66_19 : e_Y := u_push (.inl 2147483660) n_66_21
theorem t_66_19 : e_Sn 66 19 (e_un n_66_19) := u_pushT (s_bipush (n := (12)) hq_66 (by decide +kernel) rfl ⟨by decide +kernel, by decide +kernel⟩ : e_Sn 66 19 (o_push (.inl 2147483660) 21)) t_66_21
noncomputable def n_66_16 : e_Y := u_getf 2 13 (u_old (o_getf (e_f1 2 13) 19) n_66_19) n_66_19
theorem t_66_16 : e_Sn 66 16 (e_un n_66_16) := u_getfT (s_getf (C := er_2) (T := et_2) (N := 19) (ref := "Plateroomprinter$Engine") (index := 53) (ci := 2) (k := 13) hq_66 ho_66 ⟨rfl, by decide, ei_2, (List.mem_of_getElem? (i := 630) (by decide +kernel)), .inl rfl⟩ (by decide +kernel) rfl : e_Sn 66 16 (o_getf (e_f1 2 13) 19)) t_66_19
noncomputable def n_66_15 : e_Y := u_ld f_okA f_l0 n_66_16
theorem t_66_15 : e_Sn 66 15 (e_un n_66_15) := u_ldAT f_l0_eq (s_aload (i := .aload_n 0) (len := 1) hq_66 (by decide +kernel) rfl (.inr ⟨0, rfl, rfl, rfl⟩) : e_Sn 66 15 (o_load e_okR 0 16)) t_66_16
noncomputable def n_66_12 : e_Y := u_if y_le0 (u_old2 (o_ifgt 15 157) 15 n_66_15 n_66_157) n_66_15 n_66_157
theorem t_66_12 : e_Sn 66 12 (e_un n_66_12) := u_ifgtT rfl (s_ifle (off := (145)) hq_66 (by decide +kernel) rfl rfl : e_Sn 66 12 (o_ifgt 15 157)) t_66_15 t_66_157
noncomputable def n_66_9 : e_Y := u_getf 2 13 (u_old (o_getf (e_f1 2 13) 12) n_66_12) n_66_12
theorem t_66_9 : e_Sn 66 9 (e_un n_66_9) := u_getfT (s_getf (C := er_2) (T := et_2) (N := 19) (ref := "Plateroomprinter$Engine") (index := 53) (ci := 2) (k := 13) hq_66 ho_66 ⟨rfl, by decide, ei_2, (List.mem_of_getElem? (i := 630) (by decide +kernel)), .inl rfl⟩ (by decide +kernel) rfl : e_Sn 66 9 (o_getf (e_f1 2 13) 12)) t_66_12
noncomputable def n_66_8 : e_Y := u_ld f_okA f_l0 n_66_9
theorem t_66_8 : e_Sn 66 8 (e_un n_66_8) := u_ldAT f_l0_eq (s_aload (i := .aload_n 0) (len := 1) hq_66 (by decide +kernel) rfl (.inr ⟨0, rfl, rfl, rfl⟩) : e_Sn 66 8 (o_load e_okR 0 9)) t_66_9
noncomputable def n_66_5 : e_Y := u_jmp y_ge (u_old2 (o_clt 8 157) 8 n_66_8 n_66_157) n_66_8 n_66_157
theorem t_66_5 : e_Sn 66 5 (e_un n_66_5) := u_cltT rfl (s_cge (off := (152)) hq_66 (by decide +kernel) rfl rfl : e_Sn 66 5 (o_clt 8 157)) t_66_8 t_66_157
noncomputable def n_66_3 : e_Y := u_push (e_I 2148483648) n_66_5
theorem t_66_3 : e_Sn 66 3 (e_un n_66_3) := u_pushT (s_ldc (index := 84) (v := (1000000)) hq_66 ho_66 (List.mem_of_getElem? (i := 792) (by decide +kernel)) (by decide +kernel) rfl ⟨by decide +kernel, by decide +kernel⟩ : e_Sn 66 3 (o_push (e_I 2148483648) 5)) t_66_5
noncomputable def n_66_2 : e_Y := u_ld f_okI f_l1 n_66_3
theorem t_66_2 : e_Sn 66 2 (e_un n_66_2) := u_ldIT f_l1_eq (s_iload (i := .iload_n 1) (len := 1) hq_66 (by decide +kernel) rfl (.inr ⟨1, rfl, rfl, rfl⟩) : e_Sn 66 2 (o_load e_okI 1 3)) t_66_3
noncomputable def n_66_1 : e_Y := u_st f_okI f_s1 n_66_2
theorem t_66_1 : e_Sn 66 1 (e_un n_66_1) := u_stIT (fun _ _ _ => f_s1_eq) (s_istore (i := .istore_n 1) (len := 1) hq_66 (by decide +kernel) rfl (.inr ⟨1, rfl, rfl, rfl⟩) : e_Sn 66 1 (o_store e_okI 1 2)) t_66_2
noncomputable def n_66_0 : e_Y := u_push (.inl 2147483648) n_66_1
theorem t_66_0 : e_Sn 66 0 (e_un n_66_0) := u_pushT (s_iconst (n := (0)) hq_66 (by decide +kernel) rfl ⟨by decide +kernel, by decide +kernel⟩ : e_Sn 66 0 (o_push (.inl 2147483648) 1)) t_66_1
noncomputable def e_tb_66 : e_X := (e_br 2 (e_lf 0 (e_un n_66_0)) (e_lf 2 (e_un n_66_2)))
theorem e_tk_66 : e_Tb 66 e_tb_66 := (e_brT (e_lfT t_66_0) (e_lfT t_66_2))
theorem hq_67 : (e_ml[67]?).map (·.2.1) = some prog_3_method_3_code := rfl
theorem ho_67 : (e_ml[67]?).map (·.1.cls) = some "Plateroomprinter$Engine" := rfl
theorem hr_67 : (e_ml[67]?).map (·.2.2.2) = some none := rfl
noncomputable def n_67_43 : e_Y := u_tab (o_retv)
theorem t_67_43 : e_Sn 67 43 (e_un n_67_43) := u_tabT (s_vret hq_67 hr_67 (by decide +kernel) : e_Sn 67 43 (o_retv))
noncomputable def n_67_40 : e_Y := u_old (o_putf (e_f1 11 14) e_okI 43) n_67_43
theorem t_67_40 : e_Sn 67 40 (e_un n_67_40) := u_oldT (s_putf (ty0 := ey_11) (ok := e_okI) (C := er_11) (T := et_11) (N := 15) (ref := "Plateroomprinter$World") (index := 83) (ci := 11) (k := 14) hq_67 ho_67 ⟨rfl, by decide, ei_11, (List.mem_of_getElem? (i := 501) (by decide +kernel)), .inl rfl⟩ eo_11 en_11 e_oksI (.inl rfl) (by decide +kernel) rfl : e_Sn 67 40 (o_putf (e_f1 11 14) e_okI 43)) t_67_43 (e_cg_putf (e_f1 11 14) e_okI)
noncomputable def n_67_39 : e_Y := u_bin a_iadd (u_old (o_iadd 40) n_67_40) n_67_40
theorem t_67_39 : e_Sn 67 39 (e_un n_67_39) := u_iaddT (s_iadd hq_67 (by decide +kernel) rfl : e_Sn 67 39 (o_iadd 40)) t_67_40
noncomputable def n_67_36 : e_Y := u_getf 2 15 (u_old (o_getf (e_f1 2 15) 39) n_67_39) n_67_39
theorem t_67_36 : e_Sn 67 36 (e_un n_67_36) := u_getfT (s_getf (C := er_2) (T := et_2) (N := 19) (ref := "Plateroomprinter$Engine") (index := 60) (ci := 2) (k := 15) hq_67 ho_67 ⟨rfl, by decide, ei_2, (List.mem_of_getElem? (i := 632) (by decide +kernel)), .inl rfl⟩ (by decide +kernel) rfl : e_Sn 67 36 (o_getf (e_f1 2 15) 39)) t_67_39
noncomputable def n_67_35 : e_Y := u_ld f_okA f_l0 n_67_36
theorem t_67_35 : e_Sn 67 35 (e_un n_67_35) := u_ldAT f_l0_eq (s_aload (i := .aload_n 0) (len := 1) hq_67 (by decide +kernel) rfl (.inr ⟨0, rfl, rfl, rfl⟩) : e_Sn 67 35 (o_load e_okR 0 36)) t_67_36
noncomputable def n_67_32 : e_Y := u_getf 11 14 (u_old (o_getf (e_f1 11 14) 35) n_67_35) n_67_35
theorem t_67_32 : e_Sn 67 32 (e_un n_67_32) := u_getfT (s_getf (C := er_11) (T := et_11) (N := 15) (ref := "Plateroomprinter$World") (index := 83) (ci := 11) (k := 14) hq_67 ho_67 ⟨rfl, by decide, ei_11, (List.mem_of_getElem? (i := 501) (by decide +kernel)), .inl rfl⟩ (by decide +kernel) rfl : e_Sn 67 32 (o_getf (e_f1 11 14) 35)) t_67_35
noncomputable def n_67_31 : e_Y := u_old (o_dup 32) n_67_32
theorem t_67_31 : e_Sn 67 31 (e_un n_67_31) := u_oldT (s_dup hq_67 (by decide +kernel) rfl : e_Sn 67 31 (o_dup 32)) t_67_32 e_cg_dup
noncomputable def n_67_28 : e_Y := u_getf 2 0 (u_old (o_getf (e_f1 2 0) 31) n_67_31) n_67_31
theorem t_67_28 : e_Sn 67 28 (e_un n_67_28) := u_getfT (s_getf (C := er_2) (T := et_2) (N := 19) (ref := "Plateroomprinter$Engine") (index := 45) (ci := 2) (k := 0) hq_67 ho_67 ⟨rfl, by decide, ei_2, (List.mem_of_getElem? (i := 616) (by decide +kernel)), .inl rfl⟩ (by decide +kernel) rfl : e_Sn 67 28 (o_getf (e_f1 2 0) 31)) t_67_31
noncomputable def n_67_27 : e_Y := u_ld f_okA f_l0 n_67_28
theorem t_67_27 : e_Sn 67 27 (e_un n_67_27) := u_ldAT f_l0_eq (s_aload (i := .aload_n 0) (len := 1) hq_67 (by decide +kernel) rfl (.inr ⟨0, rfl, rfl, rfl⟩) : e_Sn 67 27 (o_load e_okR 0 28)) t_67_28
noncomputable def n_67_24 : e_Y := u_old (o_putf (e_f1 11 13) e_okI 27) n_67_27
theorem t_67_24 : e_Sn 67 24 (e_un n_67_24) := u_oldT (s_putf (ty0 := ey_11) (ok := e_okI) (C := er_11) (T := et_11) (N := 15) (ref := "Plateroomprinter$World") (index := 80) (ci := 11) (k := 13) hq_67 ho_67 ⟨rfl, by decide, ei_11, (List.mem_of_getElem? (i := 498) (by decide +kernel)), .inl rfl⟩ eo_11 en_11 e_oksI (.inl rfl) (by decide +kernel) rfl : e_Sn 67 24 (o_putf (e_f1 11 13) e_okI 27)) t_67_27 (e_cg_putf (e_f1 11 13) e_okI)
noncomputable def n_67_21 : e_Y := u_getf 2 14 (u_old (o_getf (e_f1 2 14) 24) n_67_24) n_67_24
theorem t_67_21 : e_Sn 67 21 (e_un n_67_21) := u_getfT (s_getf (C := er_2) (T := et_2) (N := 19) (ref := "Plateroomprinter$Engine") (index := 57) (ci := 2) (k := 14) hq_67 ho_67 ⟨rfl, by decide, ei_2, (List.mem_of_getElem? (i := 631) (by decide +kernel)), .inl rfl⟩ (by decide +kernel) rfl : e_Sn 67 21 (o_getf (e_f1 2 14) 24)) t_67_24
noncomputable def n_67_20 : e_Y := u_ld f_okA f_l0 n_67_21
theorem t_67_20 : e_Sn 67 20 (e_un n_67_20) := u_ldAT f_l0_eq (s_aload (i := .aload_n 0) (len := 1) hq_67 (by decide +kernel) rfl (.inr ⟨0, rfl, rfl, rfl⟩) : e_Sn 67 20 (o_load e_okR 0 21)) t_67_21
noncomputable def n_67_17 : e_Y := u_getf 2 0 (u_old (o_getf (e_f1 2 0) 20) n_67_20) n_67_20
theorem t_67_17 : e_Sn 67 17 (e_un n_67_17) := u_getfT (s_getf (C := er_2) (T := et_2) (N := 19) (ref := "Plateroomprinter$Engine") (index := 45) (ci := 2) (k := 0) hq_67 ho_67 ⟨rfl, by decide, ei_2, (List.mem_of_getElem? (i := 616) (by decide +kernel)), .inl rfl⟩ (by decide +kernel) rfl : e_Sn 67 17 (o_getf (e_f1 2 0) 20)) t_67_20
noncomputable def n_67_16 : e_Y := u_ld f_okA f_l0 n_67_17
theorem t_67_16 : e_Sn 67 16 (e_un n_67_16) := u_ldAT f_l0_eq (s_aload (i := .aload_n 0) (len := 1) hq_67 (by decide +kernel) rfl (.inr ⟨0, rfl, rfl, rfl⟩) : e_Sn 67 16 (o_load e_okR 0 17)) t_67_17
noncomputable def n_67_13 : e_Y := u_old (o_putf (e_f1 11 12) e_okI 16) n_67_16
theorem t_67_13 : e_Sn 67 13 (e_un n_67_13) := u_oldT (s_putf (ty0 := ey_11) (ok := e_okI) (C := er_11) (T := et_11) (N := 15) (ref := "Plateroomprinter$World") (index := 75) (ci := 11) (k := 12) hq_67 ho_67 ⟨rfl, by decide, ei_11, (List.mem_of_getElem? (i := 495) (by decide +kernel)), .inl rfl⟩ eo_11 en_11 e_oksI (.inl rfl) (by decide +kernel) rfl : e_Sn 67 13 (o_putf (e_f1 11 12) e_okI 16)) t_67_16 (e_cg_putf (e_f1 11 12) e_okI)
noncomputable def n_67_12 : e_Y := u_bin a_iadd (u_old (o_iadd 13) n_67_13) n_67_13
theorem t_67_12 : e_Sn 67 12 (e_un n_67_12) := u_iaddT (s_iadd hq_67 (by decide +kernel) rfl : e_Sn 67 12 (o_iadd 13)) t_67_13
noncomputable def n_67_9 : e_Y := u_getf 2 14 (u_old (o_getf (e_f1 2 14) 12) n_67_12) n_67_12
theorem t_67_9 : e_Sn 67 9 (e_un n_67_9) := u_getfT (s_getf (C := er_2) (T := et_2) (N := 19) (ref := "Plateroomprinter$Engine") (index := 57) (ci := 2) (k := 14) hq_67 ho_67 ⟨rfl, by decide, ei_2, (List.mem_of_getElem? (i := 631) (by decide +kernel)), .inl rfl⟩ (by decide +kernel) rfl : e_Sn 67 9 (o_getf (e_f1 2 14) 12)) t_67_12
noncomputable def n_67_8 : e_Y := u_ld f_okA f_l0 n_67_9
theorem t_67_8 : e_Sn 67 8 (e_un n_67_8) := u_ldAT f_l0_eq (s_aload (i := .aload_n 0) (len := 1) hq_67 (by decide +kernel) rfl (.inr ⟨0, rfl, rfl, rfl⟩) : e_Sn 67 8 (o_load e_okR 0 9)) t_67_9
noncomputable def n_67_5 : e_Y := u_getf 11 12 (u_old (o_getf (e_f1 11 12) 8) n_67_8) n_67_8
theorem t_67_5 : e_Sn 67 5 (e_un n_67_5) := u_getfT (s_getf (C := er_11) (T := et_11) (N := 15) (ref := "Plateroomprinter$World") (index := 75) (ci := 11) (k := 12) hq_67 ho_67 ⟨rfl, by decide, ei_11, (List.mem_of_getElem? (i := 495) (by decide +kernel)), .inl rfl⟩ (by decide +kernel) rfl : e_Sn 67 5 (o_getf (e_f1 11 12) 8)) t_67_8
noncomputable def n_67_4 : e_Y := u_old (o_dup 5) n_67_5
theorem t_67_4 : e_Sn 67 4 (e_un n_67_4) := u_oldT (s_dup hq_67 (by decide +kernel) rfl : e_Sn 67 4 (o_dup 5)) t_67_5 e_cg_dup
noncomputable def n_67_1 : e_Y := u_getf 2 0 (u_old (o_getf (e_f1 2 0) 4) n_67_4) n_67_4
theorem t_67_1 : e_Sn 67 1 (e_un n_67_1) := u_getfT (s_getf (C := er_2) (T := et_2) (N := 19) (ref := "Plateroomprinter$Engine") (index := 45) (ci := 2) (k := 0) hq_67 ho_67 ⟨rfl, by decide, ei_2, (List.mem_of_getElem? (i := 616) (by decide +kernel)), .inl rfl⟩ (by decide +kernel) rfl : e_Sn 67 1 (o_getf (e_f1 2 0) 4)) t_67_4
noncomputable def n_67_0 : e_Y := u_ld f_okA f_l0 n_67_1
theorem t_67_0 : e_Sn 67 0 (e_un n_67_0) := u_ldAT f_l0_eq (s_aload (i := .aload_n 0) (len := 1) hq_67 (by decide +kernel) rfl (.inr ⟨0, rfl, rfl, rfl⟩) : e_Sn 67 0 (o_load e_okR 0 1)) t_67_1
noncomputable def e_tb_67 : e_X := (e_lf 0 (e_un n_67_0))
theorem e_tk_67 : e_Tb 67 e_tb_67 := (e_lfT t_67_0)
theorem hq_81 : (e_ml[81]?).map (·.2.1) = some prog_7_method_2_code := rfl
theorem ho_81 : (e_ml[81]?).map (·.1.cls) = some "Plateroomprinter$Painter" := rfl
theorem hr_81 : (e_ml[81]?).map (·.2.2.2) = some (some .int) := rfl
noncomputable def n_81_11 : e_Y := u_retI
theorem t_81_11 : e_Sn 81 11 (e_un n_81_11) := u_retIT (s_iret hq_81 hr_81 (by decide +kernel) : e_Sn 81 11 (o_ret e_okI))
noncomputable def n_81_10 : e_Y := u_ld f_okI f_l1 n_81_11
theorem t_81_10 : e_Sn 81 10 (e_un n_81_10) := u_ldIT f_l1_eq (s_iload (i := .iload_n 1) (len := 1) hq_81 (by decide +kernel) rfl (.inr ⟨1, rfl, rfl, rfl⟩) : e_Sn 81 10 (o_load e_okI 1 11)) t_81_11
noncomputable def n_81_7 : e_Y := u_old (o_putf (e_f1 6 6) e_okI 10) n_81_10
theorem t_81_7 : e_Sn 81 7 (e_un n_81_7) := u_oldT (s_putf (ty0 := ey_6) (ok := e_okI) (C := er_6) (T := et_6) (N := 17) (ref := "Plateroomprinter$Painter") (index := 55) (ci := 6) (k := 6) hq_81 ho_81 ⟨rfl, by decide, ei_6, (List.mem_of_getElem? (i := 564) (by decide +kernel)), .inl rfl⟩ eo_6 en_6 e_oksI (.inl rfl) (by decide +kernel) rfl : e_Sn 81 7 (o_putf (e_f1 6 6) e_okI 10)) t_81_10 (e_cg_putf (e_f1 6 6) e_okI)
noncomputable def n_81_6 : e_Y := u_push (.inl 2147483648) n_81_7
theorem t_81_6 : e_Sn 81 6 (e_un n_81_6) := u_pushT (s_iconst (n := (0)) hq_81 (by decide +kernel) rfl ⟨by decide +kernel, by decide +kernel⟩ : e_Sn 81 6 (o_push (.inl 2147483648) 7)) t_81_7
noncomputable def n_81_5 : e_Y := u_ld f_okA f_l0 n_81_6
theorem t_81_5 : e_Sn 81 5 (e_un n_81_5) := u_ldAT f_l0_eq (s_aload (i := .aload_n 0) (len := 1) hq_81 (by decide +kernel) rfl (.inr ⟨0, rfl, rfl, rfl⟩) : e_Sn 81 5 (o_load e_okR 0 6)) t_81_6
noncomputable def n_81_4 : e_Y := u_st f_okI f_s1 n_81_5
theorem t_81_4 : e_Sn 81 4 (e_un n_81_4) := u_stIT (fun _ _ _ => f_s1_eq) (s_istore (i := .istore_n 1) (len := 1) hq_81 (by decide +kernel) rfl (.inr ⟨1, rfl, rfl, rfl⟩) : e_Sn 81 4 (o_store e_okI 1 5)) t_81_5
noncomputable def n_81_1 : e_Y := u_getf 6 6 (u_old (o_getf (e_f1 6 6) 4) n_81_4) n_81_4
theorem t_81_1 : e_Sn 81 1 (e_un n_81_1) := u_getfT (s_getf (C := er_6) (T := et_6) (N := 17) (ref := "Plateroomprinter$Painter") (index := 55) (ci := 6) (k := 6) hq_81 ho_81 ⟨rfl, by decide, ei_6, (List.mem_of_getElem? (i := 564) (by decide +kernel)), .inl rfl⟩ (by decide +kernel) rfl : e_Sn 81 1 (o_getf (e_f1 6 6) 4)) t_81_4
noncomputable def n_81_0 : e_Y := u_ld f_okA f_l0 n_81_1
theorem t_81_0 : e_Sn 81 0 (e_un n_81_0) := u_ldAT f_l0_eq (s_aload (i := .aload_n 0) (len := 1) hq_81 (by decide +kernel) rfl (.inr ⟨0, rfl, rfl, rfl⟩) : e_Sn 81 0 (o_load e_okR 0 1)) t_81_1
noncomputable def e_tb_81 : e_X := (e_lf 0 (e_un n_81_0))
theorem e_tk_81 : e_Tb 81 e_tb_81 := (e_lfT t_81_0)
theorem hq_69 : (e_ml[69]?).map (·.2.1) = some prog_4_method_2_code := rfl
theorem ho_69 : (e_ml[69]?).map (·.1.cls) = some "Plateroomprinter$Figures" := rfl
theorem hr_69 : (e_ml[69]?).map (·.2.2.2) = some none := rfl
noncomputable def n_69_107 : e_Y := u_tab (o_retv)
theorem t_69_107 : e_Sn 69 107 (e_un n_69_107) := u_tabT (s_vret hq_69 hr_69 (by decide +kernel) : e_Sn 69 107 (o_retv))
noncomputable def n_69_104 : e_Y := u_old (o_putf (e_f1 3 4) e_okI 107) n_69_107
theorem t_69_104 : e_Sn 69 104 (e_un n_69_104) := u_oldT (s_putf (ty0 := ey_3) (ok := e_okI) (C := er_3) (T := et_3) (N := 5) (ref := "Plateroomprinter$Figures") (index := 24) (ci := 3) (k := 4) hq_69 ho_69 ⟨rfl, by decide, ei_3, (List.mem_of_getElem? (i := 400) (by decide +kernel)), .inl rfl⟩ eo_3 en_3 e_oksI (.inl rfl) (by decide +kernel) rfl : e_Sn 69 104 (o_putf (e_f1 3 4) e_okI 107)) t_69_107 (e_cg_putf (e_f1 3 4) e_okI)
noncomputable def n_69_103 : e_Y := u_ld f_okI f_l2 n_69_104
theorem t_69_103 : e_Sn 69 103 (e_un n_69_103) := u_ldIT f_l2_eq (s_iload (i := .iload_n 2) (len := 1) hq_69 (by decide +kernel) rfl (.inr ⟨2, rfl, rfl, rfl⟩) : e_Sn 69 103 (o_load e_okI 2 104)) t_69_104
noncomputable def n_69_102 : e_Y := u_ld f_okA f_l0 n_69_103
theorem t_69_102 : e_Sn 69 102 (e_un n_69_102) := u_ldAT f_l0_eq (s_aload (i := .aload_n 0) (len := 1) hq_69 (by decide +kernel) rfl (.inr ⟨0, rfl, rfl, rfl⟩) : e_Sn 69 102 (o_load e_okR 0 103)) t_69_103
noncomputable def n_69_69 : e_Y := u_jmp y_ge (u_old2 (o_clt 72 102) 72 (u_at 72) n_69_102) (u_at 72) n_69_102
theorem t_69_69 : e_Sn 69 69 (e_un n_69_69) := u_cltT rfl (s_cge (off := (33)) hq_69 (by decide +kernel) rfl rfl : e_Sn 69 69 (o_clt 72 102)) u_atT t_69_102
noncomputable def n_69_68 : e_Y := u_ld f_okI f_l2 n_69_69
theorem t_69_68 : e_Sn 69 68 (e_un n_69_68) := u_ldIT f_l2_eq (s_iload (i := .iload_n 2) (len := 1) hq_69 (by decide +kernel) rfl (.inr ⟨2, rfl, rfl, rfl⟩) : e_Sn 69 68 (o_load e_okI 2 69)) t_69_69
noncomputable def n_69_67 : e_Y := u_ld f_okI f_l3 n_69_68
theorem t_69_67 : e_Sn 69 67 (e_un n_69_67) := u_ldIT f_l3_eq (s_iload (i := .iload_n 3) (len := 1) hq_69 (by decide +kernel) rfl (.inr ⟨3, rfl, rfl, rfl⟩) : e_Sn 69 67 (o_load e_okI 3 68)) t_69_68
noncomputable def n_69_66 : e_Y := u_st f_okI f_s3 n_69_67
theorem t_69_66 : e_Sn 69 66 (e_un n_69_66) := u_stIT (fun _ _ _ => f_s3_eq) (s_istore (i := .istore_n 3) (len := 1) hq_69 (by decide +kernel) rfl (.inr ⟨3, rfl, rfl, rfl⟩) : e_Sn 69 66 (o_store e_okI 3 67)) t_69_67
noncomputable def n_69_65 : e_Y := u_push (.inl 2147483648) n_69_66
theorem t_69_65 : e_Sn 69 65 (e_un n_69_65) := u_pushT (s_iconst (n := (0)) hq_69 (by decide +kernel) rfl ⟨by decide +kernel, by decide +kernel⟩ : e_Sn 69 65 (o_push (.inl 2147483648) 66)) t_69_66
noncomputable def n_69_44 : e_Y := u_jmp y_ge (u_old2 (o_clt 47 65) 47 (u_at 47) n_69_65) (u_at 47) n_69_65
theorem t_69_44 : e_Sn 69 44 (e_un n_69_44) := u_cltT rfl (s_cge (off := (21)) hq_69 (by decide +kernel) rfl rfl : e_Sn 69 44 (o_clt 47 65)) u_atT t_69_65
noncomputable def n_69_43 : e_Y := u_bin a_imul (u_old (o_imul 44) n_69_44) n_69_44
theorem t_69_43 : e_Sn 69 43 (e_un n_69_43) := u_imulT (s_imul hq_69 (by decide +kernel) rfl : e_Sn 69 43 (o_imul 44)) t_69_44
noncomputable def n_69_42 : e_Y := u_push (.inl 2147483652) n_69_43
theorem t_69_42 : e_Sn 69 42 (e_un n_69_42) := u_pushT (s_iconst (n := (4)) hq_69 (by decide +kernel) rfl ⟨by decide +kernel, by decide +kernel⟩ : e_Sn 69 42 (o_push (.inl 2147483652) 43)) t_69_43
noncomputable def n_69_41 : e_Y := u_ld f_okI f_l2 n_69_42
theorem t_69_41 : e_Sn 69 41 (e_un n_69_41) := u_ldIT f_l2_eq (s_iload (i := .iload_n 2) (len := 1) hq_69 (by decide +kernel) rfl (.inr ⟨2, rfl, rfl, rfl⟩) : e_Sn 69 41 (o_load e_okI 2 42)) t_69_42
noncomputable def n_69_40 : e_Y := u_ld f_okI f_l3 n_69_41
theorem t_69_40 : e_Sn 69 40 (e_un n_69_40) := u_ldIT f_l3_eq (s_iload (i := .iload_n 3) (len := 1) hq_69 (by decide +kernel) rfl (.inr ⟨3, rfl, rfl, rfl⟩) : e_Sn 69 40 (o_load e_okI 3 41)) t_69_41
noncomputable def n_69_39 : e_Y := u_st f_okI f_s3 n_69_40
theorem t_69_39 : e_Sn 69 39 (e_un n_69_39) := u_stIT (fun _ _ _ => f_s3_eq) (s_istore (i := .istore_n 3) (len := 1) hq_69 (by decide +kernel) rfl (.inr ⟨3, rfl, rfl, rfl⟩) : e_Sn 69 39 (o_store e_okI 3 40)) t_69_40
noncomputable def n_69_38 : e_Y := u_push (.inl 2147483648) n_69_39
theorem t_69_38 : e_Sn 69 38 (e_un n_69_38) := u_pushT (s_iconst (n := (0)) hq_69 (by decide +kernel) rfl ⟨by decide +kernel, by decide +kernel⟩ : e_Sn 69 38 (o_push (.inl 2147483648) 39)) t_69_39
noncomputable def n_69_17 : e_Y := u_jmp y_ge (u_old2 (o_clt 20 38) 20 (u_at 20) n_69_38) (u_at 20) n_69_38
theorem t_69_17 : e_Sn 69 17 (e_un n_69_17) := u_cltT rfl (s_cge (off := (21)) hq_69 (by decide +kernel) rfl rfl : e_Sn 69 17 (o_clt 20 38)) u_atT t_69_38
noncomputable def n_69_16 : e_Y := u_bin a_imul (u_old (o_imul 17) n_69_17) n_69_17
theorem t_69_16 : e_Sn 69 16 (e_un n_69_16) := u_imulT (s_imul hq_69 (by decide +kernel) rfl : e_Sn 69 16 (o_imul 17)) t_69_17
noncomputable def n_69_14 : e_Y := u_push (.inl 2147483680) n_69_16
theorem t_69_14 : e_Sn 69 14 (e_un n_69_14) := u_pushT (s_bipush (n := (32)) hq_69 (by decide +kernel) rfl ⟨by decide +kernel, by decide +kernel⟩ : e_Sn 69 14 (o_push (.inl 2147483680) 16)) t_69_16
noncomputable def n_69_13 : e_Y := u_ld f_okI f_l2 n_69_14
theorem t_69_13 : e_Sn 69 13 (e_un n_69_13) := u_ldIT f_l2_eq (s_iload (i := .iload_n 2) (len := 1) hq_69 (by decide +kernel) rfl (.inr ⟨2, rfl, rfl, rfl⟩) : e_Sn 69 13 (o_load e_okI 2 14)) t_69_14
noncomputable def n_69_12 : e_Y := u_ld f_okI f_l3 n_69_13
theorem t_69_12 : e_Sn 69 12 (e_un n_69_12) := u_ldIT f_l3_eq (s_iload (i := .iload_n 3) (len := 1) hq_69 (by decide +kernel) rfl (.inr ⟨3, rfl, rfl, rfl⟩) : e_Sn 69 12 (o_load e_okI 3 13)) t_69_13
noncomputable def n_69_11 : e_Y := u_st f_okI f_s3 n_69_12
theorem t_69_11 : e_Sn 69 11 (e_un n_69_11) := u_stIT (fun _ _ _ => f_s3_eq) (s_istore (i := .istore_n 3) (len := 1) hq_69 (by decide +kernel) rfl (.inr ⟨3, rfl, rfl, rfl⟩) : e_Sn 69 11 (o_store e_okI 3 12)) t_69_12
noncomputable def n_69_10 : e_Y := u_push (.inl 2147483648) n_69_11
theorem t_69_10 : e_Sn 69 10 (e_un n_69_10) := u_pushT (s_iconst (n := (0)) hq_69 (by decide +kernel) rfl ⟨by decide +kernel, by decide +kernel⟩ : e_Sn 69 10 (o_push (.inl 2147483648) 11)) t_69_11
noncomputable def n_69_9 : e_Y := u_st f_okI f_s2 n_69_10
theorem t_69_9 : e_Sn 69 9 (e_un n_69_9) := u_stIT (fun _ _ _ => f_s2_eq) (s_istore (i := .istore_n 2) (len := 1) hq_69 (by decide +kernel) rfl (.inr ⟨2, rfl, rfl, rfl⟩) : e_Sn 69 9 (o_store e_okI 2 10)) t_69_10
noncomputable def n_69_6 : e_Y := u_tab (o_mmin 9)
theorem t_69_6 : e_Sn 69 6 (e_un n_69_6) := u_tabT (s_mmin (index := 28) hq_69 ho_69 (List.mem_of_getElem? (i := 775) (by decide +kernel)) (List.mem_of_getElem? (i := 425) (by decide +kernel)) (List.mem_of_getElem? (i := 142) (by decide +kernel)) (List.mem_of_getElem? (i := 426) (by decide +kernel)) (by decide +kernel) rfl : e_Sn 69 6 (o_mmin 9))
noncomputable def n_69_4 : e_Y := u_push (.inl 2147483708) n_69_6
theorem t_69_4 : e_Sn 69 4 (e_un n_69_4) := u_pushT (s_bipush (n := (60)) hq_69 (by decide +kernel) rfl ⟨by decide +kernel, by decide +kernel⟩ : e_Sn 69 4 (o_push (.inl 2147483708) 6)) t_69_6
noncomputable def n_69_1 : e_Y := u_getf 3 4 (u_old (o_getf (e_f1 3 4) 4) n_69_4) n_69_4
theorem t_69_1 : e_Sn 69 1 (e_un n_69_1) := u_getfT (s_getf (C := er_3) (T := et_3) (N := 5) (ref := "Plateroomprinter$Figures") (index := 24) (ci := 3) (k := 4) hq_69 ho_69 ⟨rfl, by decide, ei_3, (List.mem_of_getElem? (i := 400) (by decide +kernel)), .inl rfl⟩ (by decide +kernel) rfl : e_Sn 69 1 (o_getf (e_f1 3 4) 4)) t_69_4
noncomputable def n_69_0 : e_Y := u_ld f_okA f_l1 n_69_1
theorem t_69_0 : e_Sn 69 0 (e_un n_69_0) := u_ldAT f_l1_eq (s_aload (i := .aload_n 1) (len := 1) hq_69 (by decide +kernel) rfl (.inr ⟨1, rfl, rfl, rfl⟩) : e_Sn 69 0 (o_load e_okR 1 1)) t_69_1
noncomputable def e_tb_69 : e_X := (e_br 9 (e_lf 0 (e_un n_69_0)) (e_lf 9 (e_un n_69_9)))
theorem e_tk_69 : e_Tb 69 e_tb_69 := (e_brT (e_lfT t_69_0) (e_lfT t_69_9))
theorem hq_72 : (e_ml[72]?).map (·.2.1) = some prog_5_method_3_code := rfl
theorem ho_72 : (e_ml[72]?).map (·.1.cls) = some "Plateroomprinter$Items" := rfl
theorem hr_72 : (e_ml[72]?).map (·.2.2.2) = some none := rfl
noncomputable def n_72_60 : e_Y := u_tab (o_retv)
theorem t_72_60 : e_Sn 72 60 (e_un n_72_60) := u_tabT (s_vret hq_72 hr_72 (by decide +kernel) : e_Sn 72 60 (o_retv))
noncomputable def n_72_57 : e_Y := (u_at 26)
theorem t_72_57 : e_Sn 72 57 (e_un n_72_57) := u_gotoT (s_goto (off := (-31)) hq_72 (by decide +kernel) rfl : e_Sn 72 57 (o_goto 26)) u_atT
noncomputable def n_72_54 : e_Y := u_inc f_l3 f_s3 1 n_72_57
theorem t_72_54 : e_Sn 72 54 (e_un n_72_54) := u_incT f_l3_eq (fun _ _ _ => f_s3_eq) (s_iinc (zz := (1)) hq_72 (by decide +kernel) rfl (by decide +kernel) ⟨by decide, by decide⟩ : e_Sn 72 54 (o_iinc 3 1 57)) t_72_57
noncomputable def n_72_51 : e_Y := u_callV 4 76 5 24 5 n_76_0 n_72_54
theorem t_72_51 : e_Sn 72 51 (e_un n_72_51) := u_callVT rfl (s_callV (ci := 4) (C := er_4) (T := et_4) (N := 5) (index := 37) hq_72 ho_72 hy_76 hp_76 hc_76 hi_76 hd_76 (List.mem_of_getElem? (i := 427) (by decide +kernel)) hs_76 (List.mem_of_getElem? (i := 429) (by decide +kernel)) rfl (by decide +kernel) rfl : e_Sn 72 51 (o_callV (e_s1 4 76 5) 5 54)) t_76_0 t_72_54
noncomputable def n_72_50 : e_Y := u_ald 0 (u_old (o_ald e_fcs 51) n_72_51) n_72_51
theorem t_72_50 : e_Sn 72 50 (e_un n_72_50) := u_aldT (s_iald hq_72 (by decide +kernel) rfl : e_Sn 72 50 (o_ald e_fcs 51)) t_72_51
noncomputable def n_72_49 : e_Y := u_ld f_okI f_l3 n_72_50
theorem t_72_49 : e_Sn 72 49 (e_un n_72_49) := u_ldIT f_l3_eq (s_iload (i := .iload_n 3) (len := 1) hq_72 (by decide +kernel) rfl (.inr ⟨3, rfl, rfl, rfl⟩) : e_Sn 72 49 (o_load e_okI 3 50)) t_72_50
noncomputable def n_72_46 : e_Y := u_getf 4 3 (u_old (o_getf (e_f1 4 3) 49) n_72_49) n_72_49
theorem t_72_46 : e_Sn 72 46 (e_un n_72_46) := u_getfT (s_getf (C := er_4) (T := et_4) (N := 5) (ref := "Plateroomprinter$Items") (index := 28) (ci := 4) (k := 3) hq_72 ho_72 ⟨rfl, by decide, ei_4, (List.mem_of_getElem? (i := 234) (by decide +kernel)), .inl rfl⟩ (by decide +kernel) rfl : e_Sn 72 46 (o_getf (e_f1 4 3) 49)) t_72_49
noncomputable def n_72_45 : e_Y := u_ld f_okA f_l1 n_72_46
theorem t_72_45 : e_Sn 72 45 (e_un n_72_45) := u_ldAT f_l1_eq (s_aload (i := .aload_n 1) (len := 1) hq_72 (by decide +kernel) rfl (.inr ⟨1, rfl, rfl, rfl⟩) : e_Sn 72 45 (o_load e_okR 1 46)) t_72_46
noncomputable def n_72_44 : e_Y := u_ald 0 (u_old (o_ald e_fcs 45) n_72_45) n_72_45
theorem t_72_44 : e_Sn 72 44 (e_un n_72_44) := u_aldT (s_iald hq_72 (by decide +kernel) rfl : e_Sn 72 44 (o_ald e_fcs 45)) t_72_45
noncomputable def n_72_43 : e_Y := u_ld f_okI f_l3 n_72_44
theorem t_72_43 : e_Sn 72 43 (e_un n_72_43) := u_ldIT f_l3_eq (s_iload (i := .iload_n 3) (len := 1) hq_72 (by decide +kernel) rfl (.inr ⟨3, rfl, rfl, rfl⟩) : e_Sn 72 43 (o_load e_okI 3 44)) t_72_44
noncomputable def n_72_40 : e_Y := u_getf 4 2 (u_old (o_getf (e_f1 4 2) 43) n_72_43) n_72_43
theorem t_72_40 : e_Sn 72 40 (e_un n_72_40) := u_getfT (s_getf (C := er_4) (T := et_4) (N := 5) (ref := "Plateroomprinter$Items") (index := 25) (ci := 4) (k := 2) hq_72 ho_72 ⟨rfl, by decide, ei_4, (List.mem_of_getElem? (i := 233) (by decide +kernel)), .inl rfl⟩ (by decide +kernel) rfl : e_Sn 72 40 (o_getf (e_f1 4 2) 43)) t_72_43
noncomputable def n_72_39 : e_Y := u_ld f_okA f_l1 n_72_40
theorem t_72_39 : e_Sn 72 39 (e_un n_72_39) := u_ldAT f_l1_eq (s_aload (i := .aload_n 1) (len := 1) hq_72 (by decide +kernel) rfl (.inr ⟨1, rfl, rfl, rfl⟩) : e_Sn 72 39 (o_load e_okR 1 40)) t_72_40
noncomputable def n_72_38 : e_Y := u_ald 0 (u_old (o_ald e_fcs 39) n_72_39) n_72_39
theorem t_72_38 : e_Sn 72 38 (e_un n_72_38) := u_aldT (s_iald hq_72 (by decide +kernel) rfl : e_Sn 72 38 (o_ald e_fcs 39)) t_72_39
noncomputable def n_72_37 : e_Y := u_ld f_okI f_l3 n_72_38
theorem t_72_37 : e_Sn 72 37 (e_un n_72_37) := u_ldIT f_l3_eq (s_iload (i := .iload_n 3) (len := 1) hq_72 (by decide +kernel) rfl (.inr ⟨3, rfl, rfl, rfl⟩) : e_Sn 72 37 (o_load e_okI 3 38)) t_72_38
noncomputable def n_72_34 : e_Y := u_getf 4 1 (u_old (o_getf (e_f1 4 1) 37) n_72_37) n_72_37
theorem t_72_34 : e_Sn 72 34 (e_un n_72_34) := u_getfT (s_getf (C := er_4) (T := et_4) (N := 5) (ref := "Plateroomprinter$Items") (index := 21) (ci := 4) (k := 1) hq_72 ho_72 ⟨rfl, by decide, ei_4, (List.mem_of_getElem? (i := 232) (by decide +kernel)), .inl rfl⟩ (by decide +kernel) rfl : e_Sn 72 34 (o_getf (e_f1 4 1) 37)) t_72_37
noncomputable def n_72_33 : e_Y := u_ld f_okA f_l1 n_72_34
theorem t_72_33 : e_Sn 72 33 (e_un n_72_33) := u_ldAT f_l1_eq (s_aload (i := .aload_n 1) (len := 1) hq_72 (by decide +kernel) rfl (.inr ⟨1, rfl, rfl, rfl⟩) : e_Sn 72 33 (o_load e_okR 1 34)) t_72_34
noncomputable def n_72_32 : e_Y := u_ld f_okI f_l3 n_72_33
theorem t_72_32 : e_Sn 72 32 (e_un n_72_32) := u_ldIT f_l3_eq (s_iload (i := .iload_n 3) (len := 1) hq_72 (by decide +kernel) rfl (.inr ⟨3, rfl, rfl, rfl⟩) : e_Sn 72 32 (o_load e_okI 3 33)) t_72_33
noncomputable def n_72_31 : e_Y := u_ld f_okA f_l0 n_72_32
theorem t_72_31 : e_Sn 72 31 (e_un n_72_31) := u_ldAT f_l0_eq (s_aload (i := .aload_n 0) (len := 1) hq_72 (by decide +kernel) rfl (.inr ⟨0, rfl, rfl, rfl⟩) : e_Sn 72 31 (o_load e_okR 0 32)) t_72_32
noncomputable def n_72_28 : e_Y := u_jmp y_ge (u_old2 (o_clt 31 60) 31 n_72_31 n_72_60) n_72_31 n_72_60
theorem t_72_28 : e_Sn 72 28 (e_un n_72_28) := u_cltT rfl (s_cge (off := (32)) hq_72 (by decide +kernel) rfl rfl : e_Sn 72 28 (o_clt 31 60)) t_72_31 t_72_60
noncomputable def n_72_27 : e_Y := u_ld f_okI f_l2 n_72_28
theorem t_72_27 : e_Sn 72 27 (e_un n_72_27) := u_ldIT f_l2_eq (s_iload (i := .iload_n 2) (len := 1) hq_72 (by decide +kernel) rfl (.inr ⟨2, rfl, rfl, rfl⟩) : e_Sn 72 27 (o_load e_okI 2 28)) t_72_28
noncomputable def n_72_26 : e_Y := u_ld f_okI f_l3 n_72_27
theorem t_72_26 : e_Sn 72 26 (e_un n_72_26) := u_ldIT f_l3_eq (s_iload (i := .iload_n 3) (len := 1) hq_72 (by decide +kernel) rfl (.inr ⟨3, rfl, rfl, rfl⟩) : e_Sn 72 26 (o_load e_okI 3 27)) t_72_27
noncomputable def n_72_25 : e_Y := u_st f_okI f_s3 n_72_26
theorem t_72_25 : e_Sn 72 25 (e_un n_72_25) := u_stIT (fun _ _ _ => f_s3_eq) (s_istore (i := .istore_n 3) (len := 1) hq_72 (by decide +kernel) rfl (.inr ⟨3, rfl, rfl, rfl⟩) : e_Sn 72 25 (o_store e_okI 3 26)) t_72_26
noncomputable def n_72_24 : e_Y := u_push (.inl 2147483648) n_72_25
theorem t_72_24 : e_Sn 72 24 (e_un n_72_24) := u_pushT (s_iconst (n := (0)) hq_72 (by decide +kernel) rfl ⟨by decide +kernel, by decide +kernel⟩ : e_Sn 72 24 (o_push (.inl 2147483648) 25)) t_72_25
noncomputable def n_72_21 : e_Y := u_old (o_putf (e_f1 4 4) e_okI 24) n_72_24
theorem t_72_21 : e_Sn 72 21 (e_un n_72_21) := u_oldT (s_putf (ty0 := ey_4) (ok := e_okI) (C := er_4) (T := et_4) (N := 5) (ref := "Plateroomprinter$Items") (index := 31) (ci := 4) (k := 4) hq_72 ho_72 ⟨rfl, by decide, ei_4, (List.mem_of_getElem? (i := 235) (by decide +kernel)), .inl rfl⟩ eo_4 en_4 e_oksI (.inl rfl) (by decide +kernel) rfl : e_Sn 72 21 (o_putf (e_f1 4 4) e_okI 24)) t_72_24 (e_cg_putf (e_f1 4 4) e_okI)
noncomputable def n_72_20 : e_Y := u_ld f_okI f_l2 n_72_21
theorem t_72_20 : e_Sn 72 20 (e_un n_72_20) := u_ldIT f_l2_eq (s_iload (i := .iload_n 2) (len := 1) hq_72 (by decide +kernel) rfl (.inr ⟨2, rfl, rfl, rfl⟩) : e_Sn 72 20 (o_load e_okI 2 21)) t_72_21
noncomputable def n_72_19 : e_Y := u_ld f_okA f_l0 n_72_20
theorem t_72_19 : e_Sn 72 19 (e_un n_72_19) := u_ldAT f_l0_eq (s_aload (i := .aload_n 0) (len := 1) hq_72 (by decide +kernel) rfl (.inr ⟨0, rfl, rfl, rfl⟩) : e_Sn 72 19 (o_load e_okR 0 20)) t_72_20
noncomputable def n_72_18 : e_Y := u_st f_okI f_s2 n_72_19
theorem t_72_18 : e_Sn 72 18 (e_un n_72_18) := u_stIT (fun _ _ _ => f_s2_eq) (s_istore (i := .istore_n 2) (len := 1) hq_72 (by decide +kernel) rfl (.inr ⟨2, rfl, rfl, rfl⟩) : e_Sn 72 18 (o_store e_okI 2 19)) t_72_19
noncomputable def n_72_15 : e_Y := u_tab (o_mmin 18)
theorem t_72_15 : e_Sn 72 15 (e_un n_72_15) := u_tabT (s_mmin (index := 34) hq_72 ho_72 (List.mem_of_getElem? (i := 424) (by decide +kernel)) (List.mem_of_getElem? (i := 425) (by decide +kernel)) (List.mem_of_getElem? (i := 142) (by decide +kernel)) (List.mem_of_getElem? (i := 426) (by decide +kernel)) (by decide +kernel) rfl : e_Sn 72 15 (o_mmin 18))
noncomputable def n_72_12 : e_Y := u_tab (o_mmin 15)
theorem t_72_12 : e_Sn 72 12 (e_un n_72_12) := u_tabT (s_mmin (index := 34) hq_72 ho_72 (List.mem_of_getElem? (i := 424) (by decide +kernel)) (List.mem_of_getElem? (i := 425) (by decide +kernel)) (List.mem_of_getElem? (i := 142) (by decide +kernel)) (List.mem_of_getElem? (i := 426) (by decide +kernel)) (by decide +kernel) rfl : e_Sn 72 12 (o_mmin 15))
noncomputable def n_72_9 : e_Y := u_getf 4 0 (u_old (o_getf (e_f1 4 0) 12) n_72_12) n_72_12
theorem t_72_9 : e_Sn 72 9 (e_un n_72_9) := u_getfT (s_getf (C := er_4) (T := et_4) (N := 5) (ref := "Plateroomprinter$Items") (index := 15) (ci := 4) (k := 0) hq_72 ho_72 ⟨rfl, by decide, ei_4, (List.mem_of_getElem? (i := 231) (by decide +kernel)), .inl rfl⟩ (by decide +kernel) rfl : e_Sn 72 9 (o_getf (e_f1 4 0) 12)) t_72_12
noncomputable def n_72_8 : e_Y := u_ld f_okA f_l1 n_72_9
theorem t_72_8 : e_Sn 72 8 (e_un n_72_8) := u_ldAT f_l1_eq (s_aload (i := .aload_n 1) (len := 1) hq_72 (by decide +kernel) rfl (.inr ⟨1, rfl, rfl, rfl⟩) : e_Sn 72 8 (o_load e_okR 1 9)) t_72_9
noncomputable def n_72_5 : e_Y := u_getf 4 0 (u_old (o_getf (e_f1 4 0) 8) n_72_8) n_72_8
theorem t_72_5 : e_Sn 72 5 (e_un n_72_5) := u_getfT (s_getf (C := er_4) (T := et_4) (N := 5) (ref := "Plateroomprinter$Items") (index := 15) (ci := 4) (k := 0) hq_72 ho_72 ⟨rfl, by decide, ei_4, (List.mem_of_getElem? (i := 231) (by decide +kernel)), .inl rfl⟩ (by decide +kernel) rfl : e_Sn 72 5 (o_getf (e_f1 4 0) 8)) t_72_8
noncomputable def n_72_4 : e_Y := u_ld f_okA f_l0 n_72_5
theorem t_72_4 : e_Sn 72 4 (e_un n_72_4) := u_ldAT f_l0_eq (s_aload (i := .aload_n 0) (len := 1) hq_72 (by decide +kernel) rfl (.inr ⟨0, rfl, rfl, rfl⟩) : e_Sn 72 4 (o_load e_okR 0 5)) t_72_5
noncomputable def n_72_1 : e_Y := u_getf 4 4 (u_old (o_getf (e_f1 4 4) 4) n_72_4) n_72_4
theorem t_72_1 : e_Sn 72 1 (e_un n_72_1) := u_getfT (s_getf (C := er_4) (T := et_4) (N := 5) (ref := "Plateroomprinter$Items") (index := 31) (ci := 4) (k := 4) hq_72 ho_72 ⟨rfl, by decide, ei_4, (List.mem_of_getElem? (i := 235) (by decide +kernel)), .inl rfl⟩ (by decide +kernel) rfl : e_Sn 72 1 (o_getf (e_f1 4 4) 4)) t_72_4
noncomputable def n_72_0 : e_Y := u_ld f_okA f_l1 n_72_1
theorem t_72_0 : e_Sn 72 0 (e_un n_72_0) := u_ldAT f_l1_eq (s_aload (i := .aload_n 1) (len := 1) hq_72 (by decide +kernel) rfl (.inr ⟨1, rfl, rfl, rfl⟩) : e_Sn 72 0 (o_load e_okR 1 1)) t_72_1
noncomputable def e_tb_72 : e_X := (e_br 18 (e_br 15 (e_lf 0 (e_un n_72_0)) (e_lf 15 (e_un n_72_15))) (e_br 26 (e_lf 18 (e_un n_72_18)) (e_lf 26 (e_un n_72_26))))
theorem e_tk_72 : e_Tb 72 e_tb_72 := (e_brT (e_brT (e_lfT t_72_0) (e_lfT t_72_15)) (e_brT (e_lfT t_72_18) (e_lfT t_72_26)))
theorem hq_84 : (e_ml[84]?).map (·.2.1) = some prog_8_method_3_code := rfl
theorem ho_84 : (e_ml[84]?).map (·.1.cls) = some "Plateroomprinter$Path" := rfl
theorem hr_84 : (e_ml[84]?).map (·.2.2.2) = some none := rfl
noncomputable def n_84_102 : e_Y := u_tab (o_retv)
theorem t_84_102 : e_Sn 84 102 (e_un n_84_102) := u_tabT (s_vret hq_84 hr_84 (by decide +kernel) : e_Sn 84 102 (o_retv))
noncomputable def n_84_99 : e_Y := u_tab (o_copy0 102)
theorem t_84_99 : e_Sn 84 99 (e_un n_84_99) := u_tabT (s_copy0 (index := 40) hq_84 ho_84 (List.mem_of_getElem? (i := 762) (by decide +kernel)) (List.mem_of_getElem? (i := 764) (by decide +kernel)) (List.mem_of_getElem? (i := 763) (by decide +kernel)) (List.mem_of_getElem? (i := 159) (by decide +kernel)) (by decide +kernel) rfl : e_Sn 84 99 (o_copy0 102))
noncomputable def n_84_96 : e_Y := u_getf 7 4 (u_old (o_getf (e_f1 7 4) 99) n_84_99) n_84_99
theorem t_84_96 : e_Sn 84 96 (e_un n_84_96) := u_getfT (s_getf (C := er_7) (T := et_7) (N := 6) (ref := "Plateroomprinter$Path") (index := 24) (ci := 7) (k := 4) hq_84 ho_84 ⟨rfl, by decide, ei_7, (List.mem_of_getElem? (i := 294) (by decide +kernel)), .inl rfl⟩ (by decide +kernel) rfl : e_Sn 84 96 (o_getf (e_f1 7 4) 99)) t_84_99
noncomputable def n_84_95 : e_Y := u_ld f_okA f_l0 n_84_96
theorem t_84_95 : e_Sn 84 95 (e_un n_84_95) := u_ldAT f_l0_eq (s_aload (i := .aload_n 0) (len := 1) hq_84 (by decide +kernel) rfl (.inr ⟨0, rfl, rfl, rfl⟩) : e_Sn 84 95 (o_load e_okR 0 96)) t_84_96
noncomputable def n_84_94 : e_Y := u_push (.inl 2147483648) n_84_95
theorem t_84_94 : e_Sn 84 94 (e_un n_84_94) := u_pushT (s_iconst (n := (0)) hq_84 (by decide +kernel) rfl ⟨by decide +kernel, by decide +kernel⟩ : e_Sn 84 94 (o_push (.inl 2147483648) 95)) t_84_95
noncomputable def n_84_91 : e_Y := u_getf 7 3 (u_old (o_getf (e_f1 7 3) 94) n_84_94) n_84_94
theorem t_84_91 : e_Sn 84 91 (e_un n_84_91) := u_getfT (s_getf (C := er_7) (T := et_7) (N := 6) (ref := "Plateroomprinter$Path") (index := 21) (ci := 7) (k := 3) hq_84 ho_84 ⟨rfl, by decide, ei_7, (List.mem_of_getElem? (i := 291) (by decide +kernel)), .inl rfl⟩ (by decide +kernel) rfl : e_Sn 84 91 (o_getf (e_f1 7 3) 94)) t_84_94
noncomputable def n_84_90 : e_Y := u_ld f_okA f_l0 n_84_91
theorem t_84_90 : e_Sn 84 90 (e_un n_84_90) := u_ldAT f_l0_eq (s_aload (i := .aload_n 0) (len := 1) hq_84 (by decide +kernel) rfl (.inr ⟨0, rfl, rfl, rfl⟩) : e_Sn 84 90 (o_load e_okR 0 91)) t_84_91
noncomputable def n_84_89 : e_Y := u_push (.inl 2147483648) n_84_90
theorem t_84_89 : e_Sn 84 89 (e_un n_84_89) := u_pushT (s_iconst (n := (0)) hq_84 (by decide +kernel) rfl ⟨by decide +kernel, by decide +kernel⟩ : e_Sn 84 89 (o_push (.inl 2147483648) 90)) t_84_90
noncomputable def n_84_86 : e_Y := u_getf 7 3 (u_old (o_getf (e_f1 7 3) 89) n_84_89) n_84_89
theorem t_84_86 : e_Sn 84 86 (e_un n_84_86) := u_getfT (s_getf (C := er_7) (T := et_7) (N := 6) (ref := "Plateroomprinter$Path") (index := 21) (ci := 7) (k := 3) hq_84 ho_84 ⟨rfl, by decide, ei_7, (List.mem_of_getElem? (i := 291) (by decide +kernel)), .inl rfl⟩ (by decide +kernel) rfl : e_Sn 84 86 (o_getf (e_f1 7 3) 89)) t_84_89
noncomputable def n_84_85 : e_Y := u_ld f_okA f_l1 n_84_86
theorem t_84_85 : e_Sn 84 85 (e_un n_84_85) := u_ldAT f_l1_eq (s_aload (i := .aload_n 1) (len := 1) hq_84 (by decide +kernel) rfl (.inr ⟨1, rfl, rfl, rfl⟩) : e_Sn 84 85 (o_load e_okR 1 86)) t_84_86
noncomputable def n_84_82 : e_Y := u_tab (o_copy0 85)
theorem t_84_82 : e_Sn 84 82 (e_un n_84_82) := u_tabT (s_copy0 (index := 40) hq_84 ho_84 (List.mem_of_getElem? (i := 762) (by decide +kernel)) (List.mem_of_getElem? (i := 764) (by decide +kernel)) (List.mem_of_getElem? (i := 763) (by decide +kernel)) (List.mem_of_getElem? (i := 159) (by decide +kernel)) (by decide +kernel) rfl : e_Sn 84 82 (o_copy0 85))
noncomputable def n_84_79 : e_Y := u_getf 7 4 (u_old (o_getf (e_f1 7 4) 82) n_84_82) n_84_82
theorem t_84_79 : e_Sn 84 79 (e_un n_84_79) := u_getfT (s_getf (C := er_7) (T := et_7) (N := 6) (ref := "Plateroomprinter$Path") (index := 24) (ci := 7) (k := 4) hq_84 ho_84 ⟨rfl, by decide, ei_7, (List.mem_of_getElem? (i := 294) (by decide +kernel)), .inl rfl⟩ (by decide +kernel) rfl : e_Sn 84 79 (o_getf (e_f1 7 4) 82)) t_84_82
noncomputable def n_84_78 : e_Y := u_ld f_okA f_l0 n_84_79
theorem t_84_78 : e_Sn 84 78 (e_un n_84_78) := u_ldAT f_l0_eq (s_aload (i := .aload_n 0) (len := 1) hq_84 (by decide +kernel) rfl (.inr ⟨0, rfl, rfl, rfl⟩) : e_Sn 84 78 (o_load e_okR 0 79)) t_84_79
noncomputable def n_84_77 : e_Y := u_push (.inl 2147483648) n_84_78
theorem t_84_77 : e_Sn 84 77 (e_un n_84_77) := u_pushT (s_iconst (n := (0)) hq_84 (by decide +kernel) rfl ⟨by decide +kernel, by decide +kernel⟩ : e_Sn 84 77 (o_push (.inl 2147483648) 78)) t_84_78
noncomputable def n_84_74 : e_Y := u_getf 7 2 (u_old (o_getf (e_f1 7 2) 77) n_84_77) n_84_77
theorem t_84_74 : e_Sn 84 74 (e_un n_84_74) := u_getfT (s_getf (C := er_7) (T := et_7) (N := 6) (ref := "Plateroomprinter$Path") (index := 18) (ci := 7) (k := 2) hq_84 ho_84 ⟨rfl, by decide, ei_7, (List.mem_of_getElem? (i := 290) (by decide +kernel)), .inl rfl⟩ (by decide +kernel) rfl : e_Sn 84 74 (o_getf (e_f1 7 2) 77)) t_84_77
noncomputable def n_84_73 : e_Y := u_ld f_okA f_l0 n_84_74
theorem t_84_73 : e_Sn 84 73 (e_un n_84_73) := u_ldAT f_l0_eq (s_aload (i := .aload_n 0) (len := 1) hq_84 (by decide +kernel) rfl (.inr ⟨0, rfl, rfl, rfl⟩) : e_Sn 84 73 (o_load e_okR 0 74)) t_84_74
noncomputable def n_84_72 : e_Y := u_push (.inl 2147483648) n_84_73
theorem t_84_72 : e_Sn 84 72 (e_un n_84_72) := u_pushT (s_iconst (n := (0)) hq_84 (by decide +kernel) rfl ⟨by decide +kernel, by decide +kernel⟩ : e_Sn 84 72 (o_push (.inl 2147483648) 73)) t_84_73
noncomputable def n_84_69 : e_Y := u_getf 7 2 (u_old (o_getf (e_f1 7 2) 72) n_84_72) n_84_72
theorem t_84_69 : e_Sn 84 69 (e_un n_84_69) := u_getfT (s_getf (C := er_7) (T := et_7) (N := 6) (ref := "Plateroomprinter$Path") (index := 18) (ci := 7) (k := 2) hq_84 ho_84 ⟨rfl, by decide, ei_7, (List.mem_of_getElem? (i := 290) (by decide +kernel)), .inl rfl⟩ (by decide +kernel) rfl : e_Sn 84 69 (o_getf (e_f1 7 2) 72)) t_84_72
noncomputable def n_84_68 : e_Y := u_ld f_okA f_l1 n_84_69
theorem t_84_68 : e_Sn 84 68 (e_un n_84_68) := u_ldAT f_l1_eq (s_aload (i := .aload_n 1) (len := 1) hq_84 (by decide +kernel) rfl (.inr ⟨1, rfl, rfl, rfl⟩) : e_Sn 84 68 (o_load e_okR 1 69)) t_84_69
noncomputable def n_84_65 : e_Y := u_tab (o_copy0 68)
theorem t_84_65 : e_Sn 84 65 (e_un n_84_65) := u_tabT (s_copy0 (index := 40) hq_84 ho_84 (List.mem_of_getElem? (i := 762) (by decide +kernel)) (List.mem_of_getElem? (i := 764) (by decide +kernel)) (List.mem_of_getElem? (i := 763) (by decide +kernel)) (List.mem_of_getElem? (i := 159) (by decide +kernel)) (by decide +kernel) rfl : e_Sn 84 65 (o_copy0 68))
noncomputable def n_84_62 : e_Y := u_getf 7 5 (u_old (o_getf (e_f1 7 5) 65) n_84_65) n_84_65
theorem t_84_62 : e_Sn 84 62 (e_un n_84_62) := u_getfT (s_getf (C := er_7) (T := et_7) (N := 6) (ref := "Plateroomprinter$Path") (index := 28) (ci := 7) (k := 5) hq_84 ho_84 ⟨rfl, by decide, ei_7, (List.mem_of_getElem? (i := 299) (by decide +kernel)), .inl rfl⟩ (by decide +kernel) rfl : e_Sn 84 62 (o_getf (e_f1 7 5) 65)) t_84_65
noncomputable def n_84_61 : e_Y := u_ld f_okA f_l0 n_84_62
theorem t_84_61 : e_Sn 84 61 (e_un n_84_61) := u_ldAT f_l0_eq (s_aload (i := .aload_n 0) (len := 1) hq_84 (by decide +kernel) rfl (.inr ⟨0, rfl, rfl, rfl⟩) : e_Sn 84 61 (o_load e_okR 0 62)) t_84_62
noncomputable def n_84_60 : e_Y := u_push (.inl 2147483648) n_84_61
theorem t_84_60 : e_Sn 84 60 (e_un n_84_60) := u_pushT (s_iconst (n := (0)) hq_84 (by decide +kernel) rfl ⟨by decide +kernel, by decide +kernel⟩ : e_Sn 84 60 (o_push (.inl 2147483648) 61)) t_84_61
noncomputable def n_84_57 : e_Y := u_getf 7 1 (u_old (o_getf (e_f1 7 1) 60) n_84_60) n_84_60
theorem t_84_57 : e_Sn 84 57 (e_un n_84_57) := u_getfT (s_getf (C := er_7) (T := et_7) (N := 6) (ref := "Plateroomprinter$Path") (index := 15) (ci := 7) (k := 1) hq_84 ho_84 ⟨rfl, by decide, ei_7, (List.mem_of_getElem? (i := 288) (by decide +kernel)), .inl rfl⟩ (by decide +kernel) rfl : e_Sn 84 57 (o_getf (e_f1 7 1) 60)) t_84_60
noncomputable def n_84_56 : e_Y := u_ld f_okA f_l0 n_84_57
theorem t_84_56 : e_Sn 84 56 (e_un n_84_56) := u_ldAT f_l0_eq (s_aload (i := .aload_n 0) (len := 1) hq_84 (by decide +kernel) rfl (.inr ⟨0, rfl, rfl, rfl⟩) : e_Sn 84 56 (o_load e_okR 0 57)) t_84_57
noncomputable def n_84_55 : e_Y := u_push (.inl 2147483648) n_84_56
theorem t_84_55 : e_Sn 84 55 (e_un n_84_55) := u_pushT (s_iconst (n := (0)) hq_84 (by decide +kernel) rfl ⟨by decide +kernel, by decide +kernel⟩ : e_Sn 84 55 (o_push (.inl 2147483648) 56)) t_84_56
noncomputable def n_84_52 : e_Y := u_getf 7 1 (u_old (o_getf (e_f1 7 1) 55) n_84_55) n_84_55
theorem t_84_52 : e_Sn 84 52 (e_un n_84_52) := u_getfT (s_getf (C := er_7) (T := et_7) (N := 6) (ref := "Plateroomprinter$Path") (index := 15) (ci := 7) (k := 1) hq_84 ho_84 ⟨rfl, by decide, ei_7, (List.mem_of_getElem? (i := 288) (by decide +kernel)), .inl rfl⟩ (by decide +kernel) rfl : e_Sn 84 52 (o_getf (e_f1 7 1) 55)) t_84_55
noncomputable def n_84_51 : e_Y := u_ld f_okA f_l1 n_84_52
theorem t_84_51 : e_Sn 84 51 (e_un n_84_51) := u_ldAT f_l1_eq (s_aload (i := .aload_n 1) (len := 1) hq_84 (by decide +kernel) rfl (.inr ⟨1, rfl, rfl, rfl⟩) : e_Sn 84 51 (o_load e_okR 1 52)) t_84_52
noncomputable def n_84_48 : e_Y := u_tab (o_copy0 51)
theorem t_84_48 : e_Sn 84 48 (e_un n_84_48) := u_tabT (s_copy0 (index := 40) hq_84 ho_84 (List.mem_of_getElem? (i := 762) (by decide +kernel)) (List.mem_of_getElem? (i := 764) (by decide +kernel)) (List.mem_of_getElem? (i := 763) (by decide +kernel)) (List.mem_of_getElem? (i := 159) (by decide +kernel)) (by decide +kernel) rfl : e_Sn 84 48 (o_copy0 51))
noncomputable def n_84_45 : e_Y := u_getf 7 5 (u_old (o_getf (e_f1 7 5) 48) n_84_48) n_84_48
theorem t_84_45 : e_Sn 84 45 (e_un n_84_45) := u_getfT (s_getf (C := er_7) (T := et_7) (N := 6) (ref := "Plateroomprinter$Path") (index := 28) (ci := 7) (k := 5) hq_84 ho_84 ⟨rfl, by decide, ei_7, (List.mem_of_getElem? (i := 299) (by decide +kernel)), .inl rfl⟩ (by decide +kernel) rfl : e_Sn 84 45 (o_getf (e_f1 7 5) 48)) t_84_48
noncomputable def n_84_44 : e_Y := u_ld f_okA f_l0 n_84_45
theorem t_84_44 : e_Sn 84 44 (e_un n_84_44) := u_ldAT f_l0_eq (s_aload (i := .aload_n 0) (len := 1) hq_84 (by decide +kernel) rfl (.inr ⟨0, rfl, rfl, rfl⟩) : e_Sn 84 44 (o_load e_okR 0 45)) t_84_45
noncomputable def n_84_43 : e_Y := u_push (.inl 2147483648) n_84_44
theorem t_84_43 : e_Sn 84 43 (e_un n_84_43) := u_pushT (s_iconst (n := (0)) hq_84 (by decide +kernel) rfl ⟨by decide +kernel, by decide +kernel⟩ : e_Sn 84 43 (o_push (.inl 2147483648) 44)) t_84_44
noncomputable def n_84_40 : e_Y := u_getf 7 0 (u_old (o_getf (e_f1 7 0) 43) n_84_43) n_84_43
theorem t_84_40 : e_Sn 84 40 (e_un n_84_40) := u_getfT (s_getf (C := er_7) (T := et_7) (N := 6) (ref := "Plateroomprinter$Path") (index := 9) (ci := 7) (k := 0) hq_84 ho_84 ⟨rfl, by decide, ei_7, (List.mem_of_getElem? (i := 286) (by decide +kernel)), .inl rfl⟩ (by decide +kernel) rfl : e_Sn 84 40 (o_getf (e_f1 7 0) 43)) t_84_43
noncomputable def n_84_39 : e_Y := u_ld f_okA f_l0 n_84_40
theorem t_84_39 : e_Sn 84 39 (e_un n_84_39) := u_ldAT f_l0_eq (s_aload (i := .aload_n 0) (len := 1) hq_84 (by decide +kernel) rfl (.inr ⟨0, rfl, rfl, rfl⟩) : e_Sn 84 39 (o_load e_okR 0 40)) t_84_40
noncomputable def n_84_38 : e_Y := u_push (.inl 2147483648) n_84_39
theorem t_84_38 : e_Sn 84 38 (e_un n_84_38) := u_pushT (s_iconst (n := (0)) hq_84 (by decide +kernel) rfl ⟨by decide +kernel, by decide +kernel⟩ : e_Sn 84 38 (o_push (.inl 2147483648) 39)) t_84_39
noncomputable def n_84_35 : e_Y := u_getf 7 0 (u_old (o_getf (e_f1 7 0) 38) n_84_38) n_84_38
theorem t_84_35 : e_Sn 84 35 (e_un n_84_35) := u_getfT (s_getf (C := er_7) (T := et_7) (N := 6) (ref := "Plateroomprinter$Path") (index := 9) (ci := 7) (k := 0) hq_84 ho_84 ⟨rfl, by decide, ei_7, (List.mem_of_getElem? (i := 286) (by decide +kernel)), .inl rfl⟩ (by decide +kernel) rfl : e_Sn 84 35 (o_getf (e_f1 7 0) 38)) t_84_38
noncomputable def n_84_34 : e_Y := u_ld f_okA f_l1 n_84_35
theorem t_84_34 : e_Sn 84 34 (e_un n_84_34) := u_ldAT f_l1_eq (s_aload (i := .aload_n 1) (len := 1) hq_84 (by decide +kernel) rfl (.inr ⟨1, rfl, rfl, rfl⟩) : e_Sn 84 34 (o_load e_okR 1 35)) t_84_35
noncomputable def n_84_31 : e_Y := u_old (o_putf (e_f1 7 5) e_okI 34) n_84_34
theorem t_84_31 : e_Sn 84 31 (e_un n_84_31) := u_oldT (s_putf (ty0 := ey_7) (ok := e_okI) (C := er_7) (T := et_7) (N := 6) (ref := "Plateroomprinter$Path") (index := 28) (ci := 7) (k := 5) hq_84 ho_84 ⟨rfl, by decide, ei_7, (List.mem_of_getElem? (i := 299) (by decide +kernel)), .inl rfl⟩ eo_7 en_7 e_oksI (.inl rfl) (by decide +kernel) rfl : e_Sn 84 31 (o_putf (e_f1 7 5) e_okI 34)) t_84_34 (e_cg_putf (e_f1 7 5) e_okI)
noncomputable def n_84_28 : e_Y := u_tab (o_mmax 31)
theorem t_84_28 : e_Sn 84 28 (e_un n_84_28) := u_tabT (s_mmax (index := 37) hq_84 ho_84 (List.mem_of_getElem? (i := 761) (by decide +kernel)) (List.mem_of_getElem? (i := 229) (by decide +kernel)) (List.mem_of_getElem? (i := 142) (by decide +kernel)) (List.mem_of_getElem? (i := 230) (by decide +kernel)) (by decide +kernel) rfl : e_Sn 84 28 (o_mmax 31))
noncomputable def n_84_25 : e_Y := u_tab (o_mmin 28)
theorem t_84_25 : e_Sn 84 25 (e_un n_84_25) := u_tabT (s_mmin (index := 31) hq_84 ho_84 (List.mem_of_getElem? (i := 760) (by decide +kernel)) (List.mem_of_getElem? (i := 425) (by decide +kernel)) (List.mem_of_getElem? (i := 142) (by decide +kernel)) (List.mem_of_getElem? (i := 426) (by decide +kernel)) (by decide +kernel) rfl : e_Sn 84 25 (o_mmin 28))
noncomputable def n_84_23 : e_Y := u_push (.inl 2147483768) n_84_25
theorem t_84_23 : e_Sn 84 23 (e_un n_84_23) := u_pushT (s_bipush (n := (120)) hq_84 (by decide +kernel) rfl ⟨by decide +kernel, by decide +kernel⟩ : e_Sn 84 23 (o_push (.inl 2147483768) 25)) t_84_25
noncomputable def n_84_20 : e_Y := u_getf 7 5 (u_old (o_getf (e_f1 7 5) 23) n_84_23) n_84_23
theorem t_84_20 : e_Sn 84 20 (e_un n_84_20) := u_getfT (s_getf (C := er_7) (T := et_7) (N := 6) (ref := "Plateroomprinter$Path") (index := 28) (ci := 7) (k := 5) hq_84 ho_84 ⟨rfl, by decide, ei_7, (List.mem_of_getElem? (i := 299) (by decide +kernel)), .inl rfl⟩ (by decide +kernel) rfl : e_Sn 84 20 (o_getf (e_f1 7 5) 23)) t_84_23
noncomputable def n_84_19 : e_Y := u_ld f_okA f_l1 n_84_20
theorem t_84_19 : e_Sn 84 19 (e_un n_84_19) := u_ldAT f_l1_eq (s_aload (i := .aload_n 1) (len := 1) hq_84 (by decide +kernel) rfl (.inr ⟨1, rfl, rfl, rfl⟩) : e_Sn 84 19 (o_load e_okR 1 20)) t_84_20
noncomputable def n_84_18 : e_Y := u_push (.inl 2147483648) n_84_19
theorem t_84_18 : e_Sn 84 18 (e_un n_84_18) := u_pushT (s_iconst (n := (0)) hq_84 (by decide +kernel) rfl ⟨by decide +kernel, by decide +kernel⟩ : e_Sn 84 18 (o_push (.inl 2147483648) 19)) t_84_19
noncomputable def n_84_17 : e_Y := u_ld f_okA f_l0 n_84_18
theorem t_84_17 : e_Sn 84 17 (e_un n_84_17) := u_ldAT f_l0_eq (s_aload (i := .aload_n 0) (len := 1) hq_84 (by decide +kernel) rfl (.inr ⟨0, rfl, rfl, rfl⟩) : e_Sn 84 17 (o_load e_okR 0 18)) t_84_18
noncomputable def n_84_14 : e_Y := u_old (o_putf (e_f1 7 4) e_okI 17) n_84_17
theorem t_84_14 : e_Sn 84 14 (e_un n_84_14) := u_oldT (s_putf (ty0 := ey_7) (ok := e_okI) (C := er_7) (T := et_7) (N := 6) (ref := "Plateroomprinter$Path") (index := 24) (ci := 7) (k := 4) hq_84 ho_84 ⟨rfl, by decide, ei_7, (List.mem_of_getElem? (i := 294) (by decide +kernel)), .inl rfl⟩ eo_7 en_7 e_oksI (.inl rfl) (by decide +kernel) rfl : e_Sn 84 14 (o_putf (e_f1 7 4) e_okI 17)) t_84_17 (e_cg_putf (e_f1 7 4) e_okI)
noncomputable def n_84_11 : e_Y := u_tab (o_mmax 14)
theorem t_84_11 : e_Sn 84 11 (e_un n_84_11) := u_tabT (s_mmax (index := 37) hq_84 ho_84 (List.mem_of_getElem? (i := 761) (by decide +kernel)) (List.mem_of_getElem? (i := 229) (by decide +kernel)) (List.mem_of_getElem? (i := 142) (by decide +kernel)) (List.mem_of_getElem? (i := 230) (by decide +kernel)) (by decide +kernel) rfl : e_Sn 84 11 (o_mmax 14))
noncomputable def n_84_8 : e_Y := u_tab (o_mmin 11)
theorem t_84_8 : e_Sn 84 8 (e_un n_84_8) := u_tabT (s_mmin (index := 31) hq_84 ho_84 (List.mem_of_getElem? (i := 760) (by decide +kernel)) (List.mem_of_getElem? (i := 425) (by decide +kernel)) (List.mem_of_getElem? (i := 142) (by decide +kernel)) (List.mem_of_getElem? (i := 426) (by decide +kernel)) (by decide +kernel) rfl : e_Sn 84 8 (o_mmin 11))
noncomputable def n_84_6 : e_Y := u_push (.inl 2147483768) n_84_8
theorem t_84_6 : e_Sn 84 6 (e_un n_84_6) := u_pushT (s_bipush (n := (120)) hq_84 (by decide +kernel) rfl ⟨by decide +kernel, by decide +kernel⟩ : e_Sn 84 6 (o_push (.inl 2147483768) 8)) t_84_8
noncomputable def n_84_3 : e_Y := u_getf 7 4 (u_old (o_getf (e_f1 7 4) 6) n_84_6) n_84_6
theorem t_84_3 : e_Sn 84 3 (e_un n_84_3) := u_getfT (s_getf (C := er_7) (T := et_7) (N := 6) (ref := "Plateroomprinter$Path") (index := 24) (ci := 7) (k := 4) hq_84 ho_84 ⟨rfl, by decide, ei_7, (List.mem_of_getElem? (i := 294) (by decide +kernel)), .inl rfl⟩ (by decide +kernel) rfl : e_Sn 84 3 (o_getf (e_f1 7 4) 6)) t_84_6
noncomputable def n_84_2 : e_Y := u_ld f_okA f_l1 n_84_3
theorem t_84_2 : e_Sn 84 2 (e_un n_84_2) := u_ldAT f_l1_eq (s_aload (i := .aload_n 1) (len := 1) hq_84 (by decide +kernel) rfl (.inr ⟨1, rfl, rfl, rfl⟩) : e_Sn 84 2 (o_load e_okR 1 3)) t_84_3
noncomputable def n_84_1 : e_Y := u_push (.inl 2147483648) n_84_2
theorem t_84_1 : e_Sn 84 1 (e_un n_84_1) := u_pushT (s_iconst (n := (0)) hq_84 (by decide +kernel) rfl ⟨by decide +kernel, by decide +kernel⟩ : e_Sn 84 1 (o_push (.inl 2147483648) 2)) t_84_2
noncomputable def n_84_0 : e_Y := u_ld f_okA f_l0 n_84_1
theorem t_84_0 : e_Sn 84 0 (e_un n_84_0) := u_ldAT f_l0_eq (s_aload (i := .aload_n 0) (len := 1) hq_84 (by decide +kernel) rfl (.inr ⟨0, rfl, rfl, rfl⟩) : e_Sn 84 0 (o_load e_okR 0 1)) t_84_1
noncomputable def e_tb_84 : e_X := (e_br 31 (e_br 14 (e_br 11 (e_lf 0 (e_un n_84_0)) (e_lf 11 (e_un n_84_11))) (e_br 28 (e_lf 14 (e_un n_84_14)) (e_lf 28 (e_un n_84_28)))) (e_br 68 (e_br 51 (e_lf 31 (e_un n_84_31)) (e_lf 51 (e_un n_84_51))) (e_br 85 (e_lf 68 (e_un n_84_68)) (e_br 102 (e_lf 85 (e_un n_84_85)) (e_lf 102 (e_un n_84_102))))))
theorem e_tk_84 : e_Tb 84 e_tb_84 := (e_brT (e_brT (e_brT (e_lfT t_84_0) (e_lfT t_84_11)) (e_brT (e_lfT t_84_14) (e_lfT t_84_28))) (e_brT (e_brT (e_lfT t_84_31) (e_lfT t_84_51)) (e_brT (e_lfT t_84_68) (e_brT (e_lfT t_84_85) (e_lfT t_84_102)))))
theorem hq_95 : (e_ml[95]?).map (·.2.1) = some prog_10_method_3_code := rfl
theorem ho_95 : (e_ml[95]?).map (·.1.cls) = some "Plateroomprinter$Sheet" := rfl
theorem hr_95 : (e_ml[95]?).map (·.2.2.2) = some none := rfl
noncomputable def n_95_27 : e_Y := u_tab (o_retv)
theorem t_95_27 : e_Sn 95 27 (e_un n_95_27) := u_tabT (s_vret hq_95 hr_95 (by decide +kernel) : e_Sn 95 27 (o_retv))
noncomputable def n_95_24 : e_Y := (u_at 2)
theorem t_95_24 : e_Sn 95 24 (e_un n_95_24) := u_gotoT (s_goto (off := (-22)) hq_95 (by decide +kernel) rfl : e_Sn 95 24 (o_goto 2)) u_atT
noncomputable def n_95_21 : e_Y := u_inc f_l2 f_s2 1 n_95_24
theorem t_95_21 : e_Sn 95 21 (e_un n_95_21) := u_incT f_l2_eq (fun _ _ _ => f_s2_eq) (s_iinc (zz := (1)) hq_95 (by decide +kernel) rfl (by decide +kernel) ⟨by decide, by decide⟩ : e_Sn 95 21 (o_iinc 2 1 24)) t_95_24
noncomputable def n_95_20 : e_Y := u_old (o_ast 0 e_okI 21) n_95_21
theorem t_95_20 : e_Sn 95 20 (e_un n_95_20) := u_oldT (s_iast hq_95 (by decide +kernel) rfl : e_Sn 95 20 (o_ast 0 e_okI 21)) t_95_21 (e_cg_ast 0 e_okI)
noncomputable def n_95_19 : e_Y := u_ald 0 (u_old (o_ald e_fcs 20) n_95_20) n_95_20
theorem t_95_19 : e_Sn 95 19 (e_un n_95_19) := u_aldT (s_iald hq_95 (by decide +kernel) rfl : e_Sn 95 19 (o_ald e_fcs 20)) t_95_20
noncomputable def n_95_18 : e_Y := u_ld f_okI f_l2 n_95_19
theorem t_95_18 : e_Sn 95 18 (e_un n_95_18) := u_ldIT f_l2_eq (s_iload (i := .iload_n 2) (len := 1) hq_95 (by decide +kernel) rfl (.inr ⟨2, rfl, rfl, rfl⟩) : e_Sn 95 18 (o_load e_okI 2 19)) t_95_19
noncomputable def n_95_15 : e_Y := u_getf 9 0 (u_old (o_getf (e_f1 9 0) 18) n_95_18) n_95_18
theorem t_95_15 : e_Sn 95 15 (e_un n_95_15) := u_getfT (s_getf (C := er_9) (T := et_9) (N := 1) (ref := "Plateroomprinter$Sheet") (index := 9) (ci := 9) (k := 0) hq_95 ho_95 ⟨rfl, by decide, ei_9, (List.mem_of_getElem? (i := 381) (by decide +kernel)), .inl rfl⟩ (by decide +kernel) rfl : e_Sn 95 15 (o_getf (e_f1 9 0) 18)) t_95_18
noncomputable def n_95_14 : e_Y := u_ld f_okA f_l1 n_95_15
theorem t_95_14 : e_Sn 95 14 (e_un n_95_14) := u_ldAT f_l1_eq (s_aload (i := .aload_n 1) (len := 1) hq_95 (by decide +kernel) rfl (.inr ⟨1, rfl, rfl, rfl⟩) : e_Sn 95 14 (o_load e_okR 1 15)) t_95_15
noncomputable def n_95_13 : e_Y := u_ld f_okI f_l2 n_95_14
theorem t_95_13 : e_Sn 95 13 (e_un n_95_13) := u_ldIT f_l2_eq (s_iload (i := .iload_n 2) (len := 1) hq_95 (by decide +kernel) rfl (.inr ⟨2, rfl, rfl, rfl⟩) : e_Sn 95 13 (o_load e_okI 2 14)) t_95_14
noncomputable def n_95_10 : e_Y := u_getf 9 0 (u_old (o_getf (e_f1 9 0) 13) n_95_13) n_95_13
theorem t_95_10 : e_Sn 95 10 (e_un n_95_10) := u_getfT (s_getf (C := er_9) (T := et_9) (N := 1) (ref := "Plateroomprinter$Sheet") (index := 9) (ci := 9) (k := 0) hq_95 ho_95 ⟨rfl, by decide, ei_9, (List.mem_of_getElem? (i := 381) (by decide +kernel)), .inl rfl⟩ (by decide +kernel) rfl : e_Sn 95 10 (o_getf (e_f1 9 0) 13)) t_95_13
noncomputable def n_95_9 : e_Y := u_ld f_okA f_l0 n_95_10
theorem t_95_9 : e_Sn 95 9 (e_un n_95_9) := u_ldAT f_l0_eq (s_aload (i := .aload_n 0) (len := 1) hq_95 (by decide +kernel) rfl (.inr ⟨0, rfl, rfl, rfl⟩) : e_Sn 95 9 (o_load e_okR 0 10)) t_95_10
noncomputable def n_95_6 : e_Y := u_jmp y_ge (u_old2 (o_clt 9 27) 9 n_95_9 n_95_27) n_95_9 n_95_27
theorem t_95_6 : e_Sn 95 6 (e_un n_95_6) := u_cltT rfl (s_cge (off := (21)) hq_95 (by decide +kernel) rfl rfl : e_Sn 95 6 (o_clt 9 27)) t_95_9 t_95_27
noncomputable def n_95_3 : e_Y := u_push (.inl 2147483776) n_95_6
theorem t_95_3 : e_Sn 95 3 (e_un n_95_3) := u_pushT (s_sipush (n := (128)) hq_95 (by decide +kernel) rfl ⟨by decide +kernel, by decide +kernel⟩ : e_Sn 95 3 (o_push (.inl 2147483776) 6)) t_95_6
noncomputable def n_95_2 : e_Y := u_ld f_okI f_l2 n_95_3
theorem t_95_2 : e_Sn 95 2 (e_un n_95_2) := u_ldIT f_l2_eq (s_iload (i := .iload_n 2) (len := 1) hq_95 (by decide +kernel) rfl (.inr ⟨2, rfl, rfl, rfl⟩) : e_Sn 95 2 (o_load e_okI 2 3)) t_95_3
noncomputable def n_95_1 : e_Y := u_st f_okI f_s2 n_95_2
theorem t_95_1 : e_Sn 95 1 (e_un n_95_1) := u_stIT (fun _ _ _ => f_s2_eq) (s_istore (i := .istore_n 2) (len := 1) hq_95 (by decide +kernel) rfl (.inr ⟨2, rfl, rfl, rfl⟩) : e_Sn 95 1 (o_store e_okI 2 2)) t_95_2
noncomputable def n_95_0 : e_Y := u_push (.inl 2147483648) n_95_1
theorem t_95_0 : e_Sn 95 0 (e_un n_95_0) := u_pushT (s_iconst (n := (0)) hq_95 (by decide +kernel) rfl ⟨by decide +kernel, by decide +kernel⟩ : e_Sn 95 0 (o_push (.inl 2147483648) 1)) t_95_1
noncomputable def e_tb_95 : e_X := (e_br 2 (e_lf 0 (e_un n_95_0)) (e_lf 2 (e_un n_95_2)))
theorem e_tk_95 : e_Tb 95 e_tb_95 := (e_brT (e_lfT t_95_0) (e_lfT t_95_2))
theorem hq_79 : (e_ml[79]?).map (·.2.1) = some prog_6_method_3_code := rfl
theorem ho_79 : (e_ml[79]?).map (·.1.cls) = some "Plateroomprinter$Matrix" := rfl
theorem hr_79 : (e_ml[79]?).map (·.2.2.2) = some none := rfl
noncomputable def n_79_38 : e_Y := u_tab (o_retv)
theorem t_79_38 : e_Sn 79 38 (e_un n_79_38) := u_tabT (s_vret hq_79 hr_79 (by decide +kernel) : e_Sn 79 38 (o_retv))
noncomputable def n_79_35 : e_Y := (u_at 2)
theorem t_79_35 : e_Sn 79 35 (e_un n_79_35) := u_gotoT (s_goto (off := (-33)) hq_79 (by decide +kernel) rfl : e_Sn 79 35 (o_goto 2)) u_atT
noncomputable def n_79_32 : e_Y := u_inc f_l2 f_s2 1 n_79_35
theorem t_79_32 : e_Sn 79 32 (e_un n_79_32) := u_incT f_l2_eq (fun _ _ _ => f_s2_eq) (s_iinc (zz := (1)) hq_79 (by decide +kernel) rfl (by decide +kernel) ⟨by decide, by decide⟩ : e_Sn 79 32 (o_iinc 2 1 35)) t_79_35
noncomputable def n_79_31 : e_Y := u_old (o_ast 2 e_okL 32) n_79_32
theorem t_79_31 : e_Sn 79 31 (e_un n_79_31) := u_oldT (s_last hq_79 (by decide +kernel) rfl : e_Sn 79 31 (o_ast 2 e_okL 32)) t_79_32 (e_cg_ast 2 e_okL)
noncomputable def n_79_30 : e_Y := u_ald 2 (u_old (o_aldO 2 31) n_79_31) n_79_31
theorem t_79_30 : e_Sn 79 30 (e_un n_79_30) := u_aldOT (s_lald hq_79 (by decide +kernel) rfl : e_Sn 79 30 (o_aldO 2 31)) t_79_31
noncomputable def n_79_29 : e_Y := u_ld f_okI f_l2 n_79_30
theorem t_79_29 : e_Sn 79 29 (e_un n_79_29) := u_ldIT f_l2_eq (s_iload (i := .iload_n 2) (len := 1) hq_79 (by decide +kernel) rfl (.inr ⟨2, rfl, rfl, rfl⟩) : e_Sn 79 29 (o_load e_okI 2 30)) t_79_30
noncomputable def n_79_26 : e_Y := u_getf 5 1 (u_old (o_getf (e_f1 5 1) 29) n_79_29) n_79_29
theorem t_79_26 : e_Sn 79 26 (e_un n_79_26) := u_getfT (s_getf (C := er_5) (T := et_5) (N := 5) (ref := "Plateroomprinter$Matrix") (index := 15) (ci := 5) (k := 1) hq_79 ho_79 ⟨rfl, by decide, ei_5, (List.mem_of_getElem? (i := 263) (by decide +kernel)), .inl rfl⟩ (by decide +kernel) rfl : e_Sn 79 26 (o_getf (e_f1 5 1) 29)) t_79_29
noncomputable def n_79_25 : e_Y := u_ld f_okA f_l1 n_79_26
theorem t_79_25 : e_Sn 79 25 (e_un n_79_25) := u_ldAT f_l1_eq (s_aload (i := .aload_n 1) (len := 1) hq_79 (by decide +kernel) rfl (.inr ⟨1, rfl, rfl, rfl⟩) : e_Sn 79 25 (o_load e_okR 1 26)) t_79_26
noncomputable def n_79_24 : e_Y := u_ld f_okI f_l2 n_79_25
theorem t_79_24 : e_Sn 79 24 (e_un n_79_24) := u_ldIT f_l2_eq (s_iload (i := .iload_n 2) (len := 1) hq_79 (by decide +kernel) rfl (.inr ⟨2, rfl, rfl, rfl⟩) : e_Sn 79 24 (o_load e_okI 2 25)) t_79_25
noncomputable def n_79_21 : e_Y := u_getf 5 1 (u_old (o_getf (e_f1 5 1) 24) n_79_24) n_79_24
theorem t_79_21 : e_Sn 79 21 (e_un n_79_21) := u_getfT (s_getf (C := er_5) (T := et_5) (N := 5) (ref := "Plateroomprinter$Matrix") (index := 15) (ci := 5) (k := 1) hq_79 ho_79 ⟨rfl, by decide, ei_5, (List.mem_of_getElem? (i := 263) (by decide +kernel)), .inl rfl⟩ (by decide +kernel) rfl : e_Sn 79 21 (o_getf (e_f1 5 1) 24)) t_79_24
noncomputable def n_79_20 : e_Y := u_ld f_okA f_l0 n_79_21
theorem t_79_20 : e_Sn 79 20 (e_un n_79_20) := u_ldAT f_l0_eq (s_aload (i := .aload_n 0) (len := 1) hq_79 (by decide +kernel) rfl (.inr ⟨0, rfl, rfl, rfl⟩) : e_Sn 79 20 (o_load e_okR 0 21)) t_79_21
noncomputable def n_79_19 : e_Y := u_old (o_ast 2 e_okL 20) n_79_20
theorem t_79_19 : e_Sn 79 19 (e_un n_79_19) := u_oldT (s_last hq_79 (by decide +kernel) rfl : e_Sn 79 19 (o_ast 2 e_okL 20)) t_79_20 (e_cg_ast 2 e_okL)
noncomputable def n_79_18 : e_Y := u_ald 2 (u_old (o_aldO 2 19) n_79_19) n_79_19
theorem t_79_18 : e_Sn 79 18 (e_un n_79_18) := u_aldOT (s_lald hq_79 (by decide +kernel) rfl : e_Sn 79 18 (o_aldO 2 19)) t_79_19
noncomputable def n_79_17 : e_Y := u_ld f_okI f_l2 n_79_18
theorem t_79_17 : e_Sn 79 17 (e_un n_79_17) := u_ldIT f_l2_eq (s_iload (i := .iload_n 2) (len := 1) hq_79 (by decide +kernel) rfl (.inr ⟨2, rfl, rfl, rfl⟩) : e_Sn 79 17 (o_load e_okI 2 18)) t_79_18
noncomputable def n_79_14 : e_Y := u_getf 5 0 (u_old (o_getf (e_f1 5 0) 17) n_79_17) n_79_17
theorem t_79_14 : e_Sn 79 14 (e_un n_79_14) := u_getfT (s_getf (C := er_5) (T := et_5) (N := 5) (ref := "Plateroomprinter$Matrix") (index := 9) (ci := 5) (k := 0) hq_79 ho_79 ⟨rfl, by decide, ei_5, (List.mem_of_getElem? (i := 261) (by decide +kernel)), .inl rfl⟩ (by decide +kernel) rfl : e_Sn 79 14 (o_getf (e_f1 5 0) 17)) t_79_17
noncomputable def n_79_13 : e_Y := u_ld f_okA f_l1 n_79_14
theorem t_79_13 : e_Sn 79 13 (e_un n_79_13) := u_ldAT f_l1_eq (s_aload (i := .aload_n 1) (len := 1) hq_79 (by decide +kernel) rfl (.inr ⟨1, rfl, rfl, rfl⟩) : e_Sn 79 13 (o_load e_okR 1 14)) t_79_14
noncomputable def n_79_12 : e_Y := u_ld f_okI f_l2 n_79_13
theorem t_79_12 : e_Sn 79 12 (e_un n_79_12) := u_ldIT f_l2_eq (s_iload (i := .iload_n 2) (len := 1) hq_79 (by decide +kernel) rfl (.inr ⟨2, rfl, rfl, rfl⟩) : e_Sn 79 12 (o_load e_okI 2 13)) t_79_13
noncomputable def n_79_9 : e_Y := u_getf 5 0 (u_old (o_getf (e_f1 5 0) 12) n_79_12) n_79_12
theorem t_79_9 : e_Sn 79 9 (e_un n_79_9) := u_getfT (s_getf (C := er_5) (T := et_5) (N := 5) (ref := "Plateroomprinter$Matrix") (index := 9) (ci := 5) (k := 0) hq_79 ho_79 ⟨rfl, by decide, ei_5, (List.mem_of_getElem? (i := 261) (by decide +kernel)), .inl rfl⟩ (by decide +kernel) rfl : e_Sn 79 9 (o_getf (e_f1 5 0) 12)) t_79_12
noncomputable def n_79_8 : e_Y := u_ld f_okA f_l0 n_79_9
theorem t_79_8 : e_Sn 79 8 (e_un n_79_8) := u_ldAT f_l0_eq (s_aload (i := .aload_n 0) (len := 1) hq_79 (by decide +kernel) rfl (.inr ⟨0, rfl, rfl, rfl⟩) : e_Sn 79 8 (o_load e_okR 0 9)) t_79_9
noncomputable def n_79_5 : e_Y := u_jmp y_ge (u_old2 (o_clt 8 38) 8 n_79_8 n_79_38) n_79_8 n_79_38
theorem t_79_5 : e_Sn 79 5 (e_un n_79_5) := u_cltT rfl (s_cge (off := (33)) hq_79 (by decide +kernel) rfl rfl : e_Sn 79 5 (o_clt 8 38)) t_79_8 t_79_38
noncomputable def n_79_3 : e_Y := u_push (.inl 2147483654) n_79_5
theorem t_79_3 : e_Sn 79 3 (e_un n_79_3) := u_pushT (s_bipush (n := (6)) hq_79 (by decide +kernel) rfl ⟨by decide +kernel, by decide +kernel⟩ : e_Sn 79 3 (o_push (.inl 2147483654) 5)) t_79_5
noncomputable def n_79_2 : e_Y := u_ld f_okI f_l2 n_79_3
theorem t_79_2 : e_Sn 79 2 (e_un n_79_2) := u_ldIT f_l2_eq (s_iload (i := .iload_n 2) (len := 1) hq_79 (by decide +kernel) rfl (.inr ⟨2, rfl, rfl, rfl⟩) : e_Sn 79 2 (o_load e_okI 2 3)) t_79_3
noncomputable def n_79_1 : e_Y := u_st f_okI f_s2 n_79_2
theorem t_79_1 : e_Sn 79 1 (e_un n_79_1) := u_stIT (fun _ _ _ => f_s2_eq) (s_istore (i := .istore_n 2) (len := 1) hq_79 (by decide +kernel) rfl (.inr ⟨2, rfl, rfl, rfl⟩) : e_Sn 79 1 (o_store e_okI 2 2)) t_79_2
noncomputable def n_79_0 : e_Y := u_push (.inl 2147483648) n_79_1
theorem t_79_0 : e_Sn 79 0 (e_un n_79_0) := u_pushT (s_iconst (n := (0)) hq_79 (by decide +kernel) rfl ⟨by decide +kernel, by decide +kernel⟩ : e_Sn 79 0 (o_push (.inl 2147483648) 1)) t_79_1
noncomputable def e_tb_79 : e_X := (e_br 2 (e_lf 0 (e_un n_79_0)) (e_lf 2 (e_un n_79_2)))
theorem e_tk_79 : e_Tb 79 e_tb_79 := (e_brT (e_lfT t_79_0) (e_lfT t_79_2))
end SN
